theorem dX6_advance_0 : decode cX6_advance 0 = .ok (.aload_n 0, 1) := by decide +kernel
theorem dX6_advance_1 : decode cX6_advance 1 = .ok (.iconst 0, 1) := by decide +kernel
theorem dX6_advance_2 : decode cX6_advance 2 = .ok (.putfield 100, 3) := by decide +kernel
theorem dX6_advance_5 : decode cX6_advance 5 = .ok (.iconst 0, 1) := by decide +kernel
theorem dX6_advance_6 : decode cX6_advance 6 = .ok (.istore_n 3, 1) := by decide +kernel
theorem dX6_advance_7 : decode cX6_advance 7 = .ok (.iload_n 3, 1) := by decide +kernel
theorem dX6_advance_8 : decode cX6_advance 8 = .ok (.bipush 12, 2) := by decide +kernel
theorem dX6_advance_10 : decode cX6_advance 10 = .ok (.if_icmp .ge 16, 3) := by decide +kernel
theorem dX6_advance_13 : decode cX6_advance 13 = .ok (.aload_n 0, 1) := by decide +kernel
theorem dX6_advance_14 : decode cX6_advance 14 = .ok (.getfield 46, 3) := by decide +kernel
theorem dX6_advance_17 : decode cX6_advance 17 = .ok (.iload_n 3, 1) := by decide +kernel
theorem dX6_advance_18 : decode cX6_advance 18 = .ok (.iconst 0, 1) := by decide +kernel
theorem dX6_advance_19 : decode cX6_advance 19 = .ok (.iastore, 1) := by decide +kernel
theorem dX6_advance_20 : decode cX6_advance 20 = .ok (.iinc 3 1, 3) := by decide +kernel
theorem dX6_advance_23 : decode cX6_advance 23 = .ok (.goto (-16), 3) := by decide +kernel
theorem dX6_advance_26 : decode cX6_advance 26 = .ok (.iconst 0, 1) := by decide +kernel
theorem dX6_advance_27 : decode cX6_advance 27 = .ok (.istore_n 3, 1) := by decide +kernel
theorem dX6_advance_28 : decode cX6_advance 28 = .ok (.iload_n 3, 1) := by decide +kernel
theorem dX6_advance_29 : decode cX6_advance 29 = .ok (.bipush 96, 2) := by decide +kernel
theorem dX6_advance_31 : decode cX6_advance 31 = .ok (.if_icmp .ge 60, 3) := by decide +kernel
theorem dX6_advance_34 : decode cX6_advance 34 = .ok (.aload_n 1, 1) := by decide +kernel
theorem dX6_advance_35 : decode cX6_advance 35 = .ok (.iload_n 3, 1) := by decide +kernel
theorem dX6_advance_36 : decode cX6_advance 36 = .ok (.iaload, 1) := by decide +kernel
theorem dX6_advance_37 : decode cX6_advance 37 = .ok (.invokestatic 103, 3) := by decide +kernel
theorem dX6_advance_40 : decode cX6_advance 40 = .ok (.ifCond .eq 31, 3) := by decide +kernel
theorem dX6_advance_43 : decode cX6_advance 43 = .ok (.aload_n 1, 1) := by decide +kernel
theorem dX6_advance_44 : decode cX6_advance 44 = .ok (.iload_n 3, 1) := by decide +kernel
theorem dX6_advance_45 : decode cX6_advance 45 = .ok (.aload_n 1, 1) := by decide +kernel
theorem dX6_advance_46 : decode cX6_advance 46 = .ok (.iload_n 3, 1) := by decide +kernel
theorem dX6_advance_47 : decode cX6_advance 47 = .ok (.iaload, 1) := by decide +kernel
theorem dX6_advance_48 : decode cX6_advance 48 = .ok (.invokestatic 106, 3) := by decide +kernel
theorem dX6_advance_51 : decode cX6_advance 51 = .ok (.iastore, 1) := by decide +kernel
theorem dX6_advance_52 : decode cX6_advance 52 = .ok (.aload_n 2, 1) := by decide +kernel
theorem dX6_advance_53 : decode cX6_advance 53 = .ok (.iload_n 3, 1) := by decide +kernel
theorem dX6_advance_54 : decode cX6_advance 54 = .ok (.aload_n 2, 1) := by decide +kernel
theorem dX6_advance_55 : decode cX6_advance 55 = .ok (.iload_n 3, 1) := by decide +kernel
theorem dX6_advance_56 : decode cX6_advance 56 = .ok (.iaload, 1) := by decide +kernel
theorem dX6_advance_57 : decode cX6_advance 57 = .ok (.invokestatic 106, 3) := by decide +kernel
theorem dX6_advance_60 : decode cX6_advance 60 = .ok (.iastore, 1) := by decide +kernel
theorem dX6_advance_61 : decode cX6_advance 61 = .ok (.aload_n 0, 1) := by decide +kernel
theorem dX6_advance_62 : decode cX6_advance 62 = .ok (.dup, 1) := by decide +kernel
theorem dX6_advance_63 : decode cX6_advance 63 = .ok (.getfield 100, 3) := by decide +kernel
theorem dX6_advance_66 : decode cX6_advance 66 = .ok (.iconst 1, 1) := by decide +kernel
theorem dX6_advance_67 : decode cX6_advance 67 = .ok (.iadd, 1) := by decide +kernel
theorem dX6_advance_68 : decode cX6_advance 68 = .ok (.putfield 100, 3) := by decide +kernel
theorem dX6_advance_71 : decode cX6_advance 71 = .ok (.aload_n 0, 1) := by decide +kernel
theorem dX6_advance_72 : decode cX6_advance 72 = .ok (.getfield 22, 3) := by decide +kernel
theorem dX6_advance_75 : decode cX6_advance 75 = .ok (.iload_n 3, 1) := by decide +kernel
theorem dX6_advance_76 : decode cX6_advance 76 = .ok (.iconst 0, 1) := by decide +kernel
theorem dX6_advance_77 : decode cX6_advance 77 = .ok (.iastore, 1) := by decide +kernel
theorem dX6_advance_78 : decode cX6_advance 78 = .ok (.aload_n 0, 1) := by decide +kernel
theorem dX6_advance_79 : decode cX6_advance 79 = .ok (.getfield 25, 3) := by decide +kernel
theorem dX6_advance_82 : decode cX6_advance 82 = .ok (.iload_n 3, 1) := by decide +kernel
theorem dX6_advance_83 : decode cX6_advance 83 = .ok (.iconst 0, 1) := by decide +kernel
theorem dX6_advance_84 : decode cX6_advance 84 = .ok (.iastore, 1) := by decide +kernel
theorem dX6_advance_85 : decode cX6_advance 85 = .ok (.iinc 3 1, 3) := by decide +kernel
theorem dX6_advance_88 : decode cX6_advance 88 = .ok (.goto (-60), 3) := by decide +kernel
theorem dX6_advance_91 : decode cX6_advance 91 = .ok (.iconst 0, 1) := by decide +kernel
theorem dX6_advance_92 : decode cX6_advance 92 = .ok (.istore_n 3, 1) := by decide +kernel
theorem dX6_advance_93 : decode cX6_advance 93 = .ok (.iload_n 3, 1) := by decide +kernel
theorem dX6_advance_94 : decode cX6_advance 94 = .ok (.bipush 96, 2) := by decide +kernel
theorem dX6_advance_96 : decode cX6_advance 96 = .ok (.if_icmp .ge 125, 3) := by decide +kernel
theorem dX6_advance_99 : decode cX6_advance 99 = .ok (.iconst 0, 1) := by decide +kernel
theorem dX6_advance_100 : decode cX6_advance 100 = .ok (.istore 4, 2) := by decide +kernel
theorem dX6_advance_102 : decode cX6_advance 102 = .ok (.iload 4, 2) := by decide +kernel
theorem dX6_advance_104 : decode cX6_advance 104 = .ok (.iconst 4, 1) := by decide +kernel
theorem dX6_advance_105 : decode cX6_advance 105 = .ok (.if_icmp .ge 110, 3) := by decide +kernel
theorem dX6_advance_108 : decode cX6_advance 108 = .ok (.aload_n 1, 1) := by decide +kernel
theorem dX6_advance_109 : decode cX6_advance 109 = .ok (.iload_n 3, 1) := by decide +kernel
theorem dX6_advance_110 : decode cX6_advance 110 = .ok (.iaload, 1) := by decide +kernel
theorem dX6_advance_111 : decode cX6_advance 111 = .ok (.iload 4, 2) := by decide +kernel
theorem dX6_advance_113 : decode cX6_advance 113 = .ok (.ishr, 1) := by decide +kernel
theorem dX6_advance_114 : decode cX6_advance 114 = .ok (.iconst 1, 1) := by decide +kernel
theorem dX6_advance_115 : decode cX6_advance 115 = .ok (.iand, 1) := by decide +kernel
theorem dX6_advance_116 : decode cX6_advance 116 = .ok (.iconst 1, 1) := by decide +kernel
theorem dX6_advance_117 : decode cX6_advance 117 = .ok (.if_icmp .ne 92, 3) := by decide +kernel
theorem dX6_advance_120 : decode cX6_advance 120 = .ok (.iload_n 3, 1) := by decide +kernel
theorem dX6_advance_121 : decode cX6_advance 121 = .ok (.iload 4, 2) := by decide +kernel
theorem dX6_advance_123 : decode cX6_advance 123 = .ok (.invokestatic 109, 3) := by decide +kernel
theorem dX6_advance_126 : decode cX6_advance 126 = .ok (.istore 5, 2) := by decide +kernel
theorem dX6_advance_128 : decode cX6_advance 128 = .ok (.aload_n 0, 1) := by decide +kernel
theorem dX6_advance_129 : decode cX6_advance 129 = .ok (.iload 5, 2) := by decide +kernel
theorem dX6_advance_131 : decode cX6_advance 131 = .ok (.invokevirtual 113, 3) := by decide +kernel
theorem dX6_advance_134 : decode cX6_advance 134 = .ok (.ifCond .eq 7, 3) := by decide +kernel
theorem dX6_advance_137 : decode cX6_advance 137 = .ok (.iload_n 3, 1) := by decide +kernel
theorem dX6_advance_138 : decode cX6_advance 138 = .ok (.goto 5, 3) := by decide +kernel
theorem dX6_advance_141 : decode cX6_advance 141 = .ok (.iload 5, 2) := by decide +kernel
theorem dX6_advance_143 : decode cX6_advance 143 = .ok (.istore 6, 2) := by decide +kernel
theorem dX6_advance_145 : decode cX6_advance 145 = .ok (.aload_n 0, 1) := by decide +kernel
theorem dX6_advance_146 : decode cX6_advance 146 = .ok (.iload 5, 2) := by decide +kernel
theorem dX6_advance_148 : decode cX6_advance 148 = .ok (.invokevirtual 113, 3) := by decide +kernel
theorem dX6_advance_151 : decode cX6_advance 151 = .ok (.ifCond .eq 11, 3) := by decide +kernel
theorem dX6_advance_154 : decode cX6_advance 154 = .ok (.iload 4, 2) := by decide +kernel
theorem dX6_advance_156 : decode cX6_advance 156 = .ok (.invokestatic 116, 3) := by decide +kernel
theorem dX6_advance_159 : decode cX6_advance 159 = .ok (.goto 5, 3) := by decide +kernel
theorem dX6_advance_162 : decode cX6_advance 162 = .ok (.iload 4, 2) := by decide +kernel
theorem dX6_advance_164 : decode cX6_advance 164 = .ok (.istore 7, 2) := by decide +kernel
theorem dX6_advance_166 : decode cX6_advance 166 = .ok (.aload_n 0, 1) := by decide +kernel
theorem dX6_advance_167 : decode cX6_advance 167 = .ok (.getfield 22, 3) := by decide +kernel
theorem dX6_advance_170 : decode cX6_advance 170 = .ok (.iload 6, 2) := by decide +kernel
theorem dX6_advance_172 : decode cX6_advance 172 = .ok (.dup2, 1) := by decide +kernel
theorem dX6_advance_173 : decode cX6_advance 173 = .ok (.iaload, 1) := by decide +kernel
theorem dX6_advance_174 : decode cX6_advance 174 = .ok (.iconst 1, 1) := by decide +kernel
theorem dX6_advance_175 : decode cX6_advance 175 = .ok (.iload 7, 2) := by decide +kernel
theorem dX6_advance_177 : decode cX6_advance 177 = .ok (.ishl, 1) := by decide +kernel
theorem dX6_advance_178 : decode cX6_advance 178 = .ok (.ior, 1) := by decide +kernel
theorem dX6_advance_179 : decode cX6_advance 179 = .ok (.iastore, 1) := by decide +kernel
theorem dX6_advance_180 : decode cX6_advance 180 = .ok (.aload_n 0, 1) := by decide +kernel
theorem dX6_advance_181 : decode cX6_advance 181 = .ok (.getfield 25, 3) := by decide +kernel
theorem dX6_advance_184 : decode cX6_advance 184 = .ok (.iload 6, 2) := by decide +kernel
theorem dX6_advance_186 : decode cX6_advance 186 = .ok (.dup2, 1) := by decide +kernel
theorem dX6_advance_187 : decode cX6_advance 187 = .ok (.iaload, 1) := by decide +kernel
theorem dX6_advance_188 : decode cX6_advance 188 = .ok (.aload_n 2, 1) := by decide +kernel
theorem dX6_advance_189 : decode cX6_advance 189 = .ok (.iload_n 3, 1) := by decide +kernel
theorem dX6_advance_190 : decode cX6_advance 190 = .ok (.iaload, 1) := by decide +kernel
theorem dX6_advance_191 : decode cX6_advance 191 = .ok (.iload 4, 2) := by decide +kernel
theorem dX6_advance_193 : decode cX6_advance 193 = .ok (.ishr, 1) := by decide +kernel
theorem dX6_advance_194 : decode cX6_advance 194 = .ok (.iconst 1, 1) := by decide +kernel
theorem dX6_advance_195 : decode cX6_advance 195 = .ok (.iand, 1) := by decide +kernel
theorem dX6_advance_196 : decode cX6_advance 196 = .ok (.iload 7, 2) := by decide +kernel
theorem dX6_advance_198 : decode cX6_advance 198 = .ok (.ishl, 1) := by decide +kernel
theorem dX6_advance_199 : decode cX6_advance 199 = .ok (.ior, 1) := by decide +kernel
theorem dX6_advance_200 : decode cX6_advance 200 = .ok (.iastore, 1) := by decide +kernel
theorem dX6_advance_201 : decode cX6_advance 201 = .ok (.aload_n 0, 1) := by decide +kernel
theorem dX6_advance_202 : decode cX6_advance 202 = .ok (.iload 5, 2) := by decide +kernel
theorem dX6_advance_204 : decode cX6_advance 204 = .ok (.iload 4, 2) := by decide +kernel
theorem dX6_advance_206 : decode cX6_advance 206 = .ok (.invokevirtual 119, 3) := by decide +kernel
theorem dX6_advance_209 : decode cX6_advance 209 = .ok (.iinc 4 1, 3) := by decide +kernel
theorem dX6_advance_212 : decode cX6_advance 212 = .ok (.goto (-110), 3) := by decide +kernel
theorem dX6_advance_215 : decode cX6_advance 215 = .ok (.iinc 3 1, 3) := by decide +kernel
theorem dX6_advance_218 : decode cX6_advance 218 = .ok (.goto (-125), 3) := by decide +kernel
theorem dX6_advance_221 : decode cX6_advance 221 = .ok (.iconst 0, 1) := by decide +kernel
theorem dX6_advance_222 : decode cX6_advance 222 = .ok (.istore_n 3, 1) := by decide +kernel
theorem dX6_advance_223 : decode cX6_advance 223 = .ok (.iload_n 3, 1) := by decide +kernel
theorem dX6_advance_224 : decode cX6_advance 224 = .ok (.bipush 96, 2) := by decide +kernel
theorem dX6_advance_226 : decode cX6_advance 226 = .ok (.if_icmp .ge 76, 3) := by decide +kernel
theorem dX6_advance_229 : decode cX6_advance 229 = .ok (.aload_n 1, 1) := by decide +kernel
theorem dX6_advance_230 : decode cX6_advance 230 = .ok (.iload_n 3, 1) := by decide +kernel
theorem dX6_advance_231 : decode cX6_advance 231 = .ok (.aload_n 0, 1) := by decide +kernel
theorem dX6_advance_232 : decode cX6_advance 232 = .ok (.getfield 7, 3) := by decide +kernel
theorem dX6_advance_235 : decode cX6_advance 235 = .ok (.iload_n 3, 1) := by decide +kernel
theorem dX6_advance_236 : decode cX6_advance 236 = .ok (.iaload, 1) := by decide +kernel
theorem dX6_advance_237 : decode cX6_advance 237 = .ok (.iconst 3, 1) := by decide +kernel
theorem dX6_advance_238 : decode cX6_advance 238 = .ok (.if_icmp .ne 7, 3) := by decide +kernel
theorem dX6_advance_241 : decode cX6_advance 241 = .ok (.iconst 0, 1) := by decide +kernel
theorem dX6_advance_242 : decode cX6_advance 242 = .ok (.goto 30, 3) := by decide +kernel
theorem dX6_advance_245 : decode cX6_advance 245 = .ok (.aload_n 0, 1) := by decide +kernel
theorem dX6_advance_246 : decode cX6_advance 246 = .ok (.getfield 7, 3) := by decide +kernel
theorem dX6_advance_249 : decode cX6_advance 249 = .ok (.iload_n 3, 1) := by decide +kernel
theorem dX6_advance_250 : decode cX6_advance 250 = .ok (.iaload, 1) := by decide +kernel
theorem dX6_advance_251 : decode cX6_advance 251 = .ok (.iconst 2, 1) := by decide +kernel
theorem dX6_advance_252 : decode cX6_advance 252 = .ok (.if_icmp .ne 14, 3) := by decide +kernel
theorem dX6_advance_255 : decode cX6_advance 255 = .ok (.aload_n 0, 1) := by decide +kernel
theorem dX6_advance_256 : decode cX6_advance 256 = .ok (.getfield 22, 3) := by decide +kernel
theorem dX6_advance_259 : decode cX6_advance 259 = .ok (.iload_n 3, 1) := by decide +kernel
theorem dX6_advance_260 : decode cX6_advance 260 = .ok (.iaload, 1) := by decide +kernel
theorem dX6_advance_261 : decode cX6_advance 261 = .ok (.iconst 1, 1) := by decide +kernel
theorem dX6_advance_262 : decode cX6_advance 262 = .ok (.ior, 1) := by decide +kernel
theorem dX6_advance_263 : decode cX6_advance 263 = .ok (.goto 9, 3) := by decide +kernel
theorem dX6_advance_266 : decode cX6_advance 266 = .ok (.aload_n 0, 1) := by decide +kernel
theorem dX6_advance_267 : decode cX6_advance 267 = .ok (.getfield 22, 3) := by decide +kernel
theorem dX6_advance_270 : decode cX6_advance 270 = .ok (.iload_n 3, 1) := by decide +kernel
theorem dX6_advance_271 : decode cX6_advance 271 = .ok (.iaload, 1) := by decide +kernel
theorem dX6_advance_272 : decode cX6_advance 272 = .ok (.iastore, 1) := by decide +kernel
theorem dX6_advance_273 : decode cX6_advance 273 = .ok (.aload_n 2, 1) := by decide +kernel
theorem dX6_advance_274 : decode cX6_advance 274 = .ok (.iload_n 3, 1) := by decide +kernel
theorem dX6_advance_275 : decode cX6_advance 275 = .ok (.aload_n 0, 1) := by decide +kernel
theorem dX6_advance_276 : decode cX6_advance 276 = .ok (.getfield 7, 3) := by decide +kernel
theorem dX6_advance_279 : decode cX6_advance 279 = .ok (.iload_n 3, 1) := by decide +kernel
theorem dX6_advance_280 : decode cX6_advance 280 = .ok (.iaload, 1) := by decide +kernel
theorem dX6_advance_281 : decode cX6_advance 281 = .ok (.iconst 3, 1) := by decide +kernel
theorem dX6_advance_282 : decode cX6_advance 282 = .ok (.if_icmp .ne 7, 3) := by decide +kernel
theorem dX6_advance_285 : decode cX6_advance 285 = .ok (.iconst 0, 1) := by decide +kernel
theorem dX6_advance_286 : decode cX6_advance 286 = .ok (.goto 9, 3) := by decide +kernel
theorem dX6_advance_289 : decode cX6_advance 289 = .ok (.aload_n 0, 1) := by decide +kernel
theorem dX6_advance_290 : decode cX6_advance 290 = .ok (.getfield 25, 3) := by decide +kernel
theorem dX6_advance_293 : decode cX6_advance 293 = .ok (.iload_n 3, 1) := by decide +kernel
theorem dX6_advance_294 : decode cX6_advance 294 = .ok (.iaload, 1) := by decide +kernel
theorem dX6_advance_295 : decode cX6_advance 295 = .ok (.iastore, 1) := by decide +kernel
theorem dX6_advance_296 : decode cX6_advance 296 = .ok (.iinc 3 1, 3) := by decide +kernel
theorem dX6_advance_299 : decode cX6_advance 299 = .ok (.goto (-76), 3) := by decide +kernel
theorem dX6_advance_302 : decode cX6_advance 302 = .ok (.return_, 1) := by decide +kernel
theorem dX6_hit_0 : decode cX6_hit 0 = .ok (.iload_n 1, 1) := by decide +kernel
theorem dX6_hit_1 : decode cX6_hit 1 = .ok (.iconst (-1), 1) := by decide +kernel
theorem dX6_hit_2 : decode cX6_hit 2 = .ok (.if_icmp .eq 103, 3) := by decide +kernel
theorem dX6_hit_5 : decode cX6_hit 5 = .ok (.aload_n 0, 1) := by decide +kernel
theorem dX6_hit_6 : decode cX6_hit 6 = .ok (.getfield 7, 3) := by decide +kernel
theorem dX6_hit_9 : decode cX6_hit 9 = .ok (.iload_n 1, 1) := by decide +kernel
theorem dX6_hit_10 : decode cX6_hit 10 = .ok (.iaload, 1) := by decide +kernel
theorem dX6_hit_11 : decode cX6_hit 11 = .ok (.iconst 1, 1) := by decide +kernel
theorem dX6_hit_12 : decode cX6_hit 12 = .ok (.if_icmp .ne 93, 3) := by decide +kernel
theorem dX6_hit_15 : decode cX6_hit 15 = .ok (.aload_n 0, 1) := by decide +kernel
theorem dX6_hit_16 : decode cX6_hit 16 = .ok (.getfield 13, 3) := by decide +kernel
theorem dX6_hit_19 : decode cX6_hit 19 = .ok (.iload_n 1, 1) := by decide +kernel
theorem dX6_hit_20 : decode cX6_hit 20 = .ok (.iaload, 1) := by decide +kernel
theorem dX6_hit_21 : decode cX6_hit 21 = .ok (.iconst (-1), 1) := by decide +kernel
theorem dX6_hit_22 : decode cX6_hit 22 = .ok (.if_icmp .eq 83, 3) := by decide +kernel
theorem dX6_hit_25 : decode cX6_hit 25 = .ok (.iconst 3, 1) := by decide +kernel
theorem dX6_hit_26 : decode cX6_hit 26 = .ok (.aload_n 0, 1) := by decide +kernel
theorem dX6_hit_27 : decode cX6_hit 27 = .ok (.getfield 13, 3) := by decide +kernel
theorem dX6_hit_30 : decode cX6_hit 30 = .ok (.iload_n 1, 1) := by decide +kernel
theorem dX6_hit_31 : decode cX6_hit 31 = .ok (.iaload, 1) := by decide +kernel
theorem dX6_hit_32 : decode cX6_hit 32 = .ok (.imul, 1) := by decide +kernel
theorem dX6_hit_33 : decode cX6_hit 33 = .ok (.istore_n 3, 1) := by decide +kernel
theorem dX6_hit_34 : decode cX6_hit 34 = .ok (.aload_n 0, 1) := by decide +kernel
theorem dX6_hit_35 : decode cX6_hit 35 = .ok (.getfield 46, 3) := by decide +kernel
theorem dX6_hit_38 : decode cX6_hit 38 = .ok (.iload_n 3, 1) := by decide +kernel
theorem dX6_hit_39 : decode cX6_hit 39 = .ok (.dup2, 1) := by decide +kernel
theorem dX6_hit_40 : decode cX6_hit 40 = .ok (.iaload, 1) := by decide +kernel
theorem dX6_hit_41 : decode cX6_hit 41 = .ok (.iconst 1, 1) := by decide +kernel
theorem dX6_hit_42 : decode cX6_hit 42 = .ok (.iadd, 1) := by decide +kernel
theorem dX6_hit_43 : decode cX6_hit 43 = .ok (.iastore, 1) := by decide +kernel
theorem dX6_hit_44 : decode cX6_hit 44 = .ok (.aload_n 0, 1) := by decide +kernel
theorem dX6_hit_45 : decode cX6_hit 45 = .ok (.getfield 46, 3) := by decide +kernel
theorem dX6_hit_48 : decode cX6_hit 48 = .ok (.iload_n 3, 1) := by decide +kernel
theorem dX6_hit_49 : decode cX6_hit 49 = .ok (.iconst 1, 1) := by decide +kernel
theorem dX6_hit_50 : decode cX6_hit 50 = .ok (.iadd, 1) := by decide +kernel
theorem dX6_hit_51 : decode cX6_hit 51 = .ok (.dup2, 1) := by decide +kernel
theorem dX6_hit_52 : decode cX6_hit 52 = .ok (.iaload, 1) := by decide +kernel
theorem dX6_hit_53 : decode cX6_hit 53 = .ok (.iload_n 2, 1) := by decide +kernel
theorem dX6_hit_54 : decode cX6_hit 54 = .ok (.ifCond .ne 7, 3) := by decide +kernel
theorem dX6_hit_57 : decode cX6_hit 57 = .ok (.iconst 2, 1) := by decide +kernel
theorem dX6_hit_58 : decode cX6_hit 58 = .ok (.goto 14, 3) := by decide +kernel
theorem dX6_hit_61 : decode cX6_hit 61 = .ok (.iload_n 2, 1) := by decide +kernel
theorem dX6_hit_62 : decode cX6_hit 62 = .ok (.iconst 2, 1) := by decide +kernel
theorem dX6_hit_63 : decode cX6_hit 63 = .ok (.if_icmp .ne 8, 3) := by decide +kernel
theorem dX6_hit_66 : decode cX6_hit 66 = .ok (.bipush (-2), 2) := by decide +kernel
theorem dX6_hit_68 : decode cX6_hit 68 = .ok (.goto 4, 3) := by decide +kernel
theorem dX6_hit_71 : decode cX6_hit 71 = .ok (.iconst 0, 1) := by decide +kernel
theorem dX6_hit_72 : decode cX6_hit 72 = .ok (.iadd, 1) := by decide +kernel
theorem dX6_hit_73 : decode cX6_hit 73 = .ok (.iastore, 1) := by decide +kernel
theorem dX6_hit_74 : decode cX6_hit 74 = .ok (.aload_n 0, 1) := by decide +kernel
theorem dX6_hit_75 : decode cX6_hit 75 = .ok (.getfield 46, 3) := by decide +kernel
theorem dX6_hit_78 : decode cX6_hit 78 = .ok (.iload_n 3, 1) := by decide +kernel
theorem dX6_hit_79 : decode cX6_hit 79 = .ok (.iconst 2, 1) := by decide +kernel
theorem dX6_hit_80 : decode cX6_hit 80 = .ok (.iadd, 1) := by decide +kernel
theorem dX6_hit_81 : decode cX6_hit 81 = .ok (.dup2, 1) := by decide +kernel
theorem dX6_hit_82 : decode cX6_hit 82 = .ok (.iaload, 1) := by decide +kernel
theorem dX6_hit_83 : decode cX6_hit 83 = .ok (.iload_n 2, 1) := by decide +kernel
theorem dX6_hit_84 : decode cX6_hit 84 = .ok (.iconst 1, 1) := by decide +kernel
theorem dX6_hit_85 : decode cX6_hit 85 = .ok (.if_icmp .ne 7, 3) := by decide +kernel
theorem dX6_hit_88 : decode cX6_hit 88 = .ok (.iconst 2, 1) := by decide +kernel
theorem dX6_hit_89 : decode cX6_hit 89 = .ok (.goto 14, 3) := by decide +kernel
theorem dX6_hit_92 : decode cX6_hit 92 = .ok (.iload_n 2, 1) := by decide +kernel
theorem dX6_hit_93 : decode cX6_hit 93 = .ok (.iconst 3, 1) := by decide +kernel
theorem dX6_hit_94 : decode cX6_hit 94 = .ok (.if_icmp .ne 8, 3) := by decide +kernel
theorem dX6_hit_97 : decode cX6_hit 97 = .ok (.bipush (-2), 2) := by decide +kernel
theorem dX6_hit_99 : decode cX6_hit 99 = .ok (.goto 4, 3) := by decide +kernel
theorem dX6_hit_102 : decode cX6_hit 102 = .ok (.iconst 0, 1) := by decide +kernel
theorem dX6_hit_103 : decode cX6_hit 103 = .ok (.iadd, 1) := by decide +kernel
theorem dX6_hit_104 : decode cX6_hit 104 = .ok (.iastore, 1) := by decide +kernel
theorem dX6_hit_105 : decode cX6_hit 105 = .ok (.return_, 1) := by decide +kernel
theorem dX6_hasOpen_0 : decode cX6_hasOpen 0 = .ok (.iconst 0, 1) := by decide +kernel
theorem dX6_hasOpen_1 : decode cX6_hasOpen 1 = .ok (.istore_n 1, 1) := by decide +kernel
theorem dX6_hasOpen_2 : decode cX6_hasOpen 2 = .ok (.iconst 0, 1) := by decide +kernel
theorem dX6_hasOpen_3 : decode cX6_hasOpen 3 = .ok (.istore_n 2, 1) := by decide +kernel
theorem dX6_hasOpen_4 : decode cX6_hasOpen 4 = .ok (.iload_n 2, 1) := by decide +kernel
theorem dX6_hasOpen_5 : decode cX6_hasOpen 5 = .ok (.bipush 96, 2) := by decide +kernel
theorem dX6_hasOpen_7 : decode cX6_hasOpen 7 = .ok (.if_icmp .ge 39, 3) := by decide +kernel
theorem dX6_hasOpen_10 : decode cX6_hasOpen 10 = .ok (.iload_n 1, 1) := by decide +kernel
theorem dX6_hasOpen_11 : decode cX6_hasOpen 11 = .ok (.ifCond .ne 23, 3) := by decide +kernel
theorem dX6_hasOpen_14 : decode cX6_hasOpen 14 = .ok (.aload_n 0, 1) := by decide +kernel
theorem dX6_hasOpen_15 : decode cX6_hasOpen 15 = .ok (.getfield 7, 3) := by decide +kernel
theorem dX6_hasOpen_18 : decode cX6_hasOpen 18 = .ok (.iload_n 2, 1) := by decide +kernel
theorem dX6_hasOpen_19 : decode cX6_hasOpen 19 = .ok (.iaload, 1) := by decide +kernel
theorem dX6_hasOpen_20 : decode cX6_hasOpen 20 = .ok (.iconst 2, 1) := by decide +kernel
theorem dX6_hasOpen_21 : decode cX6_hasOpen 21 = .ok (.if_icmp .eq 13, 3) := by decide +kernel
theorem dX6_hasOpen_24 : decode cX6_hasOpen 24 = .ok (.aload_n 0, 1) := by decide +kernel
theorem dX6_hasOpen_25 : decode cX6_hasOpen 25 = .ok (.getfield 7, 3) := by decide +kernel
theorem dX6_hasOpen_28 : decode cX6_hasOpen 28 = .ok (.iload_n 2, 1) := by decide +kernel
theorem dX6_hasOpen_29 : decode cX6_hasOpen 29 = .ok (.iaload, 1) := by decide +kernel
theorem dX6_hasOpen_30 : decode cX6_hasOpen 30 = .ok (.iconst 3, 1) := by decide +kernel
theorem dX6_hasOpen_31 : decode cX6_hasOpen 31 = .ok (.if_icmp .ne 7, 3) := by decide +kernel
theorem dX6_hasOpen_34 : decode cX6_hasOpen 34 = .ok (.iconst 1, 1) := by decide +kernel
theorem dX6_hasOpen_35 : decode cX6_hasOpen 35 = .ok (.goto 4, 3) := by decide +kernel
theorem dX6_hasOpen_38 : decode cX6_hasOpen 38 = .ok (.iconst 0, 1) := by decide +kernel
theorem dX6_hasOpen_39 : decode cX6_hasOpen 39 = .ok (.istore_n 1, 1) := by decide +kernel
theorem dX6_hasOpen_40 : decode cX6_hasOpen 40 = .ok (.iinc 2 1, 3) := by decide +kernel
theorem dX6_hasOpen_43 : decode cX6_hasOpen 43 = .ok (.goto (-39), 3) := by decide +kernel
theorem dX6_hasOpen_46 : decode cX6_hasOpen 46 = .ok (.iload_n 1, 1) := by decide +kernel
theorem dX6_hasOpen_47 : decode cX6_hasOpen 47 = .ok (.ireturn, 1) := by decide +kernel
theorem dX6_step_0 : decode cX6_step 0 = .ok (.aload_n 0, 1) := by decide +kernel
theorem dX6_step_1 : decode cX6_step 1 = .ok (.iload_n 1, 1) := by decide +kernel
theorem dX6_step_2 : decode cX6_step 2 = .ok (.iconst 1, 1) := by decide +kernel
theorem dX6_step_3 : decode cX6_step 3 = .ok (.sipush 200, 3) := by decide +kernel
theorem dX6_step_6 : decode cX6_step 6 = .ok (.invokestatic 62, 3) := by decide +kernel
theorem dX6_step_9 : decode cX6_step 9 = .ok (.ifCond .ne 7, 3) := by decide +kernel
theorem dX6_step_12 : decode cX6_step 12 = .ok (.iconst 1, 1) := by decide +kernel
theorem dX6_step_13 : decode cX6_step 13 = .ok (.goto 20, 3) := by decide +kernel
theorem dX6_step_16 : decode cX6_step 16 = .ok (.aload_n 0, 1) := by decide +kernel
theorem dX6_step_17 : decode cX6_step 17 = .ok (.getfield 123, 3) := by decide +kernel
theorem dX6_step_20 : decode cX6_step 20 = .ok (.iload_n 1, 1) := by decide +kernel
theorem dX6_step_21 : decode cX6_step 21 = .ok (.iadd, 1) := by decide +kernel
theorem dX6_step_22 : decode cX6_step 22 = .ok (.sipush 5000, 3) := by decide +kernel
theorem dX6_step_25 : decode cX6_step 25 = .ok (.if_icmp .le 7, 3) := by decide +kernel
theorem dX6_step_28 : decode cX6_step 28 = .ok (.iconst 2, 1) := by decide +kernel
theorem dX6_step_29 : decode cX6_step 29 = .ok (.goto 4, 3) := by decide +kernel
theorem dX6_step_32 : decode cX6_step 32 = .ok (.iconst 0, 1) := by decide +kernel
theorem dX6_step_33 : decode cX6_step 33 = .ok (.invokevirtual 84, 3) := by decide +kernel
theorem dX6_step_36 : decode cX6_step 36 = .ok (.ifCond .eq 5, 3) := by decide +kernel
theorem dX6_step_39 : decode cX6_step 39 = .ok (.iconst 0, 1) := by decide +kernel
theorem dX6_step_40 : decode cX6_step 40 = .ok (.ireturn, 1) := by decide +kernel
theorem dX6_step_41 : decode cX6_step 41 = .ok (.aload_n 0, 1) := by decide +kernel
theorem dX6_step_42 : decode cX6_step 42 = .ok (.invokevirtual 126, 3) := by decide +kernel
theorem dX6_step_45 : decode cX6_step 45 = .ok (.istore_n 2, 1) := by decide +kernel
theorem dX6_step_46 : decode cX6_step 46 = .ok (.iconst 0, 1) := by decide +kernel
theorem dX6_step_47 : decode cX6_step 47 = .ok (.istore_n 3, 1) := by decide +kernel
theorem dX6_step_48 : decode cX6_step 48 = .ok (.iload_n 3, 1) := by decide +kernel
theorem dX6_step_49 : decode cX6_step 49 = .ok (.iload_n 1, 1) := by decide +kernel
theorem dX6_step_50 : decode cX6_step 50 = .ok (.if_icmp .ge 171, 3) := by decide +kernel
theorem dX6_step_53 : decode cX6_step 53 = .ok (.aload_n 0, 1) := by decide +kernel
theorem dX6_step_54 : decode cX6_step 54 = .ok (.aload_n 0, 1) := by decide +kernel
theorem dX6_step_55 : decode cX6_step 55 = .ok (.getfield 16, 3) := by decide +kernel
theorem dX6_step_58 : decode cX6_step 58 = .ok (.aload_n 0, 1) := by decide +kernel
theorem dX6_step_59 : decode cX6_step 59 = .ok (.getfield 19, 3) := by decide +kernel
theorem dX6_step_62 : decode cX6_step 62 = .ok (.invokevirtual 130, 3) := by decide +kernel
theorem dX6_step_65 : decode cX6_step 65 = .ok (.iconst 0, 1) := by decide +kernel
theorem dX6_step_66 : decode cX6_step 66 = .ok (.istore 4, 2) := by decide +kernel
theorem dX6_step_68 : decode cX6_step 68 = .ok (.iload 4, 2) := by decide +kernel
theorem dX6_step_70 : decode cX6_step 70 = .ok (.bipush 12, 2) := by decide +kernel
theorem dX6_step_72 : decode cX6_step 72 = .ok (.if_icmp .ge 26, 3) := by decide +kernel
theorem dX6_step_75 : decode cX6_step 75 = .ok (.aload_n 0, 1) := by decide +kernel
theorem dX6_step_76 : decode cX6_step 76 = .ok (.getfield 40, 3) := by decide +kernel
theorem dX6_step_79 : decode cX6_step 79 = .ok (.iload 4, 2) := by decide +kernel
theorem dX6_step_81 : decode cX6_step 81 = .ok (.dup2, 1) := by decide +kernel
theorem dX6_step_82 : decode cX6_step 82 = .ok (.iaload, 1) := by decide +kernel
theorem dX6_step_83 : decode cX6_step 83 = .ok (.aload_n 0, 1) := by decide +kernel
theorem dX6_step_84 : decode cX6_step 84 = .ok (.getfield 46, 3) := by decide +kernel
theorem dX6_step_87 : decode cX6_step 87 = .ok (.iload 4, 2) := by decide +kernel
theorem dX6_step_89 : decode cX6_step 89 = .ok (.iaload, 1) := by decide +kernel
theorem dX6_step_90 : decode cX6_step 90 = .ok (.iadd, 1) := by decide +kernel
theorem dX6_step_91 : decode cX6_step 91 = .ok (.iastore, 1) := by decide +kernel
theorem dX6_step_92 : decode cX6_step 92 = .ok (.iinc 4 1, 3) := by decide +kernel
theorem dX6_step_95 : decode cX6_step 95 = .ok (.goto (-27), 3) := by decide +kernel
theorem dX6_step_98 : decode cX6_step 98 = .ok (.aload_n 0, 1) := by decide +kernel
theorem dX6_step_99 : decode cX6_step 99 = .ok (.dup, 1) := by decide +kernel
theorem dX6_step_100 : decode cX6_step 100 = .ok (.getfield 134, 3) := by decide +kernel
theorem dX6_step_103 : decode cX6_step 103 = .ok (.aload_n 0, 1) := by decide +kernel
theorem dX6_step_104 : decode cX6_step 104 = .ok (.getfield 100, 3) := by decide +kernel
theorem dX6_step_107 : decode cX6_step 107 = .ok (.i2l, 1) := by decide +kernel
theorem dX6_step_108 : decode cX6_step 108 = .ok (.ladd, 1) := by decide +kernel
theorem dX6_step_109 : decode cX6_step 109 = .ok (.putfield 134, 3) := by decide +kernel
theorem dX6_step_112 : decode cX6_step 112 = .ok (.aload_n 0, 1) := by decide +kernel
theorem dX6_step_113 : decode cX6_step 113 = .ok (.dup, 1) := by decide +kernel
theorem dX6_step_114 : decode cX6_step 114 = .ok (.getfield 123, 3) := by decide +kernel
theorem dX6_step_117 : decode cX6_step 117 = .ok (.iconst 1, 1) := by decide +kernel
theorem dX6_step_118 : decode cX6_step 118 = .ok (.iadd, 1) := by decide +kernel
theorem dX6_step_119 : decode cX6_step 119 = .ok (.putfield 123, 3) := by decide +kernel
theorem dX6_step_122 : decode cX6_step 122 = .ok (.aload_n 0, 1) := by decide +kernel
theorem dX6_step_123 : decode cX6_step 123 = .ok (.iload_n 2, 1) := by decide +kernel
theorem dX6_step_124 : decode cX6_step 124 = .ok (.ifCond .eq 7, 3) := by decide +kernel
theorem dX6_step_127 : decode cX6_step 127 = .ok (.iconst 0, 1) := by decide +kernel
theorem dX6_step_128 : decode cX6_step 128 = .ok (.goto 9, 3) := by decide +kernel
theorem dX6_step_131 : decode cX6_step 131 = .ok (.aload_n 0, 1) := by decide +kernel
theorem dX6_step_132 : decode cX6_step 132 = .ok (.getfield 87, 3) := by decide +kernel
theorem dX6_step_135 : decode cX6_step 135 = .ok (.iconst 1, 1) := by decide +kernel
theorem dX6_step_136 : decode cX6_step 136 = .ok (.iadd, 1) := by decide +kernel
theorem dX6_step_137 : decode cX6_step 137 = .ok (.putfield 87, 3) := by decide +kernel
theorem dX6_step_140 : decode cX6_step 140 = .ok (.iconst 0, 1) := by decide +kernel
theorem dX6_step_141 : decode cX6_step 141 = .ok (.istore 4, 2) := by decide +kernel
theorem dX6_step_143 : decode cX6_step 143 = .ok (.iload 4, 2) := by decide +kernel
theorem dX6_step_145 : decode cX6_step 145 = .ok (.aload_n 0, 1) := by decide +kernel
theorem dX6_step_146 : decode cX6_step 146 = .ok (.getfield 66, 3) := by decide +kernel
theorem dX6_step_149 : decode cX6_step 149 = .ok (.if_icmp .ge 66, 3) := by decide +kernel
theorem dX6_step_152 : decode cX6_step 152 = .ok (.aload_n 0, 1) := by decide +kernel
theorem dX6_step_153 : decode cX6_step 153 = .ok (.getfield 16, 3) := by decide +kernel
theorem dX6_step_156 : decode cX6_step 156 = .ok (.aload_n 0, 1) := by decide +kernel
theorem dX6_step_157 : decode cX6_step 157 = .ok (.getfield 49, 3) := by decide +kernel
theorem dX6_step_160 : decode cX6_step 160 = .ok (.iload 4, 2) := by decide +kernel
theorem dX6_step_162 : decode cX6_step 162 = .ok (.iaload, 1) := by decide +kernel
theorem dX6_step_163 : decode cX6_step 163 = .ok (.iaload, 1) := by decide +kernel
theorem dX6_step_164 : decode cX6_step 164 = .ok (.istore 5, 2) := by decide +kernel
theorem dX6_step_166 : decode cX6_step 166 = .ok (.aload_n 0, 1) := by decide +kernel
theorem dX6_step_167 : decode cX6_step 167 = .ok (.getfield 55, 3) := by decide +kernel
theorem dX6_step_170 : decode cX6_step 170 = .ok (.sipush 5000, 3) := by decide +kernel
theorem dX6_step_173 : decode cX6_step 173 = .ok (.iload 4, 2) := by decide +kernel
theorem dX6_step_175 : decode cX6_step 175 = .ok (.imul, 1) := by decide +kernel
theorem dX6_step_176 : decode cX6_step 176 = .ok (.aload_n 0, 1) := by decide +kernel
theorem dX6_step_177 : decode cX6_step 177 = .ok (.getfield 52, 3) := by decide +kernel
theorem dX6_step_180 : decode cX6_step 180 = .ok (.iload 4, 2) := by decide +kernel
theorem dX6_step_182 : decode cX6_step 182 = .ok (.iaload, 1) := by decide +kernel
theorem dX6_step_183 : decode cX6_step 183 = .ok (.iadd, 1) := by decide +kernel
theorem dX6_step_184 : decode cX6_step 184 = .ok (.iload 5, 2) := by decide +kernel
theorem dX6_step_186 : decode cX6_step 186 = .ok (.iconst 1, 1) := by decide +kernel
theorem dX6_step_187 : decode cX6_step 187 = .ok (.ishr, 1) := by decide +kernel
theorem dX6_step_188 : decode cX6_step 188 = .ok (.iconst 1, 1) := by decide +kernel
theorem dX6_step_189 : decode cX6_step 189 = .ok (.iand, 1) := by decide +kernel
theorem dX6_step_190 : decode cX6_step 190 = .ok (.iload 5, 2) := by decide +kernel
theorem dX6_step_192 : decode cX6_step 192 = .ok (.iconst 3, 1) := by decide +kernel
theorem dX6_step_193 : decode cX6_step 193 = .ok (.ishr, 1) := by decide +kernel
theorem dX6_step_194 : decode cX6_step 194 = .ok (.iconst 1, 1) := by decide +kernel
theorem dX6_step_195 : decode cX6_step 195 = .ok (.iand, 1) := by decide +kernel
theorem dX6_step_196 : decode cX6_step 196 = .ok (.isub, 1) := by decide +kernel
theorem dX6_step_197 : decode cX6_step 197 = .ok (.iastore, 1) := by decide +kernel
theorem dX6_step_198 : decode cX6_step 198 = .ok (.aload_n 0, 1) := by decide +kernel
theorem dX6_step_199 : decode cX6_step 199 = .ok (.getfield 52, 3) := by decide +kernel
theorem dX6_step_202 : decode cX6_step 202 = .ok (.iload 4, 2) := by decide +kernel
theorem dX6_step_204 : decode cX6_step 204 = .ok (.dup2, 1) := by decide +kernel
theorem dX6_step_205 : decode cX6_step 205 = .ok (.iaload, 1) := by decide +kernel
theorem dX6_step_206 : decode cX6_step 206 = .ok (.iconst 1, 1) := by decide +kernel
theorem dX6_step_207 : decode cX6_step 207 = .ok (.iadd, 1) := by decide +kernel
theorem dX6_step_208 : decode cX6_step 208 = .ok (.iastore, 1) := by decide +kernel
theorem dX6_step_209 : decode cX6_step 209 = .ok (.iinc 4 1, 3) := by decide +kernel
theorem dX6_step_212 : decode cX6_step 212 = .ok (.goto (-69), 3) := by decide +kernel
theorem dX6_step_215 : decode cX6_step 215 = .ok (.iinc 3 1, 3) := by decide +kernel
theorem dX6_step_218 : decode cX6_step 218 = .ok (.goto (-170), 3) := by decide +kernel
theorem dX6_step_221 : decode cX6_step 221 = .ok (.aload_n 0, 1) := by decide +kernel
theorem dX6_step_222 : decode cX6_step 222 = .ok (.getfield 123, 3) := by decide +kernel
theorem dX6_step_225 : decode cX6_step 225 = .ok (.ireturn, 1) := by decide +kernel
theorem dX6_unhop_0 : decode cX6_unhop 0 = .ok (.iload_n 1, 1) := by decide +kernel
theorem dX6_unhop_1 : decode cX6_unhop 1 = .ok (.iload_n 2, 1) := by decide +kernel
theorem dX6_unhop_2 : decode cX6_unhop 2 = .ok (.invokestatic 116, 3) := by decide +kernel
theorem dX6_unhop_5 : decode cX6_unhop 5 = .ok (.invokestatic 109, 3) := by decide +kernel
theorem dX6_unhop_8 : decode cX6_unhop 8 = .ok (.istore_n 3, 1) := by decide +kernel
theorem dX6_unhop_9 : decode cX6_unhop 9 = .ok (.aload_n 0, 1) := by decide +kernel
theorem dX6_unhop_10 : decode cX6_unhop 10 = .ok (.iload_n 3, 1) := by decide +kernel
theorem dX6_unhop_11 : decode cX6_unhop 11 = .ok (.invokevirtual 113, 3) := by decide +kernel
theorem dX6_unhop_14 : decode cX6_unhop 14 = .ok (.ifCond .eq 7, 3) := by decide +kernel
theorem dX6_unhop_17 : decode cX6_unhop 17 = .ok (.iload_n 1, 1) := by decide +kernel
theorem dX6_unhop_18 : decode cX6_unhop 18 = .ok (.goto 4, 3) := by decide +kernel
theorem dX6_unhop_21 : decode cX6_unhop 21 = .ok (.iload_n 3, 1) := by decide +kernel
theorem dX6_unhop_22 : decode cX6_unhop 22 = .ok (.istore 4, 2) := by decide +kernel
theorem dX6_unhop_24 : decode cX6_unhop 24 = .ok (.aload_n 0, 1) := by decide +kernel
theorem dX6_unhop_25 : decode cX6_unhop 25 = .ok (.iload_n 3, 1) := by decide +kernel
theorem dX6_unhop_26 : decode cX6_unhop 26 = .ok (.invokevirtual 113, 3) := by decide +kernel
theorem dX6_unhop_29 : decode cX6_unhop 29 = .ok (.ifCond .eq 10, 3) := by decide +kernel
theorem dX6_unhop_32 : decode cX6_unhop 32 = .ok (.iload_n 2, 1) := by decide +kernel
theorem dX6_unhop_33 : decode cX6_unhop 33 = .ok (.invokestatic 116, 3) := by decide +kernel
theorem dX6_unhop_36 : decode cX6_unhop 36 = .ok (.goto 4, 3) := by decide +kernel
theorem dX6_unhop_39 : decode cX6_unhop 39 = .ok (.iload_n 2, 1) := by decide +kernel
theorem dX6_unhop_40 : decode cX6_unhop 40 = .ok (.istore 5, 2) := by decide +kernel
theorem dX6_unhop_42 : decode cX6_unhop 42 = .ok (.aload_n 0, 1) := by decide +kernel
theorem dX6_unhop_43 : decode cX6_unhop 43 = .ok (.getfield 22, 3) := by decide +kernel
theorem dX6_unhop_46 : decode cX6_unhop 46 = .ok (.iload 4, 2) := by decide +kernel
theorem dX6_unhop_48 : decode cX6_unhop 48 = .ok (.dup2, 1) := by decide +kernel
theorem dX6_unhop_49 : decode cX6_unhop 49 = .ok (.iaload, 1) := by decide +kernel
theorem dX6_unhop_50 : decode cX6_unhop 50 = .ok (.iconst 1, 1) := by decide +kernel
theorem dX6_unhop_51 : decode cX6_unhop 51 = .ok (.iload 5, 2) := by decide +kernel
theorem dX6_unhop_53 : decode cX6_unhop 53 = .ok (.ishl, 1) := by decide +kernel
theorem dX6_unhop_54 : decode cX6_unhop 54 = .ok (.ior, 1) := by decide +kernel
theorem dX6_unhop_55 : decode cX6_unhop 55 = .ok (.iastore, 1) := by decide +kernel
theorem dX6_unhop_56 : decode cX6_unhop 56 = .ok (.aload_n 0, 1) := by decide +kernel
theorem dX6_unhop_57 : decode cX6_unhop 57 = .ok (.getfield 25, 3) := by decide +kernel
theorem dX6_unhop_60 : decode cX6_unhop 60 = .ok (.iload 4, 2) := by decide +kernel
theorem dX6_unhop_62 : decode cX6_unhop 62 = .ok (.dup2, 1) := by decide +kernel
theorem dX6_unhop_63 : decode cX6_unhop 63 = .ok (.iaload, 1) := by decide +kernel
theorem dX6_unhop_64 : decode cX6_unhop 64 = .ok (.aload_n 0, 1) := by decide +kernel
theorem dX6_unhop_65 : decode cX6_unhop 65 = .ok (.getfield 19, 3) := by decide +kernel
theorem dX6_unhop_68 : decode cX6_unhop 68 = .ok (.iload_n 1, 1) := by decide +kernel
theorem dX6_unhop_69 : decode cX6_unhop 69 = .ok (.iaload, 1) := by decide +kernel
theorem dX6_unhop_70 : decode cX6_unhop 70 = .ok (.iload_n 2, 1) := by decide +kernel
theorem dX6_unhop_71 : decode cX6_unhop 71 = .ok (.ishr, 1) := by decide +kernel
theorem dX6_unhop_72 : decode cX6_unhop 72 = .ok (.iconst 1, 1) := by decide +kernel
theorem dX6_unhop_73 : decode cX6_unhop 73 = .ok (.iand, 1) := by decide +kernel
theorem dX6_unhop_74 : decode cX6_unhop 74 = .ok (.iload 5, 2) := by decide +kernel
theorem dX6_unhop_76 : decode cX6_unhop 76 = .ok (.ishl, 1) := by decide +kernel
theorem dX6_unhop_77 : decode cX6_unhop 77 = .ok (.ior, 1) := by decide +kernel
theorem dX6_unhop_78 : decode cX6_unhop 78 = .ok (.iastore, 1) := by decide +kernel
theorem dX6_unhop_79 : decode cX6_unhop 79 = .ok (.aload_n 0, 1) := by decide +kernel
theorem dX6_unhop_80 : decode cX6_unhop 80 = .ok (.iload_n 3, 1) := by decide +kernel
theorem dX6_unhop_81 : decode cX6_unhop 81 = .ok (.iload_n 2, 1) := by decide +kernel
theorem dX6_unhop_82 : decode cX6_unhop 82 = .ok (.invokestatic 116, 3) := by decide +kernel
theorem dX6_unhop_85 : decode cX6_unhop 85 = .ok (.invokevirtual 119, 3) := by decide +kernel
theorem dX6_unhop_88 : decode cX6_unhop 88 = .ok (.return_, 1) := by decide +kernel
theorem dX6_retreat_0 : decode cX6_retreat 0 = .ok (.iconst 0, 1) := by decide +kernel
theorem dX6_retreat_1 : decode cX6_retreat 1 = .ok (.istore_n 1, 1) := by decide +kernel
theorem dX6_retreat_2 : decode cX6_retreat 2 = .ok (.iload_n 1, 1) := by decide +kernel
theorem dX6_retreat_3 : decode cX6_retreat 3 = .ok (.bipush 12, 2) := by decide +kernel
theorem dX6_retreat_5 : decode cX6_retreat 5 = .ok (.if_icmp .ge 16, 3) := by decide +kernel
theorem dX6_retreat_8 : decode cX6_retreat 8 = .ok (.aload_n 0, 1) := by decide +kernel
theorem dX6_retreat_9 : decode cX6_retreat 9 = .ok (.getfield 46, 3) := by decide +kernel
theorem dX6_retreat_12 : decode cX6_retreat 12 = .ok (.iload_n 1, 1) := by decide +kernel
theorem dX6_retreat_13 : decode cX6_retreat 13 = .ok (.iconst 0, 1) := by decide +kernel
theorem dX6_retreat_14 : decode cX6_retreat 14 = .ok (.iastore, 1) := by decide +kernel
theorem dX6_retreat_15 : decode cX6_retreat 15 = .ok (.iinc 1 1, 3) := by decide +kernel
theorem dX6_retreat_18 : decode cX6_retreat 18 = .ok (.goto (-16), 3) := by decide +kernel
theorem dX6_retreat_21 : decode cX6_retreat 21 = .ok (.iconst 0, 1) := by decide +kernel
theorem dX6_retreat_22 : decode cX6_retreat 22 = .ok (.istore_n 1, 1) := by decide +kernel
theorem dX6_retreat_23 : decode cX6_retreat 23 = .ok (.iload_n 1, 1) := by decide +kernel
theorem dX6_retreat_24 : decode cX6_retreat 24 = .ok (.bipush 96, 2) := by decide +kernel
theorem dX6_retreat_26 : decode cX6_retreat 26 = .ok (.if_icmp .ge 23, 3) := by decide +kernel
theorem dX6_retreat_29 : decode cX6_retreat 29 = .ok (.aload_n 0, 1) := by decide +kernel
theorem dX6_retreat_30 : decode cX6_retreat 30 = .ok (.getfield 22, 3) := by decide +kernel
theorem dX6_retreat_33 : decode cX6_retreat 33 = .ok (.iload_n 1, 1) := by decide +kernel
theorem dX6_retreat_34 : decode cX6_retreat 34 = .ok (.iconst 0, 1) := by decide +kernel
theorem dX6_retreat_35 : decode cX6_retreat 35 = .ok (.iastore, 1) := by decide +kernel
theorem dX6_retreat_36 : decode cX6_retreat 36 = .ok (.aload_n 0, 1) := by decide +kernel
theorem dX6_retreat_37 : decode cX6_retreat 37 = .ok (.getfield 25, 3) := by decide +kernel
theorem dX6_retreat_40 : decode cX6_retreat 40 = .ok (.iload_n 1, 1) := by decide +kernel
theorem dX6_retreat_41 : decode cX6_retreat 41 = .ok (.iconst 0, 1) := by decide +kernel
theorem dX6_retreat_42 : decode cX6_retreat 42 = .ok (.iastore, 1) := by decide +kernel
theorem dX6_retreat_43 : decode cX6_retreat 43 = .ok (.iinc 1 1, 3) := by decide +kernel
theorem dX6_retreat_46 : decode cX6_retreat 46 = .ok (.goto (-23), 3) := by decide +kernel
theorem dX6_retreat_49 : decode cX6_retreat 49 = .ok (.iconst 0, 1) := by decide +kernel
theorem dX6_retreat_50 : decode cX6_retreat 50 = .ok (.istore_n 1, 1) := by decide +kernel
theorem dX6_retreat_51 : decode cX6_retreat 51 = .ok (.iload_n 1, 1) := by decide +kernel
theorem dX6_retreat_52 : decode cX6_retreat 52 = .ok (.bipush 96, 2) := by decide +kernel
theorem dX6_retreat_54 : decode cX6_retreat 54 = .ok (.if_icmp .ge 42, 3) := by decide +kernel
theorem dX6_retreat_57 : decode cX6_retreat 57 = .ok (.iconst 0, 1) := by decide +kernel
theorem dX6_retreat_58 : decode cX6_retreat 58 = .ok (.istore_n 2, 1) := by decide +kernel
theorem dX6_retreat_59 : decode cX6_retreat 59 = .ok (.iload_n 2, 1) := by decide +kernel
theorem dX6_retreat_60 : decode cX6_retreat 60 = .ok (.iconst 4, 1) := by decide +kernel
theorem dX6_retreat_61 : decode cX6_retreat 61 = .ok (.if_icmp .ge 29, 3) := by decide +kernel
theorem dX6_retreat_64 : decode cX6_retreat 64 = .ok (.aload_n 0, 1) := by decide +kernel
theorem dX6_retreat_65 : decode cX6_retreat 65 = .ok (.getfield 16, 3) := by decide +kernel
theorem dX6_retreat_68 : decode cX6_retreat 68 = .ok (.iload_n 1, 1) := by decide +kernel
theorem dX6_retreat_69 : decode cX6_retreat 69 = .ok (.iaload, 1) := by decide +kernel
theorem dX6_retreat_70 : decode cX6_retreat 70 = .ok (.iload_n 2, 1) := by decide +kernel
theorem dX6_retreat_71 : decode cX6_retreat 71 = .ok (.ishr, 1) := by decide +kernel
theorem dX6_retreat_72 : decode cX6_retreat 72 = .ok (.iconst 1, 1) := by decide +kernel
theorem dX6_retreat_73 : decode cX6_retreat 73 = .ok (.iand, 1) := by decide +kernel
theorem dX6_retreat_74 : decode cX6_retreat 74 = .ok (.iconst 1, 1) := by decide +kernel
theorem dX6_retreat_75 : decode cX6_retreat 75 = .ok (.if_icmp .ne 9, 3) := by decide +kernel
theorem dX6_retreat_78 : decode cX6_retreat 78 = .ok (.aload_n 0, 1) := by decide +kernel
theorem dX6_retreat_79 : decode cX6_retreat 79 = .ok (.iload_n 1, 1) := by decide +kernel
theorem dX6_retreat_80 : decode cX6_retreat 80 = .ok (.iload_n 2, 1) := by decide +kernel
theorem dX6_retreat_81 : decode cX6_retreat 81 = .ok (.invokevirtual 138, 3) := by decide +kernel
theorem dX6_retreat_84 : decode cX6_retreat 84 = .ok (.iinc 2 1, 3) := by decide +kernel
theorem dX6_retreat_87 : decode cX6_retreat 87 = .ok (.goto (-28), 3) := by decide +kernel
theorem dX6_retreat_90 : decode cX6_retreat 90 = .ok (.iinc 1 1, 3) := by decide +kernel
theorem dX6_retreat_93 : decode cX6_retreat 93 = .ok (.goto (-42), 3) := by decide +kernel
theorem dX6_retreat_96 : decode cX6_retreat 96 = .ok (.aload_n 0, 1) := by decide +kernel
theorem dX6_retreat_97 : decode cX6_retreat 97 = .ok (.iconst 0, 1) := by decide +kernel
theorem dX6_retreat_98 : decode cX6_retreat 98 = .ok (.putfield 100, 3) := by decide +kernel
theorem dX6_retreat_101 : decode cX6_retreat 101 = .ok (.iconst 0, 1) := by decide +kernel
theorem dX6_retreat_102 : decode cX6_retreat 102 = .ok (.istore_n 1, 1) := by decide +kernel
theorem dX6_retreat_103 : decode cX6_retreat 103 = .ok (.iload_n 1, 1) := by decide +kernel
theorem dX6_retreat_104 : decode cX6_retreat 104 = .ok (.bipush 96, 2) := by decide +kernel
theorem dX6_retreat_106 : decode cX6_retreat 106 = .ok (.if_icmp .ge 99, 3) := by decide +kernel
theorem dX6_retreat_109 : decode cX6_retreat 109 = .ok (.aload_n 0, 1) := by decide +kernel
theorem dX6_retreat_110 : decode cX6_retreat 110 = .ok (.getfield 22, 3) := by decide +kernel
theorem dX6_retreat_113 : decode cX6_retreat 113 = .ok (.iload_n 1, 1) := by decide +kernel
theorem dX6_retreat_114 : decode cX6_retreat 114 = .ok (.iaload, 1) := by decide +kernel
theorem dX6_retreat_115 : decode cX6_retreat 115 = .ok (.invokestatic 103, 3) := by decide +kernel
theorem dX6_retreat_118 : decode cX6_retreat 118 = .ok (.istore_n 2, 1) := by decide +kernel
theorem dX6_retreat_119 : decode cX6_retreat 119 = .ok (.aload_n 0, 1) := by decide +kernel
theorem dX6_retreat_120 : decode cX6_retreat 120 = .ok (.getfield 16, 3) := by decide +kernel
theorem dX6_retreat_123 : decode cX6_retreat 123 = .ok (.iload_n 1, 1) := by decide +kernel
theorem dX6_retreat_124 : decode cX6_retreat 124 = .ok (.iload_n 2, 1) := by decide +kernel
theorem dX6_retreat_125 : decode cX6_retreat 125 = .ok (.ifCond .eq 15, 3) := by decide +kernel
theorem dX6_retreat_128 : decode cX6_retreat 128 = .ok (.aload_n 0, 1) := by decide +kernel
theorem dX6_retreat_129 : decode cX6_retreat 129 = .ok (.getfield 22, 3) := by decide +kernel
theorem dX6_retreat_132 : decode cX6_retreat 132 = .ok (.iload_n 1, 1) := by decide +kernel
theorem dX6_retreat_133 : decode cX6_retreat 133 = .ok (.iaload, 1) := by decide +kernel
theorem dX6_retreat_134 : decode cX6_retreat 134 = .ok (.invokestatic 106, 3) := by decide +kernel
theorem dX6_retreat_137 : decode cX6_retreat 137 = .ok (.goto 9, 3) := by decide +kernel
theorem dX6_retreat_140 : decode cX6_retreat 140 = .ok (.aload_n 0, 1) := by decide +kernel
theorem dX6_retreat_141 : decode cX6_retreat 141 = .ok (.getfield 22, 3) := by decide +kernel
theorem dX6_retreat_144 : decode cX6_retreat 144 = .ok (.iload_n 1, 1) := by decide +kernel
theorem dX6_retreat_145 : decode cX6_retreat 145 = .ok (.iaload, 1) := by decide +kernel
theorem dX6_retreat_146 : decode cX6_retreat 146 = .ok (.iastore, 1) := by decide +kernel
theorem dX6_retreat_147 : decode cX6_retreat 147 = .ok (.aload_n 0, 1) := by decide +kernel
theorem dX6_retreat_148 : decode cX6_retreat 148 = .ok (.getfield 19, 3) := by decide +kernel
theorem dX6_retreat_151 : decode cX6_retreat 151 = .ok (.iload_n 1, 1) := by decide +kernel
theorem dX6_retreat_152 : decode cX6_retreat 152 = .ok (.iload_n 2, 1) := by decide +kernel
theorem dX6_retreat_153 : decode cX6_retreat 153 = .ok (.ifCond .eq 21, 3) := by decide +kernel
theorem dX6_retreat_156 : decode cX6_retreat 156 = .ok (.aload_n 0, 1) := by decide +kernel
theorem dX6_retreat_157 : decode cX6_retreat 157 = .ok (.getfield 25, 3) := by decide +kernel
theorem dX6_retreat_160 : decode cX6_retreat 160 = .ok (.iload_n 1, 1) := by decide +kernel
theorem dX6_retreat_161 : decode cX6_retreat 161 = .ok (.iaload, 1) := by decide +kernel
theorem dX6_retreat_162 : decode cX6_retreat 162 = .ok (.invokestatic 106, 3) := by decide +kernel
theorem dX6_retreat_165 : decode cX6_retreat 165 = .ok (.invokestatic 106, 3) := by decide +kernel
theorem dX6_retreat_168 : decode cX6_retreat 168 = .ok (.invokestatic 106, 3) := by decide +kernel
theorem dX6_retreat_171 : decode cX6_retreat 171 = .ok (.goto 9, 3) := by decide +kernel
theorem dX6_retreat_174 : decode cX6_retreat 174 = .ok (.aload_n 0, 1) := by decide +kernel
theorem dX6_retreat_175 : decode cX6_retreat 175 = .ok (.getfield 25, 3) := by decide +kernel
theorem dX6_retreat_178 : decode cX6_retreat 178 = .ok (.iload_n 1, 1) := by decide +kernel
theorem dX6_retreat_179 : decode cX6_retreat 179 = .ok (.iaload, 1) := by decide +kernel
theorem dX6_retreat_180 : decode cX6_retreat 180 = .ok (.iastore, 1) := by decide +kernel
theorem dX6_retreat_181 : decode cX6_retreat 181 = .ok (.aload_n 0, 1) := by decide +kernel
theorem dX6_retreat_182 : decode cX6_retreat 182 = .ok (.dup, 1) := by decide +kernel
theorem dX6_retreat_183 : decode cX6_retreat 183 = .ok (.getfield 100, 3) := by decide +kernel
theorem dX6_retreat_186 : decode cX6_retreat 186 = .ok (.iload_n 2, 1) := by decide +kernel
theorem dX6_retreat_187 : decode cX6_retreat 187 = .ok (.ifCond .eq 7, 3) := by decide +kernel
theorem dX6_retreat_190 : decode cX6_retreat 190 = .ok (.iconst 1, 1) := by decide +kernel
theorem dX6_retreat_191 : decode cX6_retreat 191 = .ok (.goto 4, 3) := by decide +kernel
theorem dX6_retreat_194 : decode cX6_retreat 194 = .ok (.iconst 0, 1) := by decide +kernel
theorem dX6_retreat_195 : decode cX6_retreat 195 = .ok (.iadd, 1) := by decide +kernel
theorem dX6_retreat_196 : decode cX6_retreat 196 = .ok (.putfield 100, 3) := by decide +kernel
theorem dX6_retreat_199 : decode cX6_retreat 199 = .ok (.iinc 1 1, 3) := by decide +kernel
theorem dX6_retreat_202 : decode cX6_retreat 202 = .ok (.goto (-99), 3) := by decide +kernel
theorem dX6_retreat_205 : decode cX6_retreat 205 = .ok (.return_, 1) := by decide +kernel
theorem dX6_back_0 : decode cX6_back 0 = .ok (.aload_n 0, 1) := by decide +kernel
theorem dX6_back_1 : decode cX6_back 1 = .ok (.iload_n 1, 1) := by decide +kernel
theorem dX6_back_2 : decode cX6_back 2 = .ok (.iconst 1, 1) := by decide +kernel
theorem dX6_back_3 : decode cX6_back 3 = .ok (.sipush 200, 3) := by decide +kernel
theorem dX6_back_6 : decode cX6_back 6 = .ok (.invokestatic 62, 3) := by decide +kernel
theorem dX6_back_9 : decode cX6_back 9 = .ok (.ifCond .ne 7, 3) := by decide +kernel
theorem dX6_back_12 : decode cX6_back 12 = .ok (.iconst 1, 1) := by decide +kernel
theorem dX6_back_13 : decode cX6_back 13 = .ok (.goto 16, 3) := by decide +kernel
theorem dX6_back_16 : decode cX6_back 16 = .ok (.iload_n 1, 1) := by decide +kernel
theorem dX6_back_17 : decode cX6_back 17 = .ok (.aload_n 0, 1) := by decide +kernel
theorem dX6_back_18 : decode cX6_back 18 = .ok (.getfield 87, 3) := by decide +kernel
theorem dX6_back_21 : decode cX6_back 21 = .ok (.if_icmp .le 7, 3) := by decide +kernel
theorem dX6_back_24 : decode cX6_back 24 = .ok (.iconst 2, 1) := by decide +kernel
theorem dX6_back_25 : decode cX6_back 25 = .ok (.goto 4, 3) := by decide +kernel
theorem dX6_back_28 : decode cX6_back 28 = .ok (.iconst 0, 1) := by decide +kernel
theorem dX6_back_29 : decode cX6_back 29 = .ok (.invokevirtual 84, 3) := by decide +kernel
theorem dX6_back_32 : decode cX6_back 32 = .ok (.ifCond .eq 5, 3) := by decide +kernel
theorem dX6_back_35 : decode cX6_back 35 = .ok (.iconst 0, 1) := by decide +kernel
theorem dX6_back_36 : decode cX6_back 36 = .ok (.ireturn, 1) := by decide +kernel
theorem dX6_back_37 : decode cX6_back 37 = .ok (.iconst 0, 1) := by decide +kernel
theorem dX6_back_38 : decode cX6_back 38 = .ok (.istore_n 2, 1) := by decide +kernel
theorem dX6_back_39 : decode cX6_back 39 = .ok (.iload_n 2, 1) := by decide +kernel
theorem dX6_back_40 : decode cX6_back 40 = .ok (.iload_n 1, 1) := by decide +kernel
theorem dX6_back_41 : decode cX6_back 41 = .ok (.if_icmp .ge 102, 3) := by decide +kernel
theorem dX6_back_44 : decode cX6_back 44 = .ok (.aload_n 0, 1) := by decide +kernel
theorem dX6_back_45 : decode cX6_back 45 = .ok (.invokevirtual 141, 3) := by decide +kernel
theorem dX6_back_48 : decode cX6_back 48 = .ok (.iconst 0, 1) := by decide +kernel
theorem dX6_back_49 : decode cX6_back 49 = .ok (.istore_n 3, 1) := by decide +kernel
theorem dX6_back_50 : decode cX6_back 50 = .ok (.iload_n 3, 1) := by decide +kernel
theorem dX6_back_51 : decode cX6_back 51 = .ok (.bipush 12, 2) := by decide +kernel
theorem dX6_back_53 : decode cX6_back 53 = .ok (.if_icmp .ge 24, 3) := by decide +kernel
theorem dX6_back_56 : decode cX6_back 56 = .ok (.aload_n 0, 1) := by decide +kernel
theorem dX6_back_57 : decode cX6_back 57 = .ok (.getfield 40, 3) := by decide +kernel
theorem dX6_back_60 : decode cX6_back 60 = .ok (.iload_n 3, 1) := by decide +kernel
theorem dX6_back_61 : decode cX6_back 61 = .ok (.dup2, 1) := by decide +kernel
theorem dX6_back_62 : decode cX6_back 62 = .ok (.iaload, 1) := by decide +kernel
theorem dX6_back_63 : decode cX6_back 63 = .ok (.aload_n 0, 1) := by decide +kernel
theorem dX6_back_64 : decode cX6_back 64 = .ok (.getfield 46, 3) := by decide +kernel
theorem dX6_back_67 : decode cX6_back 67 = .ok (.iload_n 3, 1) := by decide +kernel
theorem dX6_back_68 : decode cX6_back 68 = .ok (.iaload, 1) := by decide +kernel
theorem dX6_back_69 : decode cX6_back 69 = .ok (.isub, 1) := by decide +kernel
theorem dX6_back_70 : decode cX6_back 70 = .ok (.iastore, 1) := by decide +kernel
theorem dX6_back_71 : decode cX6_back 71 = .ok (.iinc 3 1, 3) := by decide +kernel
theorem dX6_back_74 : decode cX6_back 74 = .ok (.goto (-24), 3) := by decide +kernel
theorem dX6_back_77 : decode cX6_back 77 = .ok (.aload_n 0, 1) := by decide +kernel
theorem dX6_back_78 : decode cX6_back 78 = .ok (.dup, 1) := by decide +kernel
theorem dX6_back_79 : decode cX6_back 79 = .ok (.getfield 134, 3) := by decide +kernel
theorem dX6_back_82 : decode cX6_back 82 = .ok (.aload_n 0, 1) := by decide +kernel
theorem dX6_back_83 : decode cX6_back 83 = .ok (.getfield 100, 3) := by decide +kernel
theorem dX6_back_86 : decode cX6_back 86 = .ok (.i2l, 1) := by decide +kernel
theorem dX6_back_87 : decode cX6_back 87 = .ok (.lsub, 1) := by decide +kernel
theorem dX6_back_88 : decode cX6_back 88 = .ok (.putfield 134, 3) := by decide +kernel
theorem dX6_back_91 : decode cX6_back 91 = .ok (.aload_n 0, 1) := by decide +kernel
theorem dX6_back_92 : decode cX6_back 92 = .ok (.dup, 1) := by decide +kernel
theorem dX6_back_93 : decode cX6_back 93 = .ok (.getfield 123, 3) := by decide +kernel
theorem dX6_back_96 : decode cX6_back 96 = .ok (.iconst 1, 1) := by decide +kernel
theorem dX6_back_97 : decode cX6_back 97 = .ok (.isub, 1) := by decide +kernel
theorem dX6_back_98 : decode cX6_back 98 = .ok (.putfield 123, 3) := by decide +kernel
theorem dX6_back_101 : decode cX6_back 101 = .ok (.aload_n 0, 1) := by decide +kernel
theorem dX6_back_102 : decode cX6_back 102 = .ok (.dup, 1) := by decide +kernel
theorem dX6_back_103 : decode cX6_back 103 = .ok (.getfield 87, 3) := by decide +kernel
theorem dX6_back_106 : decode cX6_back 106 = .ok (.iconst 1, 1) := by decide +kernel
theorem dX6_back_107 : decode cX6_back 107 = .ok (.isub, 1) := by decide +kernel
theorem dX6_back_108 : decode cX6_back 108 = .ok (.putfield 87, 3) := by decide +kernel
theorem dX6_back_111 : decode cX6_back 111 = .ok (.iconst 0, 1) := by decide +kernel
theorem dX6_back_112 : decode cX6_back 112 = .ok (.istore_n 3, 1) := by decide +kernel
theorem dX6_back_113 : decode cX6_back 113 = .ok (.iload_n 3, 1) := by decide +kernel
theorem dX6_back_114 : decode cX6_back 114 = .ok (.aload_n 0, 1) := by decide +kernel
theorem dX6_back_115 : decode cX6_back 115 = .ok (.getfield 66, 3) := by decide +kernel
theorem dX6_back_118 : decode cX6_back 118 = .ok (.if_icmp .ge 19, 3) := by decide +kernel
theorem dX6_back_121 : decode cX6_back 121 = .ok (.aload_n 0, 1) := by decide +kernel
theorem dX6_back_122 : decode cX6_back 122 = .ok (.getfield 52, 3) := by decide +kernel
theorem dX6_back_125 : decode cX6_back 125 = .ok (.iload_n 3, 1) := by decide +kernel
theorem dX6_back_126 : decode cX6_back 126 = .ok (.dup2, 1) := by decide +kernel
theorem dX6_back_127 : decode cX6_back 127 = .ok (.iaload, 1) := by decide +kernel
theorem dX6_back_128 : decode cX6_back 128 = .ok (.iconst 1, 1) := by decide +kernel
theorem dX6_back_129 : decode cX6_back 129 = .ok (.isub, 1) := by decide +kernel
theorem dX6_back_130 : decode cX6_back 130 = .ok (.iastore, 1) := by decide +kernel
theorem dX6_back_131 : decode cX6_back 131 = .ok (.iinc 3 1, 3) := by decide +kernel
theorem dX6_back_134 : decode cX6_back 134 = .ok (.goto (-21), 3) := by decide +kernel
theorem dX6_back_137 : decode cX6_back 137 = .ok (.iinc 2 1, 3) := by decide +kernel
theorem dX6_back_140 : decode cX6_back 140 = .ok (.goto (-101), 3) := by decide +kernel
theorem dX6_back_143 : decode cX6_back 143 = .ok (.aload_n 0, 1) := by decide +kernel
theorem dX6_back_144 : decode cX6_back 144 = .ok (.getfield 123, 3) := by decide +kernel
theorem dX6_back_147 : decode cX6_back 147 = .ok (.ireturn, 1) := by decide +kernel
theorem dX6_meet_0 : decode cX6_meet 0 = .ok (.aload_n 0, 1) := by decide +kernel
theorem dX6_meet_1 : decode cX6_meet 1 = .ok (.getfield 34, 3) := by decide +kernel
theorem dX6_meet_4 : decode cX6_meet 4 = .ok (.iload_n 1, 1) := by decide +kernel
theorem dX6_meet_5 : decode cX6_meet 5 = .ok (.iaload, 1) := by decide +kernel
theorem dX6_meet_6 : decode cX6_meet 6 = .ok (.aload_n 0, 1) := by decide +kernel
theorem dX6_meet_7 : decode cX6_meet 7 = .ok (.getfield 34, 3) := by decide +kernel
theorem dX6_meet_10 : decode cX6_meet 10 = .ok (.iload_n 1, 1) := by decide +kernel
theorem dX6_meet_11 : decode cX6_meet 11 = .ok (.iconst 2, 1) := by decide +kernel
theorem dX6_meet_12 : decode cX6_meet 12 = .ok (.iadd, 1) := by decide +kernel
theorem dX6_meet_13 : decode cX6_meet 13 = .ok (.iaload, 1) := by decide +kernel
theorem dX6_meet_14 : decode cX6_meet 14 = .ok (.iadd, 1) := by decide +kernel
theorem dX6_meet_15 : decode cX6_meet 15 = .ok (.istore_n 2, 1) := by decide +kernel
theorem dX6_meet_16 : decode cX6_meet 16 = .ok (.aload_n 0, 1) := by decide +kernel
theorem dX6_meet_17 : decode cX6_meet 17 = .ok (.getfield 34, 3) := by decide +kernel
theorem dX6_meet_20 : decode cX6_meet 20 = .ok (.iload_n 1, 1) := by decide +kernel
theorem dX6_meet_21 : decode cX6_meet 21 = .ok (.iconst 1, 1) := by decide +kernel
theorem dX6_meet_22 : decode cX6_meet 22 = .ok (.iadd, 1) := by decide +kernel
theorem dX6_meet_23 : decode cX6_meet 23 = .ok (.iaload, 1) := by decide +kernel
theorem dX6_meet_24 : decode cX6_meet 24 = .ok (.aload_n 0, 1) := by decide +kernel
theorem dX6_meet_25 : decode cX6_meet 25 = .ok (.getfield 34, 3) := by decide +kernel
theorem dX6_meet_28 : decode cX6_meet 28 = .ok (.iload_n 1, 1) := by decide +kernel
theorem dX6_meet_29 : decode cX6_meet 29 = .ok (.iconst 3, 1) := by decide +kernel
theorem dX6_meet_30 : decode cX6_meet 30 = .ok (.iadd, 1) := by decide +kernel
theorem dX6_meet_31 : decode cX6_meet 31 = .ok (.iaload, 1) := by decide +kernel
theorem dX6_meet_32 : decode cX6_meet 32 = .ok (.iadd, 1) := by decide +kernel
theorem dX6_meet_33 : decode cX6_meet 33 = .ok (.istore_n 3, 1) := by decide +kernel
theorem dX6_meet_34 : decode cX6_meet 34 = .ok (.iload_n 2, 1) := by decide +kernel
theorem dX6_meet_35 : decode cX6_meet 35 = .ok (.iload_n 3, 1) := by decide +kernel
theorem dX6_meet_36 : decode cX6_meet 36 = .ok (.isub, 1) := by decide +kernel
theorem dX6_meet_37 : decode cX6_meet 37 = .ok (.iconst 4, 1) := by decide +kernel
theorem dX6_meet_38 : decode cX6_meet 38 = .ok (.idiv, 1) := by decide +kernel
theorem dX6_meet_39 : decode cX6_meet 39 = .ok (.istore 4, 2) := by decide +kernel
theorem dX6_meet_41 : decode cX6_meet 41 = .ok (.iload 4, 2) := by decide +kernel
theorem dX6_meet_43 : decode cX6_meet 43 = .ok (.ifCond .le 7, 3) := by decide +kernel
theorem dX6_meet_46 : decode cX6_meet 46 = .ok (.iconst 0, 1) := by decide +kernel
theorem dX6_meet_47 : decode cX6_meet 47 = .ok (.goto 4, 3) := by decide +kernel
theorem dX6_meet_50 : decode cX6_meet 50 = .ok (.iconst 1, 1) := by decide +kernel
theorem dX6_meet_51 : decode cX6_meet 51 = .ok (.istore 5, 2) := by decide +kernel
theorem dX6_meet_53 : decode cX6_meet 53 = .ok (.iload 4, 2) := by decide +kernel
theorem dX6_meet_55 : decode cX6_meet 55 = .ok (.ifCond .le 8, 3) := by decide +kernel
theorem dX6_meet_58 : decode cX6_meet 58 = .ok (.iload 4, 2) := by decide +kernel
theorem dX6_meet_60 : decode cX6_meet 60 = .ok (.goto 6, 3) := by decide +kernel
theorem dX6_meet_63 : decode cX6_meet 63 = .ok (.iload 4, 2) := by decide +kernel
theorem dX6_meet_65 : decode cX6_meet 65 = .ok (.ineg, 1) := by decide +kernel
theorem dX6_meet_66 : decode cX6_meet 66 = .ok (.istore 6, 2) := by decide +kernel
theorem dX6_meet_68 : decode cX6_meet 68 = .ok (.aload_n 0, 1) := by decide +kernel
theorem dX6_meet_69 : decode cX6_meet 69 = .ok (.getfield 34, 3) := by decide +kernel
theorem dX6_meet_72 : decode cX6_meet 72 = .ok (.iload_n 1, 1) := by decide +kernel
theorem dX6_meet_73 : decode cX6_meet 73 = .ok (.iload 5, 2) := by decide +kernel
theorem dX6_meet_75 : decode cX6_meet 75 = .ok (.iadd, 1) := by decide +kernel
theorem dX6_meet_76 : decode cX6_meet 76 = .ok (.iaload, 1) := by decide +kernel
theorem dX6_meet_77 : decode cX6_meet 77 = .ok (.istore 7, 2) := by decide +kernel
theorem dX6_meet_79 : decode cX6_meet 79 = .ok (.aload_n 0, 1) := by decide +kernel
theorem dX6_meet_80 : decode cX6_meet 80 = .ok (.getfield 34, 3) := by decide +kernel
theorem dX6_meet_83 : decode cX6_meet 83 = .ok (.iload_n 1, 1) := by decide +kernel
theorem dX6_meet_84 : decode cX6_meet 84 = .ok (.iload 5, 2) := by decide +kernel
theorem dX6_meet_86 : decode cX6_meet 86 = .ok (.iadd, 1) := by decide +kernel
theorem dX6_meet_87 : decode cX6_meet 87 = .ok (.iconst 2, 1) := by decide +kernel
theorem dX6_meet_88 : decode cX6_meet 88 = .ok (.iadd, 1) := by decide +kernel
theorem dX6_meet_89 : decode cX6_meet 89 = .ok (.iaload, 1) := by decide +kernel
theorem dX6_meet_90 : decode cX6_meet 90 = .ok (.istore 8, 2) := by decide +kernel
theorem dX6_meet_92 : decode cX6_meet 92 = .ok (.iload 7, 2) := by decide +kernel
theorem dX6_meet_94 : decode cX6_meet 94 = .ok (.iload 8, 2) := by decide +kernel
theorem dX6_meet_96 : decode cX6_meet 96 = .ok (.if_icmp .ge 8, 3) := by decide +kernel
theorem dX6_meet_99 : decode cX6_meet 99 = .ok (.iload 7, 2) := by decide +kernel
theorem dX6_meet_101 : decode cX6_meet 101 = .ok (.goto 5, 3) := by decide +kernel
theorem dX6_meet_104 : decode cX6_meet 104 = .ok (.iload 8, 2) := by decide +kernel
theorem dX6_meet_106 : decode cX6_meet 106 = .ok (.istore 9, 2) := by decide +kernel
theorem dX6_meet_108 : decode cX6_meet 108 = .ok (.iload 6, 2) := by decide +kernel
theorem dX6_meet_110 : decode cX6_meet 110 = .ok (.iload 9, 2) := by decide +kernel
theorem dX6_meet_112 : decode cX6_meet 112 = .ok (.if_icmp .ge 8, 3) := by decide +kernel
theorem dX6_meet_115 : decode cX6_meet 115 = .ok (.iload 6, 2) := by decide +kernel
theorem dX6_meet_117 : decode cX6_meet 117 = .ok (.goto 5, 3) := by decide +kernel
theorem dX6_meet_120 : decode cX6_meet 120 = .ok (.iload 9, 2) := by decide +kernel
theorem dX6_meet_122 : decode cX6_meet 122 = .ok (.istore 10, 2) := by decide +kernel
theorem dX6_meet_124 : decode cX6_meet 124 = .ok (.aload_n 0, 1) := by decide +kernel
theorem dX6_meet_125 : decode cX6_meet 125 = .ok (.getfield 34, 3) := by decide +kernel
theorem dX6_meet_128 : decode cX6_meet 128 = .ok (.iload_n 1, 1) := by decide +kernel
theorem dX6_meet_129 : decode cX6_meet 129 = .ok (.iload 5, 2) := by decide +kernel
theorem dX6_meet_131 : decode cX6_meet 131 = .ok (.iadd, 1) := by decide +kernel
theorem dX6_meet_132 : decode cX6_meet 132 = .ok (.dup2, 1) := by decide +kernel
theorem dX6_meet_133 : decode cX6_meet 133 = .ok (.iaload, 1) := by decide +kernel
theorem dX6_meet_134 : decode cX6_meet 134 = .ok (.iload 10, 2) := by decide +kernel
theorem dX6_meet_136 : decode cX6_meet 136 = .ok (.isub, 1) := by decide +kernel
theorem dX6_meet_137 : decode cX6_meet 137 = .ok (.iastore, 1) := by decide +kernel
theorem dX6_meet_138 : decode cX6_meet 138 = .ok (.aload_n 0, 1) := by decide +kernel
theorem dX6_meet_139 : decode cX6_meet 139 = .ok (.getfield 34, 3) := by decide +kernel
theorem dX6_meet_142 : decode cX6_meet 142 = .ok (.iload_n 1, 1) := by decide +kernel
theorem dX6_meet_143 : decode cX6_meet 143 = .ok (.iload 5, 2) := by decide +kernel
theorem dX6_meet_145 : decode cX6_meet 145 = .ok (.iadd, 1) := by decide +kernel
theorem dX6_meet_146 : decode cX6_meet 146 = .ok (.iconst 2, 1) := by decide +kernel
theorem dX6_meet_147 : decode cX6_meet 147 = .ok (.iadd, 1) := by decide +kernel
theorem dX6_meet_148 : decode cX6_meet 148 = .ok (.dup2, 1) := by decide +kernel
theorem dX6_meet_149 : decode cX6_meet 149 = .ok (.iaload, 1) := by decide +kernel
theorem dX6_meet_150 : decode cX6_meet 150 = .ok (.iload 10, 2) := by decide +kernel
theorem dX6_meet_152 : decode cX6_meet 152 = .ok (.isub, 1) := by decide +kernel
theorem dX6_meet_153 : decode cX6_meet 153 = .ok (.iastore, 1) := by decide +kernel
theorem dX6_meet_154 : decode cX6_meet 154 = .ok (.aload_n 0, 1) := by decide +kernel
theorem dX6_meet_155 : decode cX6_meet 155 = .ok (.getfield 34, 3) := by decide +kernel
theorem dX6_meet_158 : decode cX6_meet 158 = .ok (.iload_n 1, 1) := by decide +kernel
theorem dX6_meet_159 : decode cX6_meet 159 = .ok (.iconst 1, 1) := by decide +kernel
theorem dX6_meet_160 : decode cX6_meet 160 = .ok (.iadd, 1) := by decide +kernel
theorem dX6_meet_161 : decode cX6_meet 161 = .ok (.iload 5, 2) := by decide +kernel
theorem dX6_meet_163 : decode cX6_meet 163 = .ok (.isub, 1) := by decide +kernel
theorem dX6_meet_164 : decode cX6_meet 164 = .ok (.dup2, 1) := by decide +kernel
theorem dX6_meet_165 : decode cX6_meet 165 = .ok (.iaload, 1) := by decide +kernel
theorem dX6_meet_166 : decode cX6_meet 166 = .ok (.iload 10, 2) := by decide +kernel
theorem dX6_meet_168 : decode cX6_meet 168 = .ok (.iadd, 1) := by decide +kernel
theorem dX6_meet_169 : decode cX6_meet 169 = .ok (.iastore, 1) := by decide +kernel
theorem dX6_meet_170 : decode cX6_meet 170 = .ok (.aload_n 0, 1) := by decide +kernel
theorem dX6_meet_171 : decode cX6_meet 171 = .ok (.getfield 34, 3) := by decide +kernel
theorem dX6_meet_174 : decode cX6_meet 174 = .ok (.iload_n 1, 1) := by decide +kernel
theorem dX6_meet_175 : decode cX6_meet 175 = .ok (.iconst 3, 1) := by decide +kernel
theorem dX6_meet_176 : decode cX6_meet 176 = .ok (.iadd, 1) := by decide +kernel
theorem dX6_meet_177 : decode cX6_meet 177 = .ok (.iload 5, 2) := by decide +kernel
theorem dX6_meet_179 : decode cX6_meet 179 = .ok (.isub, 1) := by decide +kernel
theorem dX6_meet_180 : decode cX6_meet 180 = .ok (.dup2, 1) := by decide +kernel
theorem dX6_meet_181 : decode cX6_meet 181 = .ok (.iaload, 1) := by decide +kernel
theorem dX6_meet_182 : decode cX6_meet 182 = .ok (.iload 10, 2) := by decide +kernel
theorem dX6_meet_184 : decode cX6_meet 184 = .ok (.iadd, 1) := by decide +kernel
theorem dX6_meet_185 : decode cX6_meet 185 = .ok (.iastore, 1) := by decide +kernel
theorem dX6_meet_186 : decode cX6_meet 186 = .ok (.return_, 1) := by decide +kernel
theorem dX6_flow_0 : decode cX6_flow 0 = .ok (.aload_n 0, 1) := by decide +kernel
theorem dX6_flow_1 : decode cX6_flow 1 = .ok (.iload_n 1, 1) := by decide +kernel
theorem dX6_flow_2 : decode cX6_flow 2 = .ok (.iconst 1, 1) := by decide +kernel
theorem dX6_flow_3 : decode cX6_flow 3 = .ok (.bipush 100, 2) := by decide +kernel
theorem dX6_flow_5 : decode cX6_flow 5 = .ok (.invokestatic 62, 3) := by decide +kernel
theorem dX6_flow_8 : decode cX6_flow 8 = .ok (.ifCond .eq 7, 3) := by decide +kernel
theorem dX6_flow_11 : decode cX6_flow 11 = .ok (.iconst 0, 1) := by decide +kernel
theorem dX6_flow_12 : decode cX6_flow 12 = .ok (.goto 4, 3) := by decide +kernel
theorem dX6_flow_15 : decode cX6_flow 15 = .ok (.iconst 1, 1) := by decide +kernel
theorem dX6_flow_16 : decode cX6_flow 16 = .ok (.invokevirtual 84, 3) := by decide +kernel
theorem dX6_flow_19 : decode cX6_flow 19 = .ok (.ifCond .eq 5, 3) := by decide +kernel
theorem dX6_flow_22 : decode cX6_flow 22 = .ok (.lconst 0, 1) := by decide +kernel
theorem dX6_flow_23 : decode cX6_flow 23 = .ok (.lreturn, 1) := by decide +kernel
theorem dX6_flow_24 : decode cX6_flow 24 = .ok (.iconst 0, 1) := by decide +kernel
theorem dX6_flow_25 : decode cX6_flow 25 = .ok (.istore_n 2, 1) := by decide +kernel
theorem dX6_flow_26 : decode cX6_flow 26 = .ok (.iload_n 2, 1) := by decide +kernel
theorem dX6_flow_27 : decode cX6_flow 27 = .ok (.iload_n 1, 1) := by decide +kernel
theorem dX6_flow_28 : decode cX6_flow 28 = .ok (.if_icmp .ge 155, 3) := by decide +kernel
theorem dX6_flow_31 : decode cX6_flow 31 = .ok (.iconst 0, 1) := by decide +kernel
theorem dX6_flow_32 : decode cX6_flow 32 = .ok (.istore_n 3, 1) := by decide +kernel
theorem dX6_flow_33 : decode cX6_flow 33 = .ok (.iload_n 3, 1) := by decide +kernel
theorem dX6_flow_34 : decode cX6_flow 34 = .ok (.bipush 96, 2) := by decide +kernel
theorem dX6_flow_36 : decode cX6_flow 36 = .ok (.if_icmp .ge 16, 3) := by decide +kernel
theorem dX6_flow_39 : decode cX6_flow 39 = .ok (.aload_n 0, 1) := by decide +kernel
theorem dX6_flow_40 : decode cX6_flow 40 = .ok (.iconst 4, 1) := by decide +kernel
theorem dX6_flow_41 : decode cX6_flow 41 = .ok (.iload_n 3, 1) := by decide +kernel
theorem dX6_flow_42 : decode cX6_flow 42 = .ok (.imul, 1) := by decide +kernel
theorem dX6_flow_43 : decode cX6_flow 43 = .ok (.invokevirtual 144, 3) := by decide +kernel
theorem dX6_flow_46 : decode cX6_flow 46 = .ok (.iinc 3 1, 3) := by decide +kernel
theorem dX6_flow_49 : decode cX6_flow 49 = .ok (.goto (-16), 3) := by decide +kernel
theorem dX6_flow_52 : decode cX6_flow 52 = .ok (.iconst 0, 1) := by decide +kernel
theorem dX6_flow_53 : decode cX6_flow 53 = .ok (.istore_n 3, 1) := by decide +kernel
theorem dX6_flow_54 : decode cX6_flow 54 = .ok (.iload_n 3, 1) := by decide +kernel
theorem dX6_flow_55 : decode cX6_flow 55 = .ok (.sipush 384, 3) := by decide +kernel
theorem dX6_flow_58 : decode cX6_flow 58 = .ok (.if_icmp .ge 16, 3) := by decide +kernel
theorem dX6_flow_61 : decode cX6_flow 61 = .ok (.aload_n 0, 1) := by decide +kernel
theorem dX6_flow_62 : decode cX6_flow 62 = .ok (.getfield 37, 3) := by decide +kernel
theorem dX6_flow_65 : decode cX6_flow 65 = .ok (.iload_n 3, 1) := by decide +kernel
theorem dX6_flow_66 : decode cX6_flow 66 = .ok (.iconst 0, 1) := by decide +kernel
theorem dX6_flow_67 : decode cX6_flow 67 = .ok (.iastore, 1) := by decide +kernel
theorem dX6_flow_68 : decode cX6_flow 68 = .ok (.iinc 3 1, 3) := by decide +kernel
theorem dX6_flow_71 : decode cX6_flow 71 = .ok (.goto (-17), 3) := by decide +kernel
theorem dX6_flow_74 : decode cX6_flow 74 = .ok (.iconst 0, 1) := by decide +kernel
theorem dX6_flow_75 : decode cX6_flow 75 = .ok (.istore_n 3, 1) := by decide +kernel
theorem dX6_flow_76 : decode cX6_flow 76 = .ok (.iload_n 3, 1) := by decide +kernel
theorem dX6_flow_77 : decode cX6_flow 77 = .ok (.sipush 384, 3) := by decide +kernel
theorem dX6_flow_80 : decode cX6_flow 80 = .ok (.if_icmp .ge 70, 3) := by decide +kernel
theorem dX6_flow_83 : decode cX6_flow 83 = .ok (.iload_n 3, 1) := by decide +kernel
theorem dX6_flow_84 : decode cX6_flow 84 = .ok (.iconst 4, 1) := by decide +kernel
theorem dX6_flow_85 : decode cX6_flow 85 = .ok (.idiv, 1) := by decide +kernel
theorem dX6_flow_86 : decode cX6_flow 86 = .ok (.iload_n 3, 1) := by decide +kernel
theorem dX6_flow_87 : decode cX6_flow 87 = .ok (.iconst 4, 1) := by decide +kernel
theorem dX6_flow_88 : decode cX6_flow 88 = .ok (.irem, 1) := by decide +kernel
theorem dX6_flow_89 : decode cX6_flow 89 = .ok (.invokestatic 109, 3) := by decide +kernel
theorem dX6_flow_92 : decode cX6_flow 92 = .ok (.istore 4, 2) := by decide +kernel
theorem dX6_flow_94 : decode cX6_flow 94 = .ok (.aload_n 0, 1) := by decide +kernel
theorem dX6_flow_95 : decode cX6_flow 95 = .ok (.iload 4, 2) := by decide +kernel
theorem dX6_flow_97 : decode cX6_flow 97 = .ok (.invokevirtual 113, 3) := by decide +kernel
theorem dX6_flow_100 : decode cX6_flow 100 = .ok (.ifCond .eq 18, 3) := by decide +kernel
theorem dX6_flow_103 : decode cX6_flow 103 = .ok (.iload_n 3, 1) := by decide +kernel
theorem dX6_flow_104 : decode cX6_flow 104 = .ok (.iconst 4, 1) := by decide +kernel
theorem dX6_flow_105 : decode cX6_flow 105 = .ok (.idiv, 1) := by decide +kernel
theorem dX6_flow_106 : decode cX6_flow 106 = .ok (.iconst 4, 1) := by decide +kernel
theorem dX6_flow_107 : decode cX6_flow 107 = .ok (.imul, 1) := by decide +kernel
theorem dX6_flow_108 : decode cX6_flow 108 = .ok (.iload_n 3, 1) := by decide +kernel
theorem dX6_flow_109 : decode cX6_flow 109 = .ok (.iconst 4, 1) := by decide +kernel
theorem dX6_flow_110 : decode cX6_flow 110 = .ok (.irem, 1) := by decide +kernel
theorem dX6_flow_111 : decode cX6_flow 111 = .ok (.invokestatic 116, 3) := by decide +kernel
theorem dX6_flow_114 : decode cX6_flow 114 = .ok (.iadd, 1) := by decide +kernel
theorem dX6_flow_115 : decode cX6_flow 115 = .ok (.goto 11, 3) := by decide +kernel
theorem dX6_flow_118 : decode cX6_flow 118 = .ok (.iconst 4, 1) := by decide +kernel
theorem dX6_flow_119 : decode cX6_flow 119 = .ok (.iload 4, 2) := by decide +kernel
theorem dX6_flow_121 : decode cX6_flow 121 = .ok (.imul, 1) := by decide +kernel
theorem dX6_flow_122 : decode cX6_flow 122 = .ok (.iload_n 3, 1) := by decide +kernel
theorem dX6_flow_123 : decode cX6_flow 123 = .ok (.iconst 4, 1) := by decide +kernel
theorem dX6_flow_124 : decode cX6_flow 124 = .ok (.irem, 1) := by decide +kernel
theorem dX6_flow_125 : decode cX6_flow 125 = .ok (.iadd, 1) := by decide +kernel
theorem dX6_flow_126 : decode cX6_flow 126 = .ok (.istore 5, 2) := by decide +kernel
theorem dX6_flow_128 : decode cX6_flow 128 = .ok (.aload_n 0, 1) := by decide +kernel
theorem dX6_flow_129 : decode cX6_flow 129 = .ok (.getfield 37, 3) := by decide +kernel
theorem dX6_flow_132 : decode cX6_flow 132 = .ok (.iload 5, 2) := by decide +kernel
theorem dX6_flow_134 : decode cX6_flow 134 = .ok (.dup2, 1) := by decide +kernel
theorem dX6_flow_135 : decode cX6_flow 135 = .ok (.iaload, 1) := by decide +kernel
theorem dX6_flow_136 : decode cX6_flow 136 = .ok (.aload_n 0, 1) := by decide +kernel
theorem dX6_flow_137 : decode cX6_flow 137 = .ok (.getfield 34, 3) := by decide +kernel
theorem dX6_flow_140 : decode cX6_flow 140 = .ok (.iload_n 3, 1) := by decide +kernel
theorem dX6_flow_141 : decode cX6_flow 141 = .ok (.iaload, 1) := by decide +kernel
theorem dX6_flow_142 : decode cX6_flow 142 = .ok (.iadd, 1) := by decide +kernel
theorem dX6_flow_143 : decode cX6_flow 143 = .ok (.iastore, 1) := by decide +kernel
theorem dX6_flow_144 : decode cX6_flow 144 = .ok (.iinc 3 1, 3) := by decide +kernel
theorem dX6_flow_147 : decode cX6_flow 147 = .ok (.goto (-71), 3) := by decide +kernel
theorem dX6_flow_150 : decode cX6_flow 150 = .ok (.iconst 0, 1) := by decide +kernel
theorem dX6_flow_151 : decode cX6_flow 151 = .ok (.istore_n 3, 1) := by decide +kernel
theorem dX6_flow_152 : decode cX6_flow 152 = .ok (.iload_n 3, 1) := by decide +kernel
theorem dX6_flow_153 : decode cX6_flow 153 = .ok (.sipush 384, 3) := by decide +kernel
theorem dX6_flow_156 : decode cX6_flow 156 = .ok (.if_icmp .ge 21, 3) := by decide +kernel
theorem dX6_flow_159 : decode cX6_flow 159 = .ok (.aload_n 0, 1) := by decide +kernel
theorem dX6_flow_160 : decode cX6_flow 160 = .ok (.getfield 34, 3) := by decide +kernel
theorem dX6_flow_163 : decode cX6_flow 163 = .ok (.iload_n 3, 1) := by decide +kernel
theorem dX6_flow_164 : decode cX6_flow 164 = .ok (.aload_n 0, 1) := by decide +kernel
theorem dX6_flow_165 : decode cX6_flow 165 = .ok (.getfield 37, 3) := by decide +kernel
theorem dX6_flow_168 : decode cX6_flow 168 = .ok (.iload_n 3, 1) := by decide +kernel
theorem dX6_flow_169 : decode cX6_flow 169 = .ok (.iaload, 1) := by decide +kernel
theorem dX6_flow_170 : decode cX6_flow 170 = .ok (.iastore, 1) := by decide +kernel
theorem dX6_flow_171 : decode cX6_flow 171 = .ok (.iinc 3 1, 3) := by decide +kernel
theorem dX6_flow_174 : decode cX6_flow 174 = .ok (.goto (-22), 3) := by decide +kernel
theorem dX6_flow_177 : decode cX6_flow 177 = .ok (.iinc 2 1, 3) := by decide +kernel
theorem dX6_flow_180 : decode cX6_flow 180 = .ok (.goto (-154), 3) := by decide +kernel
theorem dX6_flow_183 : decode cX6_flow 183 = .ok (.aload_n 0, 1) := by decide +kernel
theorem dX6_flow_184 : decode cX6_flow 184 = .ok (.dup, 1) := by decide +kernel
theorem dX6_flow_185 : decode cX6_flow 185 = .ok (.getfield 148, 3) := by decide +kernel
theorem dX6_flow_188 : decode cX6_flow 188 = .ok (.iload_n 1, 1) := by decide +kernel
theorem dX6_flow_189 : decode cX6_flow 189 = .ok (.i2l, 1) := by decide +kernel
theorem dX6_flow_190 : decode cX6_flow 190 = .ok (.ladd, 1) := by decide +kernel
theorem dX6_flow_191 : decode cX6_flow 191 = .ok (.putfield 148, 3) := by decide +kernel
theorem dX6_flow_194 : decode cX6_flow 194 = .ok (.aload_n 0, 1) := by decide +kernel
theorem dX6_flow_195 : decode cX6_flow 195 = .ok (.getfield 148, 3) := by decide +kernel
theorem dX6_flow_198 : decode cX6_flow 198 = .ok (.lreturn, 1) := by decide +kernel
theorem dX6_cellOf_0 : decode cX6_cellOf 0 = .ok (.aload_n 0, 1) := by decide +kernel
theorem dX6_cellOf_1 : decode cX6_cellOf 1 = .ok (.aload_n 0, 1) := by decide +kernel
theorem dX6_cellOf_2 : decode cX6_cellOf 2 = .ok (.iload_n 1, 1) := by decide +kernel
theorem dX6_cellOf_3 : decode cX6_cellOf 3 = .ok (.invokevirtual 77, 3) := by decide +kernel
theorem dX6_cellOf_6 : decode cX6_cellOf 6 = .ok (.ifCond .ne 7, 3) := by decide +kernel
theorem dX6_cellOf_9 : decode cX6_cellOf 9 = .ok (.iconst 1, 1) := by decide +kernel
theorem dX6_cellOf_10 : decode cX6_cellOf 10 = .ok (.goto 18, 3) := by decide +kernel
theorem dX6_cellOf_13 : decode cX6_cellOf 13 = .ok (.iload_n 2, 1) := by decide +kernel
theorem dX6_cellOf_14 : decode cX6_cellOf 14 = .ok (.iconst 0, 1) := by decide +kernel
theorem dX6_cellOf_15 : decode cX6_cellOf 15 = .ok (.bipush 7, 2) := by decide +kernel
theorem dX6_cellOf_17 : decode cX6_cellOf 17 = .ok (.invokestatic 62, 3) := by decide +kernel
theorem dX6_cellOf_20 : decode cX6_cellOf 20 = .ok (.ifCond .ne 7, 3) := by decide +kernel
theorem dX6_cellOf_23 : decode cX6_cellOf 23 = .ok (.iconst 2, 1) := by decide +kernel
theorem dX6_cellOf_24 : decode cX6_cellOf 24 = .ok (.goto 4, 3) := by decide +kernel
theorem dX6_cellOf_27 : decode cX6_cellOf 27 = .ok (.iconst 0, 1) := by decide +kernel
theorem dX6_cellOf_28 : decode cX6_cellOf 28 = .ok (.invokevirtual 84, 3) := by decide +kernel
theorem dX6_cellOf_31 : decode cX6_cellOf 31 = .ok (.ifCond .eq 5, 3) := by decide +kernel
theorem dX6_cellOf_34 : decode cX6_cellOf 34 = .ok (.iconst 0, 1) := by decide +kernel
theorem dX6_cellOf_35 : decode cX6_cellOf 35 = .ok (.ireturn, 1) := by decide +kernel
theorem dX6_cellOf_36 : decode cX6_cellOf 36 = .ok (.iload_n 2, 1) := by decide +kernel
theorem dX6_cellOf_37 : decode cX6_cellOf 37 = .ok (.ifCond .ne 12, 3) := by decide +kernel
theorem dX6_cellOf_40 : decode cX6_cellOf 40 = .ok (.aload_n 0, 1) := by decide +kernel
theorem dX6_cellOf_41 : decode cX6_cellOf 41 = .ok (.getfield 7, 3) := by decide +kernel
theorem dX6_cellOf_44 : decode cX6_cellOf 44 = .ok (.iload_n 1, 1) := by decide +kernel
theorem dX6_cellOf_45 : decode cX6_cellOf 45 = .ok (.iaload, 1) := by decide +kernel
theorem dX6_cellOf_46 : decode cX6_cellOf 46 = .ok (.goto 57, 3) := by decide +kernel
theorem dX6_cellOf_49 : decode cX6_cellOf 49 = .ok (.iload_n 2, 1) := by decide +kernel
theorem dX6_cellOf_50 : decode cX6_cellOf 50 = .ok (.iconst 1, 1) := by decide +kernel
theorem dX6_cellOf_51 : decode cX6_cellOf 51 = .ok (.if_icmp .ne 12, 3) := by decide +kernel
theorem dX6_cellOf_54 : decode cX6_cellOf 54 = .ok (.aload_n 0, 1) := by decide +kernel
theorem dX6_cellOf_55 : decode cX6_cellOf 55 = .ok (.getfield 13, 3) := by decide +kernel
theorem dX6_cellOf_58 : decode cX6_cellOf 58 = .ok (.iload_n 1, 1) := by decide +kernel
theorem dX6_cellOf_59 : decode cX6_cellOf 59 = .ok (.iaload, 1) := by decide +kernel
theorem dX6_cellOf_60 : decode cX6_cellOf 60 = .ok (.goto 43, 3) := by decide +kernel
theorem dX6_cellOf_63 : decode cX6_cellOf 63 = .ok (.iload_n 2, 1) := by decide +kernel
theorem dX6_cellOf_64 : decode cX6_cellOf 64 = .ok (.iconst 2, 1) := by decide +kernel
theorem dX6_cellOf_65 : decode cX6_cellOf 65 = .ok (.if_icmp .ne 12, 3) := by decide +kernel
theorem dX6_cellOf_68 : decode cX6_cellOf 68 = .ok (.aload_n 0, 1) := by decide +kernel
theorem dX6_cellOf_69 : decode cX6_cellOf 69 = .ok (.getfield 16, 3) := by decide +kernel
theorem dX6_cellOf_72 : decode cX6_cellOf 72 = .ok (.iload_n 1, 1) := by decide +kernel
theorem dX6_cellOf_73 : decode cX6_cellOf 73 = .ok (.iaload, 1) := by decide +kernel
theorem dX6_cellOf_74 : decode cX6_cellOf 74 = .ok (.goto 29, 3) := by decide +kernel
theorem dX6_cellOf_77 : decode cX6_cellOf 77 = .ok (.iload_n 2, 1) := by decide +kernel
theorem dX6_cellOf_78 : decode cX6_cellOf 78 = .ok (.iconst 3, 1) := by decide +kernel
theorem dX6_cellOf_79 : decode cX6_cellOf 79 = .ok (.if_icmp .ne 12, 3) := by decide +kernel
theorem dX6_cellOf_82 : decode cX6_cellOf 82 = .ok (.aload_n 0, 1) := by decide +kernel
theorem dX6_cellOf_83 : decode cX6_cellOf 83 = .ok (.getfield 19, 3) := by decide +kernel
theorem dX6_cellOf_86 : decode cX6_cellOf 86 = .ok (.iload_n 1, 1) := by decide +kernel
theorem dX6_cellOf_87 : decode cX6_cellOf 87 = .ok (.iaload, 1) := by decide +kernel
theorem dX6_cellOf_88 : decode cX6_cellOf 88 = .ok (.goto 15, 3) := by decide +kernel
theorem dX6_cellOf_91 : decode cX6_cellOf 91 = .ok (.aload_n 0, 1) := by decide +kernel
theorem dX6_cellOf_92 : decode cX6_cellOf 92 = .ok (.getfield 34, 3) := by decide +kernel
theorem dX6_cellOf_95 : decode cX6_cellOf 95 = .ok (.iconst 4, 1) := by decide +kernel
theorem dX6_cellOf_96 : decode cX6_cellOf 96 = .ok (.iload_n 1, 1) := by decide +kernel
theorem dX6_cellOf_97 : decode cX6_cellOf 97 = .ok (.imul, 1) := by decide +kernel
theorem dX6_cellOf_98 : decode cX6_cellOf 98 = .ok (.iload_n 2, 1) := by decide +kernel
theorem dX6_cellOf_99 : decode cX6_cellOf 99 = .ok (.iadd, 1) := by decide +kernel
theorem dX6_cellOf_100 : decode cX6_cellOf 100 = .ok (.iconst 4, 1) := by decide +kernel
theorem dX6_cellOf_101 : decode cX6_cellOf 101 = .ok (.isub, 1) := by decide +kernel
theorem dX6_cellOf_102 : decode cX6_cellOf 102 = .ok (.iaload, 1) := by decide +kernel
theorem dX6_cellOf_103 : decode cX6_cellOf 103 = .ok (.ireturn, 1) := by decide +kernel
theorem dX6_bodyOf_0 : decode cX6_bodyOf 0 = .ok (.aload_n 0, 1) := by decide +kernel
theorem dX6_bodyOf_1 : decode cX6_bodyOf 1 = .ok (.iload_n 1, 1) := by decide +kernel
theorem dX6_bodyOf_2 : decode cX6_bodyOf 2 = .ok (.iconst 0, 1) := by decide +kernel
theorem dX6_bodyOf_3 : decode cX6_bodyOf 3 = .ok (.iconst 3, 1) := by decide +kernel
theorem dX6_bodyOf_4 : decode cX6_bodyOf 4 = .ok (.invokestatic 62, 3) := by decide +kernel
theorem dX6_bodyOf_7 : decode cX6_bodyOf 7 = .ok (.ifCond .ne 7, 3) := by decide +kernel
theorem dX6_bodyOf_10 : decode cX6_bodyOf 10 = .ok (.iconst 1, 1) := by decide +kernel
theorem dX6_bodyOf_11 : decode cX6_bodyOf 11 = .ok (.goto 17, 3) := by decide +kernel
theorem dX6_bodyOf_14 : decode cX6_bodyOf 14 = .ok (.iload_n 2, 1) := by decide +kernel
theorem dX6_bodyOf_15 : decode cX6_bodyOf 15 = .ok (.iconst 0, 1) := by decide +kernel
theorem dX6_bodyOf_16 : decode cX6_bodyOf 16 = .ok (.iconst 5, 1) := by decide +kernel
theorem dX6_bodyOf_17 : decode cX6_bodyOf 17 = .ok (.invokestatic 62, 3) := by decide +kernel
theorem dX6_bodyOf_20 : decode cX6_bodyOf 20 = .ok (.ifCond .ne 7, 3) := by decide +kernel
theorem dX6_bodyOf_23 : decode cX6_bodyOf 23 = .ok (.iconst 2, 1) := by decide +kernel
theorem dX6_bodyOf_24 : decode cX6_bodyOf 24 = .ok (.goto 4, 3) := by decide +kernel
theorem dX6_bodyOf_27 : decode cX6_bodyOf 27 = .ok (.iconst 0, 1) := by decide +kernel
theorem dX6_bodyOf_28 : decode cX6_bodyOf 28 = .ok (.invokevirtual 84, 3) := by decide +kernel
theorem dX6_bodyOf_31 : decode cX6_bodyOf 31 = .ok (.ifCond .eq 5, 3) := by decide +kernel
theorem dX6_bodyOf_34 : decode cX6_bodyOf 34 = .ok (.iconst 0, 1) := by decide +kernel
theorem dX6_bodyOf_35 : decode cX6_bodyOf 35 = .ok (.ireturn, 1) := by decide +kernel
theorem dX6_bodyOf_36 : decode cX6_bodyOf 36 = .ok (.iconst 3, 1) := by decide +kernel
theorem dX6_bodyOf_37 : decode cX6_bodyOf 37 = .ok (.iload_n 1, 1) := by decide +kernel
theorem dX6_bodyOf_38 : decode cX6_bodyOf 38 = .ok (.imul, 1) := by decide +kernel
theorem dX6_bodyOf_39 : decode cX6_bodyOf 39 = .ok (.istore_n 3, 1) := by decide +kernel
theorem dX6_bodyOf_40 : decode cX6_bodyOf 40 = .ok (.iload_n 2, 1) := by decide +kernel
theorem dX6_bodyOf_41 : decode cX6_bodyOf 41 = .ok (.ifCond .ne 11, 3) := by decide +kernel
theorem dX6_bodyOf_44 : decode cX6_bodyOf 44 = .ok (.aload_n 0, 1) := by decide +kernel
theorem dX6_bodyOf_45 : decode cX6_bodyOf 45 = .ok (.iload_n 1, 1) := by decide +kernel
theorem dX6_bodyOf_46 : decode cX6_bodyOf 46 = .ok (.invokevirtual 73, 3) := by decide +kernel
theorem dX6_bodyOf_49 : decode cX6_bodyOf 49 = .ok (.goto 45, 3) := by decide +kernel
theorem dX6_bodyOf_52 : decode cX6_bodyOf 52 = .ok (.iload_n 2, 1) := by decide +kernel
theorem dX6_bodyOf_53 : decode cX6_bodyOf 53 = .ok (.iconst 4, 1) := by decide +kernel
theorem dX6_bodyOf_54 : decode cX6_bodyOf 54 = .ok (.if_icmp .ge 16, 3) := by decide +kernel
theorem dX6_bodyOf_57 : decode cX6_bodyOf 57 = .ok (.aload_n 0, 1) := by decide +kernel
theorem dX6_bodyOf_58 : decode cX6_bodyOf 58 = .ok (.getfield 40, 3) := by decide +kernel
theorem dX6_bodyOf_61 : decode cX6_bodyOf 61 = .ok (.iload_n 3, 1) := by decide +kernel
theorem dX6_bodyOf_62 : decode cX6_bodyOf 62 = .ok (.iload_n 2, 1) := by decide +kernel
theorem dX6_bodyOf_63 : decode cX6_bodyOf 63 = .ok (.iadd, 1) := by decide +kernel
theorem dX6_bodyOf_64 : decode cX6_bodyOf 64 = .ok (.iconst 1, 1) := by decide +kernel
theorem dX6_bodyOf_65 : decode cX6_bodyOf 65 = .ok (.isub, 1) := by decide +kernel
theorem dX6_bodyOf_66 : decode cX6_bodyOf 66 = .ok (.iaload, 1) := by decide +kernel
theorem dX6_bodyOf_67 : decode cX6_bodyOf 67 = .ok (.goto 27, 3) := by decide +kernel
theorem dX6_bodyOf_70 : decode cX6_bodyOf 70 = .ok (.aload_n 0, 1) := by decide +kernel
theorem dX6_bodyOf_71 : decode cX6_bodyOf 71 = .ok (.getfield 40, 3) := by decide +kernel
theorem dX6_bodyOf_74 : decode cX6_bodyOf 74 = .ok (.iload_n 3, 1) := by decide +kernel
theorem dX6_bodyOf_75 : decode cX6_bodyOf 75 = .ok (.iload_n 2, 1) := by decide +kernel
theorem dX6_bodyOf_76 : decode cX6_bodyOf 76 = .ok (.iadd, 1) := by decide +kernel
theorem dX6_bodyOf_77 : decode cX6_bodyOf 77 = .ok (.iconst 3, 1) := by decide +kernel
theorem dX6_bodyOf_78 : decode cX6_bodyOf 78 = .ok (.isub, 1) := by decide +kernel
theorem dX6_bodyOf_79 : decode cX6_bodyOf 79 = .ok (.iaload, 1) := by decide +kernel
theorem dX6_bodyOf_80 : decode cX6_bodyOf 80 = .ok (.aload_n 0, 1) := by decide +kernel
theorem dX6_bodyOf_81 : decode cX6_bodyOf 81 = .ok (.getfield 43, 3) := by decide +kernel
theorem dX6_bodyOf_84 : decode cX6_bodyOf 84 = .ok (.iload_n 1, 1) := by decide +kernel
theorem dX6_bodyOf_85 : decode cX6_bodyOf 85 = .ok (.iaload, 1) := by decide +kernel
theorem dX6_bodyOf_86 : decode cX6_bodyOf 86 = .ok (.aload_n 0, 1) := by decide +kernel
theorem dX6_bodyOf_87 : decode cX6_bodyOf 87 = .ok (.getfield 40, 3) := by decide +kernel
theorem dX6_bodyOf_90 : decode cX6_bodyOf 90 = .ok (.iload_n 3, 1) := by decide +kernel
theorem dX6_bodyOf_91 : decode cX6_bodyOf 91 = .ok (.iaload, 1) := by decide +kernel
theorem dX6_bodyOf_92 : decode cX6_bodyOf 92 = .ok (.imul, 1) := by decide +kernel
theorem dX6_bodyOf_93 : decode cX6_bodyOf 93 = .ok (.iadd, 1) := by decide +kernel
theorem dX6_bodyOf_94 : decode cX6_bodyOf 94 = .ok (.ireturn, 1) := by decide +kernel
theorem dX6_rightOf_0 : decode cX6_rightOf 0 = .ok (.iload_n 0, 1) := by decide +kernel
theorem dX6_rightOf_1 : decode cX6_rightOf 1 = .ok (.iconst 1, 1) := by decide +kernel
theorem dX6_rightOf_2 : decode cX6_rightOf 2 = .ok (.iand, 1) := by decide +kernel
theorem dX6_rightOf_3 : decode cX6_rightOf 3 = .ok (.iload_n 0, 1) := by decide +kernel
theorem dX6_rightOf_4 : decode cX6_rightOf 4 = .ok (.iconst 2, 1) := by decide +kernel
theorem dX6_rightOf_5 : decode cX6_rightOf 5 = .ok (.ishr, 1) := by decide +kernel
theorem dX6_rightOf_6 : decode cX6_rightOf 6 = .ok (.iconst 1, 1) := by decide +kernel
theorem dX6_rightOf_7 : decode cX6_rightOf 7 = .ok (.iand, 1) := by decide +kernel
theorem dX6_rightOf_8 : decode cX6_rightOf 8 = .ok (.isub, 1) := by decide +kernel
theorem dX6_rightOf_9 : decode cX6_rightOf 9 = .ok (.ireturn, 1) := by decide +kernel
theorem dX6_upOf_0 : decode cX6_upOf 0 = .ok (.iload_n 0, 1) := by decide +kernel
theorem dX6_upOf_1 : decode cX6_upOf 1 = .ok (.iconst 1, 1) := by decide +kernel
theorem dX6_upOf_2 : decode cX6_upOf 2 = .ok (.ishr, 1) := by decide +kernel
theorem dX6_upOf_3 : decode cX6_upOf 3 = .ok (.iconst 1, 1) := by decide +kernel
theorem dX6_upOf_4 : decode cX6_upOf 4 = .ok (.iand, 1) := by decide +kernel
theorem dX6_upOf_5 : decode cX6_upOf 5 = .ok (.iload_n 0, 1) := by decide +kernel
theorem dX6_upOf_6 : decode cX6_upOf 6 = .ok (.iconst 3, 1) := by decide +kernel
theorem dX6_upOf_7 : decode cX6_upOf 7 = .ok (.ishr, 1) := by decide +kernel
theorem dX6_upOf_8 : decode cX6_upOf 8 = .ok (.iconst 1, 1) := by decide +kernel
theorem dX6_upOf_9 : decode cX6_upOf 9 = .ok (.iand, 1) := by decide +kernel
theorem dX6_upOf_10 : decode cX6_upOf 10 = .ok (.isub, 1) := by decide +kernel
theorem dX6_upOf_11 : decode cX6_upOf 11 = .ok (.ireturn, 1) := by decide +kernel
theorem dX6_sum_0 : decode cX6_sum 0 = .ok (.aload_n 0, 1) := by decide +kernel
theorem dX6_sum_1 : decode cX6_sum 1 = .ok (.iload_n 1, 1) := by decide +kernel
theorem dX6_sum_2 : decode cX6_sum 2 = .ok (.iconst 0, 1) := by decide +kernel
theorem dX6_sum_3 : decode cX6_sum 3 = .ok (.bipush 7, 2) := by decide +kernel
theorem dX6_sum_5 : decode cX6_sum 5 = .ok (.invokestatic 62, 3) := by decide +kernel
theorem dX6_sum_8 : decode cX6_sum 8 = .ok (.ifCond .eq 7, 3) := by decide +kernel
theorem dX6_sum_11 : decode cX6_sum 11 = .ok (.iconst 0, 1) := by decide +kernel
theorem dX6_sum_12 : decode cX6_sum 12 = .ok (.goto 4, 3) := by decide +kernel
theorem dX6_sum_15 : decode cX6_sum 15 = .ok (.iconst 1, 1) := by decide +kernel
theorem dX6_sum_16 : decode cX6_sum 16 = .ok (.invokevirtual 84, 3) := by decide +kernel
theorem dX6_sum_19 : decode cX6_sum 19 = .ok (.ifCond .eq 5, 3) := by decide +kernel
theorem dX6_sum_22 : decode cX6_sum 22 = .ok (.lconst 0, 1) := by decide +kernel
theorem dX6_sum_23 : decode cX6_sum 23 = .ok (.lreturn, 1) := by decide +kernel
theorem dX6_sum_24 : decode cX6_sum 24 = .ok (.lconst 0, 1) := by decide +kernel
theorem dX6_sum_25 : decode cX6_sum 25 = .ok (.lstore_n 2, 1) := by decide +kernel
theorem dX6_sum_26 : decode cX6_sum 26 = .ok (.iconst 0, 1) := by decide +kernel
theorem dX6_sum_27 : decode cX6_sum 27 = .ok (.istore 4, 2) := by decide +kernel
theorem dX6_sum_29 : decode cX6_sum 29 = .ok (.iload 4, 2) := by decide +kernel
theorem dX6_sum_31 : decode cX6_sum 31 = .ok (.bipush 96, 2) := by decide +kernel
theorem dX6_sum_33 : decode cX6_sum 33 = .ok (.if_icmp .ge 91, 3) := by decide +kernel
theorem dX6_sum_36 : decode cX6_sum 36 = .ok (.iload_n 1, 1) := by decide +kernel
theorem dX6_sum_37 : decode cX6_sum 37 = .ok (.iconst 1, 1) := by decide +kernel
theorem dX6_sum_38 : decode cX6_sum 38 = .ok (.if_icmp .le 86, 3) := by decide +kernel
theorem dX6_sum_41 : decode cX6_sum 41 = .ok (.iload_n 1, 1) := by decide +kernel
theorem dX6_sum_42 : decode cX6_sum 42 = .ok (.bipush 6, 2) := by decide +kernel
theorem dX6_sum_44 : decode cX6_sum 44 = .ok (.if_icmp .ge 80, 3) := by decide +kernel
theorem dX6_sum_47 : decode cX6_sum 47 = .ok (.lload_n 2, 1) := by decide +kernel
theorem dX6_sum_48 : decode cX6_sum 48 = .ok (.iload_n 1, 1) := by decide +kernel
theorem dX6_sum_49 : decode cX6_sum 49 = .ok (.iconst 2, 1) := by decide +kernel
theorem dX6_sum_50 : decode cX6_sum 50 = .ok (.if_icmp .ne 17, 3) := by decide +kernel
theorem dX6_sum_53 : decode cX6_sum 53 = .ok (.aload_n 0, 1) := by decide +kernel
theorem dX6_sum_54 : decode cX6_sum 54 = .ok (.getfield 16, 3) := by decide +kernel
theorem dX6_sum_57 : decode cX6_sum 57 = .ok (.iload 4, 2) := by decide +kernel
theorem dX6_sum_59 : decode cX6_sum 59 = .ok (.iaload, 1) := by decide +kernel
theorem dX6_sum_60 : decode cX6_sum 60 = .ok (.invokestatic 90, 3) := by decide +kernel
theorem dX6_sum_63 : decode cX6_sum 63 = .ok (.i2l, 1) := by decide +kernel
theorem dX6_sum_64 : decode cX6_sum 64 = .ok (.goto 52, 3) := by decide +kernel
theorem dX6_sum_67 : decode cX6_sum 67 = .ok (.iload_n 1, 1) := by decide +kernel
theorem dX6_sum_68 : decode cX6_sum 68 = .ok (.iconst 3, 1) := by decide +kernel
theorem dX6_sum_69 : decode cX6_sum 69 = .ok (.if_icmp .ne 17, 3) := by decide +kernel
theorem dX6_sum_72 : decode cX6_sum 72 = .ok (.aload_n 0, 1) := by decide +kernel
theorem dX6_sum_73 : decode cX6_sum 73 = .ok (.getfield 19, 3) := by decide +kernel
theorem dX6_sum_76 : decode cX6_sum 76 = .ok (.iload 4, 2) := by decide +kernel
theorem dX6_sum_78 : decode cX6_sum 78 = .ok (.iaload, 1) := by decide +kernel
theorem dX6_sum_79 : decode cX6_sum 79 = .ok (.invokestatic 90, 3) := by decide +kernel
theorem dX6_sum_82 : decode cX6_sum 82 = .ok (.i2l, 1) := by decide +kernel
theorem dX6_sum_83 : decode cX6_sum 83 = .ok (.goto 33, 3) := by decide +kernel
theorem dX6_sum_86 : decode cX6_sum 86 = .ok (.iload_n 1, 1) := by decide +kernel
theorem dX6_sum_87 : decode cX6_sum 87 = .ok (.iconst 4, 1) := by decide +kernel
theorem dX6_sum_88 : decode cX6_sum 88 = .ok (.if_icmp .ne 17, 3) := by decide +kernel
theorem dX6_sum_91 : decode cX6_sum 91 = .ok (.aload_n 0, 1) := by decide +kernel
theorem dX6_sum_92 : decode cX6_sum 92 = .ok (.getfield 16, 3) := by decide +kernel
theorem dX6_sum_95 : decode cX6_sum 95 = .ok (.iload 4, 2) := by decide +kernel
theorem dX6_sum_97 : decode cX6_sum 97 = .ok (.iaload, 1) := by decide +kernel
theorem dX6_sum_98 : decode cX6_sum 98 = .ok (.invokestatic 151, 3) := by decide +kernel
theorem dX6_sum_101 : decode cX6_sum 101 = .ok (.i2l, 1) := by decide +kernel
theorem dX6_sum_102 : decode cX6_sum 102 = .ok (.goto 14, 3) := by decide +kernel
theorem dX6_sum_105 : decode cX6_sum 105 = .ok (.aload_n 0, 1) := by decide +kernel
theorem dX6_sum_106 : decode cX6_sum 106 = .ok (.getfield 16, 3) := by decide +kernel
theorem dX6_sum_109 : decode cX6_sum 109 = .ok (.iload 4, 2) := by decide +kernel
theorem dX6_sum_111 : decode cX6_sum 111 = .ok (.iaload, 1) := by decide +kernel
theorem dX6_sum_112 : decode cX6_sum 112 = .ok (.invokestatic 154, 3) := by decide +kernel
theorem dX6_sum_115 : decode cX6_sum 115 = .ok (.i2l, 1) := by decide +kernel
theorem dX6_sum_116 : decode cX6_sum 116 = .ok (.ladd, 1) := by decide +kernel
theorem dX6_sum_117 : decode cX6_sum 117 = .ok (.lstore_n 2, 1) := by decide +kernel
theorem dX6_sum_118 : decode cX6_sum 118 = .ok (.iinc 4 1, 3) := by decide +kernel
theorem dX6_sum_121 : decode cX6_sum 121 = .ok (.goto (-92), 3) := by decide +kernel
theorem dX6_sum_124 : decode cX6_sum 124 = .ok (.iload_n 1, 1) := by decide +kernel
theorem dX6_sum_125 : decode cX6_sum 125 = .ok (.ifCond .ne 11, 3) := by decide +kernel
theorem dX6_sum_128 : decode cX6_sum 128 = .ok (.aload_n 0, 1) := by decide +kernel
theorem dX6_sum_129 : decode cX6_sum 129 = .ok (.getfield 123, 3) := by decide +kernel
theorem dX6_sum_132 : decode cX6_sum 132 = .ok (.i2l, 1) := by decide +kernel
theorem dX6_sum_133 : decode cX6_sum 133 = .ok (.goto 43, 3) := by decide +kernel
theorem dX6_sum_136 : decode cX6_sum 136 = .ok (.iload_n 1, 1) := by decide +kernel
theorem dX6_sum_137 : decode cX6_sum 137 = .ok (.iconst 1, 1) := by decide +kernel
theorem dX6_sum_138 : decode cX6_sum 138 = .ok (.if_icmp .ne 11, 3) := by decide +kernel
theorem dX6_sum_141 : decode cX6_sum 141 = .ok (.aload_n 0, 1) := by decide +kernel
theorem dX6_sum_142 : decode cX6_sum 142 = .ok (.getfield 87, 3) := by decide +kernel
theorem dX6_sum_145 : decode cX6_sum 145 = .ok (.i2l, 1) := by decide +kernel
theorem dX6_sum_146 : decode cX6_sum 146 = .ok (.goto 30, 3) := by decide +kernel
theorem dX6_sum_149 : decode cX6_sum 149 = .ok (.iload_n 1, 1) := by decide +kernel
theorem dX6_sum_150 : decode cX6_sum 150 = .ok (.bipush 6, 2) := by decide +kernel
theorem dX6_sum_152 : decode cX6_sum 152 = .ok (.if_icmp .ne 10, 3) := by decide +kernel
theorem dX6_sum_155 : decode cX6_sum 155 = .ok (.aload_n 0, 1) := by decide +kernel
theorem dX6_sum_156 : decode cX6_sum 156 = .ok (.getfield 134, 3) := by decide +kernel
theorem dX6_sum_159 : decode cX6_sum 159 = .ok (.goto 17, 3) := by decide +kernel
theorem dX6_sum_162 : decode cX6_sum 162 = .ok (.iload_n 1, 1) := by decide +kernel
theorem dX6_sum_163 : decode cX6_sum 163 = .ok (.bipush 7, 2) := by decide +kernel
theorem dX6_sum_165 : decode cX6_sum 165 = .ok (.if_icmp .ne 10, 3) := by decide +kernel
theorem dX6_sum_168 : decode cX6_sum 168 = .ok (.aload_n 0, 1) := by decide +kernel
theorem dX6_sum_169 : decode cX6_sum 169 = .ok (.invokevirtual 94, 3) := by decide +kernel
theorem dX6_sum_172 : decode cX6_sum 172 = .ok (.goto 4, 3) := by decide +kernel
theorem dX6_sum_175 : decode cX6_sum 175 = .ok (.lload_n 2, 1) := by decide +kernel
theorem dX6_sum_176 : decode cX6_sum 176 = .ok (.lreturn, 1) := by decide +kernel
theorem dX6_left_0 : decode cX6_left 0 = .ok (.aload_n 0, 1) := by decide +kernel
theorem dX6_left_1 : decode cX6_left 1 = .ok (.iconst 0, 1) := by decide +kernel
theorem dX6_left_2 : decode cX6_left 2 = .ok (.putfield 58, 3) := by decide +kernel
theorem dX6_left_5 : decode cX6_left 5 = .ok (.lconst 0, 1) := by decide +kernel
theorem dX6_left_6 : decode cX6_left 6 = .ok (.lreturn, 1) := by decide +kernel
theorem dX6_isWindow_0 : decode cX6_isWindow 0 = .ok (.iload_n 0, 1) := by decide +kernel
theorem dX6_isWindow_1 : decode cX6_isWindow 1 = .ok (.iconst 0, 1) := by decide +kernel
theorem dX6_isWindow_2 : decode cX6_isWindow 2 = .ok (.bipush 7, 2) := by decide +kernel
theorem dX6_isWindow_4 : decode cX6_isWindow 4 = .ok (.invokestatic 62, 3) := by decide +kernel
theorem dX6_isWindow_7 : decode cX6_isWindow 7 = .ok (.ifCond .eq 45, 3) := by decide +kernel
theorem dX6_isWindow_10 : decode cX6_isWindow 10 = .ok (.iload_n 1, 1) := by decide +kernel
theorem dX6_isWindow_11 : decode cX6_isWindow 11 = .ok (.iconst 0, 1) := by decide +kernel
theorem dX6_isWindow_12 : decode cX6_isWindow 12 = .ok (.bipush 11, 2) := by decide +kernel
theorem dX6_isWindow_14 : decode cX6_isWindow 14 = .ok (.invokestatic 62, 3) := by decide +kernel
theorem dX6_isWindow_17 : decode cX6_isWindow 17 = .ok (.ifCond .eq 35, 3) := by decide +kernel
theorem dX6_isWindow_20 : decode cX6_isWindow 20 = .ok (.iload_n 2, 1) := by decide +kernel
theorem dX6_isWindow_21 : decode cX6_isWindow 21 = .ok (.iconst 1, 1) := by decide +kernel
theorem dX6_isWindow_22 : decode cX6_isWindow 22 = .ok (.bipush 8, 2) := by decide +kernel
theorem dX6_isWindow_24 : decode cX6_isWindow 24 = .ok (.invokestatic 62, 3) := by decide +kernel
theorem dX6_isWindow_27 : decode cX6_isWindow 27 = .ok (.ifCond .eq 25, 3) := by decide +kernel
theorem dX6_isWindow_30 : decode cX6_isWindow 30 = .ok (.iload_n 3, 1) := by decide +kernel
theorem dX6_isWindow_31 : decode cX6_isWindow 31 = .ok (.iconst 1, 1) := by decide +kernel
theorem dX6_isWindow_32 : decode cX6_isWindow 32 = .ok (.bipush 12, 2) := by decide +kernel
theorem dX6_isWindow_34 : decode cX6_isWindow 34 = .ok (.invokestatic 62, 3) := by decide +kernel
theorem dX6_isWindow_37 : decode cX6_isWindow 37 = .ok (.ifCond .eq 15, 3) := by decide +kernel
theorem dX6_isWindow_40 : decode cX6_isWindow 40 = .ok (.iload_n 0, 1) := by decide +kernel
theorem dX6_isWindow_41 : decode cX6_isWindow 41 = .ok (.iload_n 2, 1) := by decide +kernel
theorem dX6_isWindow_42 : decode cX6_isWindow 42 = .ok (.iadd, 1) := by decide +kernel
theorem dX6_isWindow_43 : decode cX6_isWindow 43 = .ok (.bipush 8, 2) := by decide +kernel
theorem dX6_isWindow_45 : decode cX6_isWindow 45 = .ok (.if_icmp .gt 7, 3) := by decide +kernel
theorem dX6_isWindow_48 : decode cX6_isWindow 48 = .ok (.iconst 1, 1) := by decide +kernel
theorem dX6_isWindow_49 : decode cX6_isWindow 49 = .ok (.goto 4, 3) := by decide +kernel
theorem dX6_isWindow_52 : decode cX6_isWindow 52 = .ok (.iconst 0, 1) := by decide +kernel
theorem dX6_isWindow_53 : decode cX6_isWindow 53 = .ok (.ireturn, 1) := by decide +kernel
theorem dX6_seen_0 : decode cX6_seen 0 = .ok (.iconst 4, 1) := by decide +kernel
theorem dX6_seen_1 : decode cX6_seen 1 = .ok (.iload_n 3, 1) := by decide +kernel
theorem dX6_seen_2 : decode cX6_seen 2 = .ok (.imul, 1) := by decide +kernel
theorem dX6_seen_3 : decode cX6_seen 3 = .ok (.istore 4, 2) := by decide +kernel
theorem dX6_seen_5 : decode cX6_seen 5 = .ok (.iload_n 1, 1) := by decide +kernel
theorem dX6_seen_6 : decode cX6_seen 6 = .ok (.ifCond .eq 98, 3) := by decide +kernel
theorem dX6_seen_9 : decode cX6_seen 9 = .ok (.iload_n 2, 1) := by decide +kernel
theorem dX6_seen_10 : decode cX6_seen 10 = .ok (.ifCond .ne 47, 3) := by decide +kernel
theorem dX6_seen_13 : decode cX6_seen 13 = .ok (.aload_n 0, 1) := by decide +kernel
theorem dX6_seen_14 : decode cX6_seen 14 = .ok (.getfield 34, 3) := by decide +kernel
theorem dX6_seen_17 : decode cX6_seen 17 = .ok (.iload 4, 2) := by decide +kernel
theorem dX6_seen_19 : decode cX6_seen 19 = .ok (.iaload, 1) := by decide +kernel
theorem dX6_seen_20 : decode cX6_seen 20 = .ok (.i2l, 1) := by decide +kernel
theorem dX6_seen_21 : decode cX6_seen 21 = .ok (.aload_n 0, 1) := by decide +kernel
theorem dX6_seen_22 : decode cX6_seen 22 = .ok (.getfield 34, 3) := by decide +kernel
theorem dX6_seen_25 : decode cX6_seen 25 = .ok (.iload 4, 2) := by decide +kernel
theorem dX6_seen_27 : decode cX6_seen 27 = .ok (.iconst 1, 1) := by decide +kernel
theorem dX6_seen_28 : decode cX6_seen 28 = .ok (.iadd, 1) := by decide +kernel
theorem dX6_seen_29 : decode cX6_seen 29 = .ok (.iaload, 1) := by decide +kernel
theorem dX6_seen_30 : decode cX6_seen 30 = .ok (.i2l, 1) := by decide +kernel
theorem dX6_seen_31 : decode cX6_seen 31 = .ok (.ladd, 1) := by decide +kernel
theorem dX6_seen_32 : decode cX6_seen 32 = .ok (.aload_n 0, 1) := by decide +kernel
theorem dX6_seen_33 : decode cX6_seen 33 = .ok (.getfield 34, 3) := by decide +kernel
theorem dX6_seen_36 : decode cX6_seen 36 = .ok (.iload 4, 2) := by decide +kernel
theorem dX6_seen_38 : decode cX6_seen 38 = .ok (.iconst 2, 1) := by decide +kernel
theorem dX6_seen_39 : decode cX6_seen 39 = .ok (.iadd, 1) := by decide +kernel
theorem dX6_seen_40 : decode cX6_seen 40 = .ok (.iaload, 1) := by decide +kernel
theorem dX6_seen_41 : decode cX6_seen 41 = .ok (.i2l, 1) := by decide +kernel
theorem dX6_seen_42 : decode cX6_seen 42 = .ok (.ladd, 1) := by decide +kernel
theorem dX6_seen_43 : decode cX6_seen 43 = .ok (.aload_n 0, 1) := by decide +kernel
theorem dX6_seen_44 : decode cX6_seen 44 = .ok (.getfield 34, 3) := by decide +kernel
theorem dX6_seen_47 : decode cX6_seen 47 = .ok (.iload 4, 2) := by decide +kernel
theorem dX6_seen_49 : decode cX6_seen 49 = .ok (.iconst 3, 1) := by decide +kernel
theorem dX6_seen_50 : decode cX6_seen 50 = .ok (.iadd, 1) := by decide +kernel
theorem dX6_seen_51 : decode cX6_seen 51 = .ok (.iaload, 1) := by decide +kernel
theorem dX6_seen_52 : decode cX6_seen 52 = .ok (.i2l, 1) := by decide +kernel
theorem dX6_seen_53 : decode cX6_seen 53 = .ok (.ladd, 1) := by decide +kernel
theorem dX6_seen_54 : decode cX6_seen 54 = .ok (.goto 49, 3) := by decide +kernel
theorem dX6_seen_57 : decode cX6_seen 57 = .ok (.iload_n 2, 1) := by decide +kernel
theorem dX6_seen_58 : decode cX6_seen 58 = .ok (.iconst 1, 1) := by decide +kernel
theorem dX6_seen_59 : decode cX6_seen 59 = .ok (.if_icmp .ne 24, 3) := by decide +kernel
theorem dX6_seen_62 : decode cX6_seen 62 = .ok (.aload_n 0, 1) := by decide +kernel
theorem dX6_seen_63 : decode cX6_seen 63 = .ok (.getfield 34, 3) := by decide +kernel
theorem dX6_seen_66 : decode cX6_seen 66 = .ok (.iload 4, 2) := by decide +kernel
theorem dX6_seen_68 : decode cX6_seen 68 = .ok (.iaload, 1) := by decide +kernel
theorem dX6_seen_69 : decode cX6_seen 69 = .ok (.aload_n 0, 1) := by decide +kernel
theorem dX6_seen_70 : decode cX6_seen 70 = .ok (.getfield 34, 3) := by decide +kernel
theorem dX6_seen_73 : decode cX6_seen 73 = .ok (.iload 4, 2) := by decide +kernel
theorem dX6_seen_75 : decode cX6_seen 75 = .ok (.iconst 2, 1) := by decide +kernel
theorem dX6_seen_76 : decode cX6_seen 76 = .ok (.iadd, 1) := by decide +kernel
theorem dX6_seen_77 : decode cX6_seen 77 = .ok (.iaload, 1) := by decide +kernel
theorem dX6_seen_78 : decode cX6_seen 78 = .ok (.isub, 1) := by decide +kernel
theorem dX6_seen_79 : decode cX6_seen 79 = .ok (.i2l, 1) := by decide +kernel
theorem dX6_seen_80 : decode cX6_seen 80 = .ok (.goto 23, 3) := by decide +kernel
theorem dX6_seen_83 : decode cX6_seen 83 = .ok (.aload_n 0, 1) := by decide +kernel
theorem dX6_seen_84 : decode cX6_seen 84 = .ok (.getfield 34, 3) := by decide +kernel
theorem dX6_seen_87 : decode cX6_seen 87 = .ok (.iload 4, 2) := by decide +kernel
theorem dX6_seen_89 : decode cX6_seen 89 = .ok (.iconst 1, 1) := by decide +kernel
theorem dX6_seen_90 : decode cX6_seen 90 = .ok (.iadd, 1) := by decide +kernel
theorem dX6_seen_91 : decode cX6_seen 91 = .ok (.iaload, 1) := by decide +kernel
theorem dX6_seen_92 : decode cX6_seen 92 = .ok (.aload_n 0, 1) := by decide +kernel
theorem dX6_seen_93 : decode cX6_seen 93 = .ok (.getfield 34, 3) := by decide +kernel
theorem dX6_seen_96 : decode cX6_seen 96 = .ok (.iload 4, 2) := by decide +kernel
theorem dX6_seen_98 : decode cX6_seen 98 = .ok (.iconst 3, 1) := by decide +kernel
theorem dX6_seen_99 : decode cX6_seen 99 = .ok (.iadd, 1) := by decide +kernel
theorem dX6_seen_100 : decode cX6_seen 100 = .ok (.iaload, 1) := by decide +kernel
theorem dX6_seen_101 : decode cX6_seen 101 = .ok (.isub, 1) := by decide +kernel
theorem dX6_seen_102 : decode cX6_seen 102 = .ok (.i2l, 1) := by decide +kernel
theorem dX6_seen_103 : decode cX6_seen 103 = .ok (.lreturn, 1) := by decide +kernel
theorem dX6_seen_104 : decode cX6_seen 104 = .ok (.iload_n 2, 1) := by decide +kernel
theorem dX6_seen_105 : decode cX6_seen 105 = .ok (.ifCond .ne 16, 3) := by decide +kernel
theorem dX6_seen_108 : decode cX6_seen 108 = .ok (.aload_n 0, 1) := by decide +kernel
theorem dX6_seen_109 : decode cX6_seen 109 = .ok (.getfield 16, 3) := by decide +kernel
theorem dX6_seen_112 : decode cX6_seen 112 = .ok (.iload_n 3, 1) := by decide +kernel
theorem dX6_seen_113 : decode cX6_seen 113 = .ok (.iaload, 1) := by decide +kernel
theorem dX6_seen_114 : decode cX6_seen 114 = .ok (.invokestatic 90, 3) := by decide +kernel
theorem dX6_seen_117 : decode cX6_seen 117 = .ok (.i2l, 1) := by decide +kernel
theorem dX6_seen_118 : decode cX6_seen 118 = .ok (.goto 31, 3) := by decide +kernel
theorem dX6_seen_121 : decode cX6_seen 121 = .ok (.iload_n 2, 1) := by decide +kernel
theorem dX6_seen_122 : decode cX6_seen 122 = .ok (.iconst 1, 1) := by decide +kernel
theorem dX6_seen_123 : decode cX6_seen 123 = .ok (.if_icmp .ne 16, 3) := by decide +kernel
theorem dX6_seen_126 : decode cX6_seen 126 = .ok (.aload_n 0, 1) := by decide +kernel
theorem dX6_seen_127 : decode cX6_seen 127 = .ok (.getfield 16, 3) := by decide +kernel
theorem dX6_seen_130 : decode cX6_seen 130 = .ok (.iload_n 3, 1) := by decide +kernel
theorem dX6_seen_131 : decode cX6_seen 131 = .ok (.iaload, 1) := by decide +kernel
theorem dX6_seen_132 : decode cX6_seen 132 = .ok (.invokestatic 151, 3) := by decide +kernel
theorem dX6_seen_135 : decode cX6_seen 135 = .ok (.i2l, 1) := by decide +kernel
theorem dX6_seen_136 : decode cX6_seen 136 = .ok (.goto 13, 3) := by decide +kernel
theorem dX6_seen_139 : decode cX6_seen 139 = .ok (.aload_n 0, 1) := by decide +kernel
theorem dX6_seen_140 : decode cX6_seen 140 = .ok (.getfield 16, 3) := by decide +kernel
theorem dX6_seen_143 : decode cX6_seen 143 = .ok (.iload_n 3, 1) := by decide +kernel
theorem dX6_seen_144 : decode cX6_seen 144 = .ok (.iaload, 1) := by decide +kernel
theorem dX6_seen_145 : decode cX6_seen 145 = .ok (.invokestatic 154, 3) := by decide +kernel
theorem dX6_seen_148 : decode cX6_seen 148 = .ok (.i2l, 1) := by decide +kernel
theorem dX6_seen_149 : decode cX6_seen 149 = .ok (.lreturn, 1) := by decide +kernel
theorem dX6_look_0 : decode cX6_look 0 = .ok (.aload_n 0, 1) := by decide +kernel
theorem dX6_look_1 : decode cX6_look 1 = .ok (.lconst 0, 1) := by decide +kernel
theorem dX6_look_2 : decode cX6_look 2 = .ok (.putfield 157, 3) := by decide +kernel
theorem dX6_look_5 : decode cX6_look 5 = .ok (.aload_n 0, 1) := by decide +kernel
theorem dX6_look_6 : decode cX6_look 6 = .ok (.lconst 0, 1) := by decide +kernel
theorem dX6_look_7 : decode cX6_look 7 = .ok (.putfield 160, 3) := by decide +kernel
theorem dX6_look_10 : decode cX6_look 10 = .ok (.aload_n 0, 1) := by decide +kernel
theorem dX6_look_11 : decode cX6_look 11 = .ok (.lconst 0, 1) := by decide +kernel
theorem dX6_look_12 : decode cX6_look 12 = .ok (.putfield 163, 3) := by decide +kernel
theorem dX6_look_15 : decode cX6_look 15 = .ok (.iload_n 3, 1) := by decide +kernel
theorem dX6_look_16 : decode cX6_look 16 = .ok (.istore 7, 2) := by decide +kernel
theorem dX6_look_18 : decode cX6_look 18 = .ok (.iload 7, 2) := by decide +kernel
theorem dX6_look_20 : decode cX6_look 20 = .ok (.iload_n 3, 1) := by decide +kernel
theorem dX6_look_21 : decode cX6_look 21 = .ok (.iload 5, 2) := by decide +kernel
theorem dX6_look_23 : decode cX6_look 23 = .ok (.iadd, 1) := by decide +kernel
theorem dX6_look_24 : decode cX6_look 24 = .ok (.if_icmp .ge 98, 3) := by decide +kernel
theorem dX6_look_27 : decode cX6_look 27 = .ok (.iload 4, 2) := by decide +kernel
theorem dX6_look_29 : decode cX6_look 29 = .ok (.istore 8, 2) := by decide +kernel
theorem dX6_look_31 : decode cX6_look 31 = .ok (.iload 8, 2) := by decide +kernel
theorem dX6_look_33 : decode cX6_look 33 = .ok (.iload 4, 2) := by decide +kernel
theorem dX6_look_35 : decode cX6_look 35 = .ok (.iload 6, 2) := by decide +kernel
theorem dX6_look_37 : decode cX6_look 37 = .ok (.iadd, 1) := by decide +kernel
theorem dX6_look_38 : decode cX6_look 38 = .ok (.if_icmp .ge 78, 3) := by decide +kernel
theorem dX6_look_41 : decode cX6_look 41 = .ok (.bipush 12, 2) := by decide +kernel
theorem dX6_look_43 : decode cX6_look 43 = .ok (.iload 7, 2) := by decide +kernel
theorem dX6_look_45 : decode cX6_look 45 = .ok (.imul, 1) := by decide +kernel
theorem dX6_look_46 : decode cX6_look 46 = .ok (.iload 8, 2) := by decide +kernel
theorem dX6_look_48 : decode cX6_look 48 = .ok (.bipush 12, 2) := by decide +kernel
theorem dX6_look_50 : decode cX6_look 50 = .ok (.irem, 1) := by decide +kernel
theorem dX6_look_51 : decode cX6_look 51 = .ok (.iadd, 1) := by decide +kernel
theorem dX6_look_52 : decode cX6_look 52 = .ok (.istore 9, 2) := by decide +kernel
theorem dX6_look_54 : decode cX6_look 54 = .ok (.aload_n 0, 1) := by decide +kernel
theorem dX6_look_55 : decode cX6_look 55 = .ok (.getfield 7, 3) := by decide +kernel
theorem dX6_look_58 : decode cX6_look 58 = .ok (.iload 9, 2) := by decide +kernel
theorem dX6_look_60 : decode cX6_look 60 = .ok (.iaload, 1) := by decide +kernel
theorem dX6_look_61 : decode cX6_look 61 = .ok (.iconst 1, 1) := by decide +kernel
theorem dX6_look_62 : decode cX6_look 62 = .ok (.if_icmp .eq 48, 3) := by decide +kernel
theorem dX6_look_65 : decode cX6_look 65 = .ok (.aload_n 0, 1) := by decide +kernel
theorem dX6_look_66 : decode cX6_look 66 = .ok (.iload_n 1, 1) := by decide +kernel
theorem dX6_look_67 : decode cX6_look 67 = .ok (.iload_n 2, 1) := by decide +kernel
theorem dX6_look_68 : decode cX6_look 68 = .ok (.iload 9, 2) := by decide +kernel
theorem dX6_look_70 : decode cX6_look 70 = .ok (.invokevirtual 166, 3) := by decide +kernel
theorem dX6_look_73 : decode cX6_look 73 = .ok (.lstore 10, 2) := by decide +kernel
theorem dX6_look_75 : decode cX6_look 75 = .ok (.aload_n 0, 1) := by decide +kernel
theorem dX6_look_76 : decode cX6_look 76 = .ok (.dup, 1) := by decide +kernel
theorem dX6_look_77 : decode cX6_look 77 = .ok (.getfield 157, 3) := by decide +kernel
theorem dX6_look_80 : decode cX6_look 80 = .ok (.lconst 1, 1) := by decide +kernel
theorem dX6_look_81 : decode cX6_look 81 = .ok (.ladd, 1) := by decide +kernel
theorem dX6_look_82 : decode cX6_look 82 = .ok (.putfield 157, 3) := by decide +kernel
theorem dX6_look_85 : decode cX6_look 85 = .ok (.aload_n 0, 1) := by decide +kernel
theorem dX6_look_86 : decode cX6_look 86 = .ok (.dup, 1) := by decide +kernel
theorem dX6_look_87 : decode cX6_look 87 = .ok (.getfield 160, 3) := by decide +kernel
theorem dX6_look_90 : decode cX6_look 90 = .ok (.lload 10, 2) := by decide +kernel
theorem dX6_look_92 : decode cX6_look 92 = .ok (.ladd, 1) := by decide +kernel
theorem dX6_look_93 : decode cX6_look 93 = .ok (.putfield 160, 3) := by decide +kernel
theorem dX6_look_96 : decode cX6_look 96 = .ok (.aload_n 0, 1) := by decide +kernel
theorem dX6_look_97 : decode cX6_look 97 = .ok (.dup, 1) := by decide +kernel
theorem dX6_look_98 : decode cX6_look 98 = .ok (.getfield 163, 3) := by decide +kernel
theorem dX6_look_101 : decode cX6_look 101 = .ok (.lload 10, 2) := by decide +kernel
theorem dX6_look_103 : decode cX6_look 103 = .ok (.lload 10, 2) := by decide +kernel
theorem dX6_look_105 : decode cX6_look 105 = .ok (.lmul, 1) := by decide +kernel
theorem dX6_look_106 : decode cX6_look 106 = .ok (.ladd, 1) := by decide +kernel
theorem dX6_look_107 : decode cX6_look 107 = .ok (.putfield 163, 3) := by decide +kernel
theorem dX6_look_110 : decode cX6_look 110 = .ok (.iinc 8 1, 3) := by decide +kernel
theorem dX6_look_113 : decode cX6_look 113 = .ok (.goto (-82), 3) := by decide +kernel
theorem dX6_look_116 : decode cX6_look 116 = .ok (.iinc 7 1, 3) := by decide +kernel
theorem dX6_look_119 : decode cX6_look 119 = .ok (.goto (-101), 3) := by decide +kernel
theorem dX6_look_122 : decode cX6_look 122 = .ok (.return_, 1) := by decide +kernel
theorem dX6_average_0 : decode cX6_average 0 = .ok (.aload_n 0, 1) := by decide +kernel
theorem dX6_average_1 : decode cX6_average 1 = .ok (.iload_n 2, 1) := by decide +kernel
theorem dX6_average_2 : decode cX6_average 2 = .ok (.iconst 0, 1) := by decide +kernel
theorem dX6_average_3 : decode cX6_average 3 = .ok (.iconst 2, 1) := by decide +kernel
theorem dX6_average_4 : decode cX6_average 4 = .ok (.invokestatic 62, 3) := by decide +kernel
theorem dX6_average_7 : decode cX6_average 7 = .ok (.ifCond .eq 20, 3) := by decide +kernel
theorem dX6_average_10 : decode cX6_average 10 = .ok (.iload_n 3, 1) := by decide +kernel
theorem dX6_average_11 : decode cX6_average 11 = .ok (.iload 4, 2) := by decide +kernel
theorem dX6_average_13 : decode cX6_average 13 = .ok (.iload 5, 2) := by decide +kernel
theorem dX6_average_15 : decode cX6_average 15 = .ok (.iload 6, 2) := by decide +kernel
theorem dX6_average_17 : decode cX6_average 17 = .ok (.invokestatic 170, 3) := by decide +kernel
theorem dX6_average_20 : decode cX6_average 20 = .ok (.ifCond .eq 7, 3) := by decide +kernel
theorem dX6_average_23 : decode cX6_average 23 = .ok (.iconst 0, 1) := by decide +kernel
theorem dX6_average_24 : decode cX6_average 24 = .ok (.goto 4, 3) := by decide +kernel
theorem dX6_average_27 : decode cX6_average 27 = .ok (.iconst 1, 1) := by decide +kernel
theorem dX6_average_28 : decode cX6_average 28 = .ok (.invokevirtual 84, 3) := by decide +kernel
theorem dX6_average_31 : decode cX6_average 31 = .ok (.ifCond .eq 5, 3) := by decide +kernel
theorem dX6_average_34 : decode cX6_average 34 = .ok (.lconst 0, 1) := by decide +kernel
theorem dX6_average_35 : decode cX6_average 35 = .ok (.lreturn, 1) := by decide +kernel
theorem dX6_average_36 : decode cX6_average 36 = .ok (.aload_n 0, 1) := by decide +kernel
theorem dX6_average_37 : decode cX6_average 37 = .ok (.iload_n 1, 1) := by decide +kernel
theorem dX6_average_38 : decode cX6_average 38 = .ok (.iload_n 2, 1) := by decide +kernel
theorem dX6_average_39 : decode cX6_average 39 = .ok (.iload_n 3, 1) := by decide +kernel
theorem dX6_average_40 : decode cX6_average 40 = .ok (.iload 4, 2) := by decide +kernel
theorem dX6_average_42 : decode cX6_average 42 = .ok (.iload 5, 2) := by decide +kernel
theorem dX6_average_44 : decode cX6_average 44 = .ok (.iload 6, 2) := by decide +kernel
theorem dX6_average_46 : decode cX6_average 46 = .ok (.invokevirtual 174, 3) := by decide +kernel
theorem dX6_average_49 : decode cX6_average 49 = .ok (.aload_n 0, 1) := by decide +kernel
theorem dX6_average_50 : decode cX6_average 50 = .ok (.getfield 157, 3) := by decide +kernel
theorem dX6_average_53 : decode cX6_average 53 = .ok (.lconst 0, 1) := by decide +kernel
theorem dX6_average_54 : decode cX6_average 54 = .ok (.lcmp, 1) := by decide +kernel
theorem dX6_average_55 : decode cX6_average 55 = .ok (.ifCond .ne 5, 3) := by decide +kernel
theorem dX6_average_58 : decode cX6_average 58 = .ok (.lconst 0, 1) := by decide +kernel
theorem dX6_average_59 : decode cX6_average 59 = .ok (.lreturn, 1) := by decide +kernel
theorem dX6_average_60 : decode cX6_average 60 = .ok (.ldc2_w 178, 3) := by decide +kernel
theorem dX6_average_63 : decode cX6_average 63 = .ok (.aload_n 0, 1) := by decide +kernel
theorem dX6_average_64 : decode cX6_average 64 = .ok (.getfield 160, 3) := by decide +kernel
theorem dX6_average_67 : decode cX6_average 67 = .ok (.lmul, 1) := by decide +kernel
theorem dX6_average_68 : decode cX6_average 68 = .ok (.lstore 7, 2) := by decide +kernel
theorem dX6_average_70 : decode cX6_average 70 = .ok (.lload 7, 2) := by decide +kernel
theorem dX6_average_72 : decode cX6_average 72 = .ok (.aload_n 0, 1) := by decide +kernel
theorem dX6_average_73 : decode cX6_average 73 = .ok (.getfield 157, 3) := by decide +kernel
theorem dX6_average_76 : decode cX6_average 76 = .ok (.ldiv, 1) := by decide +kernel
theorem dX6_average_77 : decode cX6_average 77 = .ok (.lload 7, 2) := by decide +kernel
theorem dX6_average_79 : decode cX6_average 79 = .ok (.aload_n 0, 1) := by decide +kernel
theorem dX6_average_80 : decode cX6_average 80 = .ok (.getfield 157, 3) := by decide +kernel
theorem dX6_average_83 : decode cX6_average 83 = .ok (.lrem, 1) := by decide +kernel
theorem dX6_average_84 : decode cX6_average 84 = .ok (.lconst 0, 1) := by decide +kernel
theorem dX6_average_85 : decode cX6_average 85 = .ok (.lcmp, 1) := by decide +kernel
theorem dX6_average_86 : decode cX6_average 86 = .ok (.ifCond .ge 7, 3) := by decide +kernel
theorem dX6_average_89 : decode cX6_average 89 = .ok (.lconst 1, 1) := by decide +kernel
theorem dX6_average_90 : decode cX6_average 90 = .ok (.goto 4, 3) := by decide +kernel
theorem dX6_average_93 : decode cX6_average 93 = .ok (.lconst 0, 1) := by decide +kernel
theorem dX6_average_94 : decode cX6_average 94 = .ok (.lsub, 1) := by decide +kernel
theorem dX6_average_95 : decode cX6_average 95 = .ok (.lreturn, 1) := by decide +kernel
theorem dX6_scatter_0 : decode cX6_scatter 0 = .ok (.aload_n 0, 1) := by decide +kernel
theorem dX6_scatter_1 : decode cX6_scatter 1 = .ok (.iload_n 2, 1) := by decide +kernel
theorem dX6_scatter_2 : decode cX6_scatter 2 = .ok (.iconst 0, 1) := by decide +kernel
theorem dX6_scatter_3 : decode cX6_scatter 3 = .ok (.iconst 2, 1) := by decide +kernel
theorem dX6_scatter_4 : decode cX6_scatter 4 = .ok (.invokestatic 62, 3) := by decide +kernel
theorem dX6_scatter_7 : decode cX6_scatter 7 = .ok (.ifCond .eq 20, 3) := by decide +kernel
theorem dX6_scatter_10 : decode cX6_scatter 10 = .ok (.iload_n 3, 1) := by decide +kernel
theorem dX6_scatter_11 : decode cX6_scatter 11 = .ok (.iload 4, 2) := by decide +kernel
theorem dX6_scatter_13 : decode cX6_scatter 13 = .ok (.iload 5, 2) := by decide +kernel
theorem dX6_scatter_15 : decode cX6_scatter 15 = .ok (.iload 6, 2) := by decide +kernel
theorem dX6_scatter_17 : decode cX6_scatter 17 = .ok (.invokestatic 170, 3) := by decide +kernel
theorem dX6_scatter_20 : decode cX6_scatter 20 = .ok (.ifCond .eq 7, 3) := by decide +kernel
theorem dX6_scatter_23 : decode cX6_scatter 23 = .ok (.iconst 0, 1) := by decide +kernel
theorem dX6_scatter_24 : decode cX6_scatter 24 = .ok (.goto 4, 3) := by decide +kernel
theorem dX6_scatter_27 : decode cX6_scatter 27 = .ok (.iconst 1, 1) := by decide +kernel
theorem dX6_scatter_28 : decode cX6_scatter 28 = .ok (.invokevirtual 84, 3) := by decide +kernel
theorem dX6_scatter_31 : decode cX6_scatter 31 = .ok (.ifCond .eq 5, 3) := by decide +kernel
theorem dX6_scatter_34 : decode cX6_scatter 34 = .ok (.lconst 0, 1) := by decide +kernel
theorem dX6_scatter_35 : decode cX6_scatter 35 = .ok (.lreturn, 1) := by decide +kernel
theorem dX6_scatter_36 : decode cX6_scatter 36 = .ok (.aload_n 0, 1) := by decide +kernel
theorem dX6_scatter_37 : decode cX6_scatter 37 = .ok (.iload_n 1, 1) := by decide +kernel
theorem dX6_scatter_38 : decode cX6_scatter 38 = .ok (.iload_n 2, 1) := by decide +kernel
theorem dX6_scatter_39 : decode cX6_scatter 39 = .ok (.iload_n 3, 1) := by decide +kernel
theorem dX6_scatter_40 : decode cX6_scatter 40 = .ok (.iload 4, 2) := by decide +kernel
theorem dX6_scatter_42 : decode cX6_scatter 42 = .ok (.iload 5, 2) := by decide +kernel
theorem dX6_scatter_44 : decode cX6_scatter 44 = .ok (.iload 6, 2) := by decide +kernel
theorem dX6_scatter_46 : decode cX6_scatter 46 = .ok (.invokevirtual 174, 3) := by decide +kernel
theorem dX6_scatter_49 : decode cX6_scatter 49 = .ok (.aload_n 0, 1) := by decide +kernel
theorem dX6_scatter_50 : decode cX6_scatter 50 = .ok (.getfield 157, 3) := by decide +kernel
theorem dX6_scatter_53 : decode cX6_scatter 53 = .ok (.lconst 0, 1) := by decide +kernel
theorem dX6_scatter_54 : decode cX6_scatter 54 = .ok (.lcmp, 1) := by decide +kernel
theorem dX6_scatter_55 : decode cX6_scatter 55 = .ok (.ifCond .ne 7, 3) := by decide +kernel
theorem dX6_scatter_58 : decode cX6_scatter 58 = .ok (.lconst 0, 1) := by decide +kernel
theorem dX6_scatter_59 : decode cX6_scatter 59 = .ok (.goto 36, 3) := by decide +kernel
theorem dX6_scatter_62 : decode cX6_scatter 62 = .ok (.ldc2_w 178, 3) := by decide +kernel
theorem dX6_scatter_65 : decode cX6_scatter 65 = .ok (.aload_n 0, 1) := by decide +kernel
theorem dX6_scatter_66 : decode cX6_scatter 66 = .ok (.getfield 157, 3) := by decide +kernel
theorem dX6_scatter_69 : decode cX6_scatter 69 = .ok (.aload_n 0, 1) := by decide +kernel
theorem dX6_scatter_70 : decode cX6_scatter 70 = .ok (.getfield 163, 3) := by decide +kernel
theorem dX6_scatter_73 : decode cX6_scatter 73 = .ok (.lmul, 1) := by decide +kernel
theorem dX6_scatter_74 : decode cX6_scatter 74 = .ok (.aload_n 0, 1) := by decide +kernel
theorem dX6_scatter_75 : decode cX6_scatter 75 = .ok (.getfield 160, 3) := by decide +kernel
theorem dX6_scatter_78 : decode cX6_scatter 78 = .ok (.aload_n 0, 1) := by decide +kernel
theorem dX6_scatter_79 : decode cX6_scatter 79 = .ok (.getfield 160, 3) := by decide +kernel
theorem dX6_scatter_82 : decode cX6_scatter 82 = .ok (.lmul, 1) := by decide +kernel
theorem dX6_scatter_83 : decode cX6_scatter 83 = .ok (.lsub, 1) := by decide +kernel
theorem dX6_scatter_84 : decode cX6_scatter 84 = .ok (.lmul, 1) := by decide +kernel
theorem dX6_scatter_85 : decode cX6_scatter 85 = .ok (.aload_n 0, 1) := by decide +kernel
theorem dX6_scatter_86 : decode cX6_scatter 86 = .ok (.getfield 157, 3) := by decide +kernel
theorem dX6_scatter_89 : decode cX6_scatter 89 = .ok (.aload_n 0, 1) := by decide +kernel
theorem dX6_scatter_90 : decode cX6_scatter 90 = .ok (.getfield 157, 3) := by decide +kernel
theorem dX6_scatter_93 : decode cX6_scatter 93 = .ok (.lmul, 1) := by decide +kernel
theorem dX6_scatter_94 : decode cX6_scatter 94 = .ok (.ldiv, 1) := by decide +kernel
theorem dX6_scatter_95 : decode cX6_scatter 95 = .ok (.lreturn, 1) := by decide +kernel
theorem dX6_likeness_0 : decode cX6_likeness 0 = .ok (.aload_n 0, 1) := by decide +kernel
theorem dX6_likeness_1 : decode cX6_likeness 1 = .ok (.iload_n 1, 1) := by decide +kernel
theorem dX6_likeness_2 : decode cX6_likeness 2 = .ok (.iload_n 2, 1) := by decide +kernel
theorem dX6_likeness_3 : decode cX6_likeness 3 = .ok (.iload_n 3, 1) := by decide +kernel
theorem dX6_likeness_4 : decode cX6_likeness 4 = .ok (.iload 4, 2) := by decide +kernel
theorem dX6_likeness_6 : decode cX6_likeness 6 = .ok (.invokestatic 170, 3) := by decide +kernel
theorem dX6_likeness_9 : decode cX6_likeness 9 = .ok (.ifCond .eq 7, 3) := by decide +kernel
theorem dX6_likeness_12 : decode cX6_likeness 12 = .ok (.iconst 0, 1) := by decide +kernel
theorem dX6_likeness_13 : decode cX6_likeness 13 = .ok (.goto 4, 3) := by decide +kernel
theorem dX6_likeness_16 : decode cX6_likeness 16 = .ok (.iconst 1, 1) := by decide +kernel
theorem dX6_likeness_17 : decode cX6_likeness 17 = .ok (.invokevirtual 84, 3) := by decide +kernel
theorem dX6_likeness_20 : decode cX6_likeness 20 = .ok (.ifCond .eq 5, 3) := by decide +kernel
theorem dX6_likeness_23 : decode cX6_likeness 23 = .ok (.fconst 0, 1) := by decide +kernel
theorem dX6_likeness_24 : decode cX6_likeness 24 = .ok (.freturn, 1) := by decide +kernel
theorem dX6_likeness_25 : decode cX6_likeness 25 = .ok (.aload_n 0, 1) := by decide +kernel
theorem dX6_likeness_26 : decode cX6_likeness 26 = .ok (.iconst 0, 1) := by decide +kernel
theorem dX6_likeness_27 : decode cX6_likeness 27 = .ok (.iconst 1, 1) := by decide +kernel
theorem dX6_likeness_28 : decode cX6_likeness 28 = .ok (.iload_n 1, 1) := by decide +kernel
theorem dX6_likeness_29 : decode cX6_likeness 29 = .ok (.iload_n 2, 1) := by decide +kernel
theorem dX6_likeness_30 : decode cX6_likeness 30 = .ok (.iload_n 3, 1) := by decide +kernel
theorem dX6_likeness_31 : decode cX6_likeness 31 = .ok (.iload 4, 2) := by decide +kernel
theorem dX6_likeness_33 : decode cX6_likeness 33 = .ok (.invokevirtual 174, 3) := by decide +kernel
theorem dX6_likeness_36 : decode cX6_likeness 36 = .ok (.aload_n 0, 1) := by decide +kernel
theorem dX6_likeness_37 : decode cX6_likeness 37 = .ok (.getfield 160, 3) := by decide +kernel
theorem dX6_likeness_40 : decode cX6_likeness 40 = .ok (.l2f, 1) := by decide +kernel
theorem dX6_likeness_41 : decode cX6_likeness 41 = .ok (.fstore 5, 2) := by decide +kernel
theorem dX6_likeness_43 : decode cX6_likeness 43 = .ok (.aload_n 0, 1) := by decide +kernel
theorem dX6_likeness_44 : decode cX6_likeness 44 = .ok (.iconst 0, 1) := by decide +kernel
theorem dX6_likeness_45 : decode cX6_likeness 45 = .ok (.iconst 0, 1) := by decide +kernel
theorem dX6_likeness_46 : decode cX6_likeness 46 = .ok (.iload_n 1, 1) := by decide +kernel
theorem dX6_likeness_47 : decode cX6_likeness 47 = .ok (.iload_n 2, 1) := by decide +kernel
theorem dX6_likeness_48 : decode cX6_likeness 48 = .ok (.iload_n 3, 1) := by decide +kernel
theorem dX6_likeness_49 : decode cX6_likeness 49 = .ok (.iload 4, 2) := by decide +kernel
theorem dX6_likeness_51 : decode cX6_likeness 51 = .ok (.invokevirtual 174, 3) := by decide +kernel
theorem dX6_likeness_54 : decode cX6_likeness 54 = .ok (.aload_n 0, 1) := by decide +kernel
theorem dX6_likeness_55 : decode cX6_likeness 55 = .ok (.getfield 160, 3) := by decide +kernel
theorem dX6_likeness_58 : decode cX6_likeness 58 = .ok (.lconst 0, 1) := by decide +kernel
theorem dX6_likeness_59 : decode cX6_likeness 59 = .ok (.lcmp, 1) := by decide +kernel
theorem dX6_likeness_60 : decode cX6_likeness 60 = .ok (.ifCond .ne 5, 3) := by decide +kernel
theorem dX6_likeness_63 : decode cX6_likeness 63 = .ok (.fconst 0, 1) := by decide +kernel
theorem dX6_likeness_64 : decode cX6_likeness 64 = .ok (.freturn, 1) := by decide +kernel
theorem dX6_likeness_65 : decode cX6_likeness 65 = .ok (.aload_n 0, 1) := by decide +kernel
theorem dX6_likeness_66 : decode cX6_likeness 66 = .ok (.getfield 160, 3) := by decide +kernel
theorem dX6_likeness_69 : decode cX6_likeness 69 = .ok (.l2f, 1) := by decide +kernel
theorem dX6_likeness_70 : decode cX6_likeness 70 = .ok (.fstore 6, 2) := by decide +kernel
theorem dX6_likeness_72 : decode cX6_likeness 72 = .ok (.fload 5, 2) := by decide +kernel
theorem dX6_likeness_74 : decode cX6_likeness 74 = .ok (.fload 6, 2) := by decide +kernel
theorem dX6_likeness_76 : decode cX6_likeness 76 = .ok (.fdiv, 1) := by decide +kernel
theorem dX6_likeness_77 : decode cX6_likeness 77 = .ok (.fstore 7, 2) := by decide +kernel
theorem dX6_likeness_79 : decode cX6_likeness 79 = .ok (.fload 6, 2) := by decide +kernel
theorem dX6_likeness_81 : decode cX6_likeness 81 = .ok (.aload_n 0, 1) := by decide +kernel
theorem dX6_likeness_82 : decode cX6_likeness 82 = .ok (.getfield 157, 3) := by decide +kernel
theorem dX6_likeness_85 : decode cX6_likeness 85 = .ok (.l2f, 1) := by decide +kernel
theorem dX6_likeness_86 : decode cX6_likeness 86 = .ok (.fdiv, 1) := by decide +kernel
theorem dX6_likeness_87 : decode cX6_likeness 87 = .ok (.fstore 8, 2) := by decide +kernel
theorem dX6_likeness_89 : decode cX6_likeness 89 = .ok (.fload 7, 2) := by decide +kernel
theorem dX6_likeness_91 : decode cX6_likeness 91 = .ok (.iload_n 3, 1) := by decide +kernel
theorem dX6_likeness_92 : decode cX6_likeness 92 = .ok (.i2f, 1) := by decide +kernel
theorem dX6_likeness_93 : decode cX6_likeness 93 = .ok (.fmul, 1) := by decide +kernel
theorem dX6_likeness_94 : decode cX6_likeness 94 = .ok (.fload 8, 2) := by decide +kernel
theorem dX6_likeness_96 : decode cX6_likeness 96 = .ok (.fmul, 1) := by decide +kernel
theorem dX6_likeness_97 : decode cX6_likeness 97 = .ok (.freturn, 1) := by decide +kernel
theorem dX6_copy_0 : decode cX6_copy 0 = .ok (.iconst 0, 1) := by decide +kernel
theorem dX6_copy_1 : decode cX6_copy 1 = .ok (.istore_n 1, 1) := by decide +kernel
theorem dX6_copy_2 : decode cX6_copy 2 = .ok (.iload_n 1, 1) := by decide +kernel
theorem dX6_copy_3 : decode cX6_copy 3 = .ok (.bipush 96, 2) := by decide +kernel
theorem dX6_copy_5 : decode cX6_copy 5 = .ok (.if_icmp .ge 33, 3) := by decide +kernel
theorem dX6_copy_8 : decode cX6_copy 8 = .ok (.aload_n 0, 1) := by decide +kernel
theorem dX6_copy_9 : decode cX6_copy 9 = .ok (.getfield 28, 3) := by decide +kernel
theorem dX6_copy_12 : decode cX6_copy 12 = .ok (.iload_n 1, 1) := by decide +kernel
theorem dX6_copy_13 : decode cX6_copy 13 = .ok (.aload_n 0, 1) := by decide +kernel
theorem dX6_copy_14 : decode cX6_copy 14 = .ok (.getfield 16, 3) := by decide +kernel
theorem dX6_copy_17 : decode cX6_copy 17 = .ok (.iload_n 1, 1) := by decide +kernel
theorem dX6_copy_18 : decode cX6_copy 18 = .ok (.iaload, 1) := by decide +kernel
theorem dX6_copy_19 : decode cX6_copy 19 = .ok (.iastore, 1) := by decide +kernel
theorem dX6_copy_20 : decode cX6_copy 20 = .ok (.aload_n 0, 1) := by decide +kernel
theorem dX6_copy_21 : decode cX6_copy 21 = .ok (.getfield 31, 3) := by decide +kernel
theorem dX6_copy_24 : decode cX6_copy 24 = .ok (.iload_n 1, 1) := by decide +kernel
theorem dX6_copy_25 : decode cX6_copy 25 = .ok (.aload_n 0, 1) := by decide +kernel
theorem dX6_copy_26 : decode cX6_copy 26 = .ok (.getfield 19, 3) := by decide +kernel
theorem dX6_copy_29 : decode cX6_copy 29 = .ok (.iload_n 1, 1) := by decide +kernel
theorem dX6_copy_30 : decode cX6_copy 30 = .ok (.iaload, 1) := by decide +kernel
theorem dX6_copy_31 : decode cX6_copy 31 = .ok (.iastore, 1) := by decide +kernel
theorem dX6_copy_32 : decode cX6_copy 32 = .ok (.iinc 1 1, 3) := by decide +kernel
theorem dX6_copy_35 : decode cX6_copy 35 = .ok (.goto (-33), 3) := by decide +kernel
theorem dX6_copy_38 : decode cX6_copy 38 = .ok (.return_, 1) := by decide +kernel
theorem dX6_ahead_0 : decode cX6_ahead 0 = .ok (.aload_n 0, 1) := by decide +kernel
theorem dX6_ahead_1 : decode cX6_ahead 1 = .ok (.aload_n 0, 1) := by decide +kernel
theorem dX6_ahead_2 : decode cX6_ahead 2 = .ok (.iload_n 1, 1) := by decide +kernel
theorem dX6_ahead_3 : decode cX6_ahead 3 = .ok (.invokevirtual 77, 3) := by decide +kernel
theorem dX6_ahead_6 : decode cX6_ahead 6 = .ok (.ifCond .ne 7, 3) := by decide +kernel
theorem dX6_ahead_9 : decode cX6_ahead 9 = .ok (.iconst 1, 1) := by decide +kernel
theorem dX6_ahead_10 : decode cX6_ahead 10 = .ok (.goto 17, 3) := by decide +kernel
theorem dX6_ahead_13 : decode cX6_ahead 13 = .ok (.iload_n 2, 1) := by decide +kernel
theorem dX6_ahead_14 : decode cX6_ahead 14 = .ok (.iconst 0, 1) := by decide +kernel
theorem dX6_ahead_15 : decode cX6_ahead 15 = .ok (.iconst 5, 1) := by decide +kernel
theorem dX6_ahead_16 : decode cX6_ahead 16 = .ok (.invokestatic 62, 3) := by decide +kernel
theorem dX6_ahead_19 : decode cX6_ahead 19 = .ok (.ifCond .ne 7, 3) := by decide +kernel
theorem dX6_ahead_22 : decode cX6_ahead 22 = .ok (.iconst 2, 1) := by decide +kernel
theorem dX6_ahead_23 : decode cX6_ahead 23 = .ok (.goto 4, 3) := by decide +kernel
theorem dX6_ahead_26 : decode cX6_ahead 26 = .ok (.iconst 0, 1) := by decide +kernel
theorem dX6_ahead_27 : decode cX6_ahead 27 = .ok (.invokevirtual 84, 3) := by decide +kernel
theorem dX6_ahead_30 : decode cX6_ahead 30 = .ok (.ifCond .eq 5, 3) := by decide +kernel
theorem dX6_ahead_33 : decode cX6_ahead 33 = .ok (.iconst 0, 1) := by decide +kernel
theorem dX6_ahead_34 : decode cX6_ahead 34 = .ok (.ireturn, 1) := by decide +kernel
theorem dX6_ahead_35 : decode cX6_ahead 35 = .ok (.aload_n 0, 1) := by decide +kernel
theorem dX6_ahead_36 : decode cX6_ahead 36 = .ok (.invokevirtual 180, 3) := by decide +kernel
theorem dX6_ahead_39 : decode cX6_ahead 39 = .ok (.iconst 0, 1) := by decide +kernel
theorem dX6_ahead_40 : decode cX6_ahead 40 = .ok (.istore_n 3, 1) := by decide +kernel
theorem dX6_ahead_41 : decode cX6_ahead 41 = .ok (.iload_n 3, 1) := by decide +kernel
theorem dX6_ahead_42 : decode cX6_ahead 42 = .ok (.iload_n 2, 1) := by decide +kernel
theorem dX6_ahead_43 : decode cX6_ahead 43 = .ok (.if_icmp .ge 21, 3) := by decide +kernel
theorem dX6_ahead_46 : decode cX6_ahead 46 = .ok (.aload_n 0, 1) := by decide +kernel
theorem dX6_ahead_47 : decode cX6_ahead 47 = .ok (.aload_n 0, 1) := by decide +kernel
theorem dX6_ahead_48 : decode cX6_ahead 48 = .ok (.getfield 28, 3) := by decide +kernel
theorem dX6_ahead_51 : decode cX6_ahead 51 = .ok (.aload_n 0, 1) := by decide +kernel
theorem dX6_ahead_52 : decode cX6_ahead 52 = .ok (.getfield 31, 3) := by decide +kernel
theorem dX6_ahead_55 : decode cX6_ahead 55 = .ok (.invokevirtual 130, 3) := by decide +kernel
theorem dX6_ahead_58 : decode cX6_ahead 58 = .ok (.iinc 3 1, 3) := by decide +kernel
theorem dX6_ahead_61 : decode cX6_ahead 61 = .ok (.goto (-20), 3) := by decide +kernel
theorem dX6_ahead_64 : decode cX6_ahead 64 = .ok (.aload_n 0, 1) := by decide +kernel
theorem dX6_ahead_65 : decode cX6_ahead 65 = .ok (.getfield 28, 3) := by decide +kernel
theorem dX6_ahead_68 : decode cX6_ahead 68 = .ok (.iload_n 1, 1) := by decide +kernel
theorem dX6_ahead_69 : decode cX6_ahead 69 = .ok (.iaload, 1) := by decide +kernel
theorem dX6_ahead_70 : decode cX6_ahead 70 = .ok (.ireturn, 1) := by decide +kernel
theorem dX6_aheadAnew_0 : decode cX6_aheadAnew 0 = .ok (.aload_n 0, 1) := by decide +kernel
theorem dX6_aheadAnew_1 : decode cX6_aheadAnew 1 = .ok (.iload_n 1, 1) := by decide +kernel
theorem dX6_aheadAnew_2 : decode cX6_aheadAnew 2 = .ok (.iload_n 2, 1) := by decide +kernel
theorem dX6_aheadAnew_3 : decode cX6_aheadAnew 3 = .ok (.invokevirtual 183, 3) := by decide +kernel
theorem dX6_aheadAnew_6 : decode cX6_aheadAnew 6 = .ok (.ireturn, 1) := by decide +kernel
theorem dX6_shade_0 : decode cX6_shade 0 = .ok (.aload_n 0, 1) := by decide +kernel
theorem dX6_shade_1 : decode cX6_shade 1 = .ok (.getfield 16, 3) := by decide +kernel
theorem dX6_shade_4 : decode cX6_shade 4 = .ok (.iload_n 1, 1) := by decide +kernel
theorem dX6_shade_5 : decode cX6_shade 5 = .ok (.iaload, 1) := by decide +kernel
theorem dX6_shade_6 : decode cX6_shade 6 = .ok (.ifCond .ne 7, 3) := by decide +kernel
theorem dX6_shade_9 : decode cX6_shade 9 = .ok (.iconst 0, 1) := by decide +kernel
theorem dX6_shade_10 : decode cX6_shade 10 = .ok (.goto 36, 3) := by decide +kernel
theorem dX6_shade_13 : decode cX6_shade 13 = .ok (.aload_n 0, 1) := by decide +kernel
theorem dX6_shade_14 : decode cX6_shade 14 = .ok (.getfield 19, 3) := by decide +kernel
theorem dX6_shade_17 : decode cX6_shade 17 = .ok (.iload_n 1, 1) := by decide +kernel
theorem dX6_shade_18 : decode cX6_shade 18 = .ok (.iaload, 1) := by decide +kernel
theorem dX6_shade_19 : decode cX6_shade 19 = .ok (.aload_n 0, 1) := by decide +kernel
theorem dX6_shade_20 : decode cX6_shade 20 = .ok (.getfield 16, 3) := by decide +kernel
theorem dX6_shade_23 : decode cX6_shade 23 = .ok (.iload_n 1, 1) := by decide +kernel
theorem dX6_shade_24 : decode cX6_shade 24 = .ok (.iaload, 1) := by decide +kernel
theorem dX6_shade_25 : decode cX6_shade 25 = .ok (.if_icmp .ne 7, 3) := by decide +kernel
theorem dX6_shade_28 : decode cX6_shade 28 = .ok (.iconst 1, 1) := by decide +kernel
theorem dX6_shade_29 : decode cX6_shade 29 = .ok (.goto 17, 3) := by decide +kernel
theorem dX6_shade_32 : decode cX6_shade 32 = .ok (.aload_n 0, 1) := by decide +kernel
theorem dX6_shade_33 : decode cX6_shade 33 = .ok (.getfield 19, 3) := by decide +kernel
theorem dX6_shade_36 : decode cX6_shade 36 = .ok (.iload_n 1, 1) := by decide +kernel
theorem dX6_shade_37 : decode cX6_shade 37 = .ok (.iaload, 1) := by decide +kernel
theorem dX6_shade_38 : decode cX6_shade 38 = .ok (.ifCond .ne 7, 3) := by decide +kernel
theorem dX6_shade_41 : decode cX6_shade 41 = .ok (.iconst (-1), 1) := by decide +kernel
theorem dX6_shade_42 : decode cX6_shade 42 = .ok (.goto 4, 3) := by decide +kernel
theorem dX6_shade_45 : decode cX6_shade 45 = .ok (.iconst 0, 1) := by decide +kernel
theorem dX6_shade_46 : decode cX6_shade 46 = .ok (.ireturn, 1) := by decide +kernel
theorem dX6_pairs_0 : decode cX6_pairs 0 = .ok (.lconst 0, 1) := by decide +kernel
theorem dX6_pairs_1 : decode cX6_pairs 1 = .ok (.lstore_n 1, 1) := by decide +kernel
theorem dX6_pairs_2 : decode cX6_pairs 2 = .ok (.iconst 0, 1) := by decide +kernel
theorem dX6_pairs_3 : decode cX6_pairs 3 = .ok (.istore_n 3, 1) := by decide +kernel
theorem dX6_pairs_4 : decode cX6_pairs 4 = .ok (.iload_n 3, 1) := by decide +kernel
theorem dX6_pairs_5 : decode cX6_pairs 5 = .ok (.bipush 96, 2) := by decide +kernel
theorem dX6_pairs_7 : decode cX6_pairs 7 = .ok (.if_icmp .ge 71, 3) := by decide +kernel
theorem dX6_pairs_10 : decode cX6_pairs 10 = .ok (.iload_n 3, 1) := by decide +kernel
theorem dX6_pairs_11 : decode cX6_pairs 11 = .ok (.iconst 3, 1) := by decide +kernel
theorem dX6_pairs_12 : decode cX6_pairs 12 = .ok (.invokestatic 109, 3) := by decide +kernel
theorem dX6_pairs_15 : decode cX6_pairs 15 = .ok (.istore 4, 2) := by decide +kernel
theorem dX6_pairs_17 : decode cX6_pairs 17 = .ok (.lload_n 1, 1) := by decide +kernel
theorem dX6_pairs_18 : decode cX6_pairs 18 = .ok (.aload_n 0, 1) := by decide +kernel
theorem dX6_pairs_19 : decode cX6_pairs 19 = .ok (.iload_n 3, 1) := by decide +kernel
theorem dX6_pairs_20 : decode cX6_pairs 20 = .ok (.invokevirtual 186, 3) := by decide +kernel
theorem dX6_pairs_23 : decode cX6_pairs 23 = .ok (.aload_n 0, 1) := by decide +kernel
theorem dX6_pairs_24 : decode cX6_pairs 24 = .ok (.iload_n 3, 1) := by decide +kernel
theorem dX6_pairs_25 : decode cX6_pairs 25 = .ok (.iconst 0, 1) := by decide +kernel
theorem dX6_pairs_26 : decode cX6_pairs 26 = .ok (.invokestatic 109, 3) := by decide +kernel
theorem dX6_pairs_29 : decode cX6_pairs 29 = .ok (.invokevirtual 186, 3) := by decide +kernel
theorem dX6_pairs_32 : decode cX6_pairs 32 = .ok (.imul, 1) := by decide +kernel
theorem dX6_pairs_33 : decode cX6_pairs 33 = .ok (.ifCond .ge 7, 3) := by decide +kernel
theorem dX6_pairs_36 : decode cX6_pairs 36 = .ok (.lconst 1, 1) := by decide +kernel
theorem dX6_pairs_37 : decode cX6_pairs 37 = .ok (.goto 4, 3) := by decide +kernel
theorem dX6_pairs_40 : decode cX6_pairs 40 = .ok (.lconst 0, 1) := by decide +kernel
theorem dX6_pairs_41 : decode cX6_pairs 41 = .ok (.ladd, 1) := by decide +kernel
theorem dX6_pairs_42 : decode cX6_pairs 42 = .ok (.lstore_n 1, 1) := by decide +kernel
theorem dX6_pairs_43 : decode cX6_pairs 43 = .ok (.lload_n 1, 1) := by decide +kernel
theorem dX6_pairs_44 : decode cX6_pairs 44 = .ok (.iload 4, 2) := by decide +kernel
theorem dX6_pairs_46 : decode cX6_pairs 46 = .ok (.iconst (-1), 1) := by decide +kernel
theorem dX6_pairs_47 : decode cX6_pairs 47 = .ok (.if_icmp .eq 22, 3) := by decide +kernel
theorem dX6_pairs_50 : decode cX6_pairs 50 = .ok (.aload_n 0, 1) := by decide +kernel
theorem dX6_pairs_51 : decode cX6_pairs 51 = .ok (.iload_n 3, 1) := by decide +kernel
theorem dX6_pairs_52 : decode cX6_pairs 52 = .ok (.invokevirtual 186, 3) := by decide +kernel
theorem dX6_pairs_55 : decode cX6_pairs 55 = .ok (.aload_n 0, 1) := by decide +kernel
theorem dX6_pairs_56 : decode cX6_pairs 56 = .ok (.iload 4, 2) := by decide +kernel
theorem dX6_pairs_58 : decode cX6_pairs 58 = .ok (.invokevirtual 186, 3) := by decide +kernel
theorem dX6_pairs_61 : decode cX6_pairs 61 = .ok (.imul, 1) := by decide +kernel
theorem dX6_pairs_62 : decode cX6_pairs 62 = .ok (.ifCond .ge 7, 3) := by decide +kernel
theorem dX6_pairs_65 : decode cX6_pairs 65 = .ok (.lconst 1, 1) := by decide +kernel
theorem dX6_pairs_66 : decode cX6_pairs 66 = .ok (.goto 4, 3) := by decide +kernel
theorem dX6_pairs_69 : decode cX6_pairs 69 = .ok (.lconst 0, 1) := by decide +kernel
theorem dX6_pairs_70 : decode cX6_pairs 70 = .ok (.ladd, 1) := by decide +kernel
theorem dX6_pairs_71 : decode cX6_pairs 71 = .ok (.lstore_n 1, 1) := by decide +kernel
theorem dX6_pairs_72 : decode cX6_pairs 72 = .ok (.iinc 3 1, 3) := by decide +kernel
theorem dX6_pairs_75 : decode cX6_pairs 75 = .ok (.goto (-71), 3) := by decide +kernel
theorem dX6_pairs_78 : decode cX6_pairs 78 = .ok (.lload_n 1, 1) := by decide +kernel
theorem dX6_pairs_79 : decode cX6_pairs 79 = .ok (.lreturn, 1) := by decide +kernel
theorem dX6_blocksOff_0 : decode cX6_blocksOff 0 = .ok (.lconst 0, 1) := by decide +kernel
theorem dX6_blocksOff_1 : decode cX6_blocksOff 1 = .ok (.lstore_n 1, 1) := by decide +kernel
theorem dX6_blocksOff_2 : decode cX6_blocksOff 2 = .ok (.lconst 0, 1) := by decide +kernel
theorem dX6_blocksOff_3 : decode cX6_blocksOff 3 = .ok (.lstore_n 3, 1) := by decide +kernel
theorem dX6_blocksOff_4 : decode cX6_blocksOff 4 = .ok (.lconst 0, 1) := by decide +kernel
theorem dX6_blocksOff_5 : decode cX6_blocksOff 5 = .ok (.lstore 5, 2) := by decide +kernel
theorem dX6_blocksOff_7 : decode cX6_blocksOff 7 = .ok (.iconst 0, 1) := by decide +kernel
theorem dX6_blocksOff_8 : decode cX6_blocksOff 8 = .ok (.istore 7, 2) := by decide +kernel
theorem dX6_blocksOff_10 : decode cX6_blocksOff 10 = .ok (.iload 7, 2) := by decide +kernel
theorem dX6_blocksOff_12 : decode cX6_blocksOff 12 = .ok (.bipush 96, 2) := by decide +kernel
theorem dX6_blocksOff_14 : decode cX6_blocksOff 14 = .ok (.if_icmp .ge 39, 3) := by decide +kernel
theorem dX6_blocksOff_17 : decode cX6_blocksOff 17 = .ok (.lload_n 3, 1) := by decide +kernel
theorem dX6_blocksOff_18 : decode cX6_blocksOff 18 = .ok (.aload_n 0, 1) := by decide +kernel
theorem dX6_blocksOff_19 : decode cX6_blocksOff 19 = .ok (.getfield 16, 3) := by decide +kernel
theorem dX6_blocksOff_22 : decode cX6_blocksOff 22 = .ok (.iload 7, 2) := by decide +kernel
theorem dX6_blocksOff_24 : decode cX6_blocksOff 24 = .ok (.iaload, 1) := by decide +kernel
theorem dX6_blocksOff_25 : decode cX6_blocksOff 25 = .ok (.invokestatic 90, 3) := by decide +kernel
theorem dX6_blocksOff_28 : decode cX6_blocksOff 28 = .ok (.i2l, 1) := by decide +kernel
theorem dX6_blocksOff_29 : decode cX6_blocksOff 29 = .ok (.ladd, 1) := by decide +kernel
theorem dX6_blocksOff_30 : decode cX6_blocksOff 30 = .ok (.lstore_n 3, 1) := by decide +kernel
theorem dX6_blocksOff_31 : decode cX6_blocksOff 31 = .ok (.lload 5, 2) := by decide +kernel
theorem dX6_blocksOff_33 : decode cX6_blocksOff 33 = .ok (.aload_n 0, 1) := by decide +kernel
theorem dX6_blocksOff_34 : decode cX6_blocksOff 34 = .ok (.getfield 19, 3) := by decide +kernel
theorem dX6_blocksOff_37 : decode cX6_blocksOff 37 = .ok (.iload 7, 2) := by decide +kernel
theorem dX6_blocksOff_39 : decode cX6_blocksOff 39 = .ok (.iaload, 1) := by decide +kernel
theorem dX6_blocksOff_40 : decode cX6_blocksOff 40 = .ok (.invokestatic 90, 3) := by decide +kernel
theorem dX6_blocksOff_43 : decode cX6_blocksOff 43 = .ok (.i2l, 1) := by decide +kernel
theorem dX6_blocksOff_44 : decode cX6_blocksOff 44 = .ok (.ladd, 1) := by decide +kernel
theorem dX6_blocksOff_45 : decode cX6_blocksOff 45 = .ok (.lstore 5, 2) := by decide +kernel
theorem dX6_blocksOff_47 : decode cX6_blocksOff 47 = .ok (.iinc 7 1, 3) := by decide +kernel
theorem dX6_blocksOff_50 : decode cX6_blocksOff 50 = .ok (.goto (-40), 3) := by decide +kernel
theorem dX6_blocksOff_53 : decode cX6_blocksOff 53 = .ok (.iconst 0, 1) := by decide +kernel
theorem dX6_blocksOff_54 : decode cX6_blocksOff 54 = .ok (.istore 7, 2) := by decide +kernel
theorem dX6_blocksOff_56 : decode cX6_blocksOff 56 = .ok (.iload 7, 2) := by decide +kernel
theorem dX6_blocksOff_58 : decode cX6_blocksOff 58 = .ok (.bipush 96, 2) := by decide +kernel
theorem dX6_blocksOff_60 : decode cX6_blocksOff 60 = .ok (.if_icmp .ge 164, 3) := by decide +kernel
theorem dX6_blocksOff_63 : decode cX6_blocksOff 63 = .ok (.iload 7, 2) := by decide +kernel
theorem dX6_blocksOff_65 : decode cX6_blocksOff 65 = .ok (.bipush 12, 2) := by decide +kernel
theorem dX6_blocksOff_67 : decode cX6_blocksOff 67 = .ok (.idiv, 1) := by decide +kernel
theorem dX6_blocksOff_68 : decode cX6_blocksOff 68 = .ok (.iconst 2, 1) := by decide +kernel
theorem dX6_blocksOff_69 : decode cX6_blocksOff 69 = .ok (.irem, 1) := by decide +kernel
theorem dX6_blocksOff_70 : decode cX6_blocksOff 70 = .ok (.ifCond .ne 148, 3) := by decide +kernel
theorem dX6_blocksOff_73 : decode cX6_blocksOff 73 = .ok (.iload 7, 2) := by decide +kernel
theorem dX6_blocksOff_75 : decode cX6_blocksOff 75 = .ok (.iconst 2, 1) := by decide +kernel
theorem dX6_blocksOff_76 : decode cX6_blocksOff 76 = .ok (.irem, 1) := by decide +kernel
theorem dX6_blocksOff_77 : decode cX6_blocksOff 77 = .ok (.ifCond .ne 141, 3) := by decide +kernel
theorem dX6_blocksOff_80 : decode cX6_blocksOff 80 = .ok (.aload_n 0, 1) := by decide +kernel
theorem dX6_blocksOff_81 : decode cX6_blocksOff 81 = .ok (.getfield 16, 3) := by decide +kernel
theorem dX6_blocksOff_84 : decode cX6_blocksOff 84 = .ok (.iload 7, 2) := by decide +kernel
theorem dX6_blocksOff_86 : decode cX6_blocksOff 86 = .ok (.iaload, 1) := by decide +kernel
theorem dX6_blocksOff_87 : decode cX6_blocksOff 87 = .ok (.invokestatic 90, 3) := by decide +kernel
theorem dX6_blocksOff_90 : decode cX6_blocksOff 90 = .ok (.aload_n 0, 1) := by decide +kernel
theorem dX6_blocksOff_91 : decode cX6_blocksOff 91 = .ok (.getfield 16, 3) := by decide +kernel
theorem dX6_blocksOff_94 : decode cX6_blocksOff 94 = .ok (.iload 7, 2) := by decide +kernel
theorem dX6_blocksOff_96 : decode cX6_blocksOff 96 = .ok (.iconst 1, 1) := by decide +kernel
theorem dX6_blocksOff_97 : decode cX6_blocksOff 97 = .ok (.iadd, 1) := by decide +kernel
theorem dX6_blocksOff_98 : decode cX6_blocksOff 98 = .ok (.iaload, 1) := by decide +kernel
theorem dX6_blocksOff_99 : decode cX6_blocksOff 99 = .ok (.invokestatic 90, 3) := by decide +kernel
theorem dX6_blocksOff_102 : decode cX6_blocksOff 102 = .ok (.iadd, 1) := by decide +kernel
theorem dX6_blocksOff_103 : decode cX6_blocksOff 103 = .ok (.aload_n 0, 1) := by decide +kernel
theorem dX6_blocksOff_104 : decode cX6_blocksOff 104 = .ok (.getfield 16, 3) := by decide +kernel
theorem dX6_blocksOff_107 : decode cX6_blocksOff 107 = .ok (.iload 7, 2) := by decide +kernel
theorem dX6_blocksOff_109 : decode cX6_blocksOff 109 = .ok (.bipush 12, 2) := by decide +kernel
theorem dX6_blocksOff_111 : decode cX6_blocksOff 111 = .ok (.iadd, 1) := by decide +kernel
theorem dX6_blocksOff_112 : decode cX6_blocksOff 112 = .ok (.iaload, 1) := by decide +kernel
theorem dX6_blocksOff_113 : decode cX6_blocksOff 113 = .ok (.invokestatic 90, 3) := by decide +kernel
theorem dX6_blocksOff_116 : decode cX6_blocksOff 116 = .ok (.iadd, 1) := by decide +kernel
theorem dX6_blocksOff_117 : decode cX6_blocksOff 117 = .ok (.aload_n 0, 1) := by decide +kernel
theorem dX6_blocksOff_118 : decode cX6_blocksOff 118 = .ok (.getfield 16, 3) := by decide +kernel
theorem dX6_blocksOff_121 : decode cX6_blocksOff 121 = .ok (.iload 7, 2) := by decide +kernel
theorem dX6_blocksOff_123 : decode cX6_blocksOff 123 = .ok (.bipush 13, 2) := by decide +kernel
theorem dX6_blocksOff_125 : decode cX6_blocksOff 125 = .ok (.iadd, 1) := by decide +kernel
theorem dX6_blocksOff_126 : decode cX6_blocksOff 126 = .ok (.iaload, 1) := by decide +kernel
theorem dX6_blocksOff_127 : decode cX6_blocksOff 127 = .ok (.invokestatic 90, 3) := by decide +kernel
theorem dX6_blocksOff_130 : decode cX6_blocksOff 130 = .ok (.iadd, 1) := by decide +kernel
theorem dX6_blocksOff_131 : decode cX6_blocksOff 131 = .ok (.i2l, 1) := by decide +kernel
theorem dX6_blocksOff_132 : decode cX6_blocksOff 132 = .ok (.lstore 8, 2) := by decide +kernel
theorem dX6_blocksOff_134 : decode cX6_blocksOff 134 = .ok (.aload_n 0, 1) := by decide +kernel
theorem dX6_blocksOff_135 : decode cX6_blocksOff 135 = .ok (.getfield 19, 3) := by decide +kernel
theorem dX6_blocksOff_138 : decode cX6_blocksOff 138 = .ok (.iload 7, 2) := by decide +kernel
theorem dX6_blocksOff_140 : decode cX6_blocksOff 140 = .ok (.iaload, 1) := by decide +kernel
theorem dX6_blocksOff_141 : decode cX6_blocksOff 141 = .ok (.invokestatic 90, 3) := by decide +kernel
theorem dX6_blocksOff_144 : decode cX6_blocksOff 144 = .ok (.aload_n 0, 1) := by decide +kernel
theorem dX6_blocksOff_145 : decode cX6_blocksOff 145 = .ok (.getfield 19, 3) := by decide +kernel
theorem dX6_blocksOff_148 : decode cX6_blocksOff 148 = .ok (.iload 7, 2) := by decide +kernel
theorem dX6_blocksOff_150 : decode cX6_blocksOff 150 = .ok (.iconst 1, 1) := by decide +kernel
theorem dX6_blocksOff_151 : decode cX6_blocksOff 151 = .ok (.iadd, 1) := by decide +kernel
theorem dX6_blocksOff_152 : decode cX6_blocksOff 152 = .ok (.iaload, 1) := by decide +kernel
theorem dX6_blocksOff_153 : decode cX6_blocksOff 153 = .ok (.invokestatic 90, 3) := by decide +kernel
theorem dX6_blocksOff_156 : decode cX6_blocksOff 156 = .ok (.iadd, 1) := by decide +kernel
theorem dX6_blocksOff_157 : decode cX6_blocksOff 157 = .ok (.aload_n 0, 1) := by decide +kernel
theorem dX6_blocksOff_158 : decode cX6_blocksOff 158 = .ok (.getfield 19, 3) := by decide +kernel
theorem dX6_blocksOff_161 : decode cX6_blocksOff 161 = .ok (.iload 7, 2) := by decide +kernel
theorem dX6_blocksOff_163 : decode cX6_blocksOff 163 = .ok (.bipush 12, 2) := by decide +kernel
theorem dX6_blocksOff_165 : decode cX6_blocksOff 165 = .ok (.iadd, 1) := by decide +kernel
theorem dX6_blocksOff_166 : decode cX6_blocksOff 166 = .ok (.iaload, 1) := by decide +kernel
theorem dX6_blocksOff_167 : decode cX6_blocksOff 167 = .ok (.invokestatic 90, 3) := by decide +kernel
theorem dX6_blocksOff_170 : decode cX6_blocksOff 170 = .ok (.iadd, 1) := by decide +kernel
theorem dX6_blocksOff_171 : decode cX6_blocksOff 171 = .ok (.aload_n 0, 1) := by decide +kernel
theorem dX6_blocksOff_172 : decode cX6_blocksOff 172 = .ok (.getfield 19, 3) := by decide +kernel
theorem dX6_blocksOff_175 : decode cX6_blocksOff 175 = .ok (.iload 7, 2) := by decide +kernel
theorem dX6_blocksOff_177 : decode cX6_blocksOff 177 = .ok (.bipush 13, 2) := by decide +kernel
theorem dX6_blocksOff_179 : decode cX6_blocksOff 179 = .ok (.iadd, 1) := by decide +kernel
theorem dX6_blocksOff_180 : decode cX6_blocksOff 180 = .ok (.iaload, 1) := by decide +kernel
theorem dX6_blocksOff_181 : decode cX6_blocksOff 181 = .ok (.invokestatic 90, 3) := by decide +kernel
theorem dX6_blocksOff_184 : decode cX6_blocksOff 184 = .ok (.iadd, 1) := by decide +kernel
theorem dX6_blocksOff_185 : decode cX6_blocksOff 185 = .ok (.i2l, 1) := by decide +kernel
theorem dX6_blocksOff_186 : decode cX6_blocksOff 186 = .ok (.lstore 10, 2) := by decide +kernel
theorem dX6_blocksOff_188 : decode cX6_blocksOff 188 = .ok (.lload 10, 2) := by decide +kernel
theorem dX6_blocksOff_190 : decode cX6_blocksOff 190 = .ok (.lload_n 3, 1) := by decide +kernel
theorem dX6_blocksOff_191 : decode cX6_blocksOff 191 = .ok (.lmul, 1) := by decide +kernel
theorem dX6_blocksOff_192 : decode cX6_blocksOff 192 = .ok (.lload 5, 2) := by decide +kernel
theorem dX6_blocksOff_194 : decode cX6_blocksOff 194 = .ok (.lload 8, 2) := by decide +kernel
theorem dX6_blocksOff_196 : decode cX6_blocksOff 196 = .ok (.lmul, 1) := by decide +kernel
theorem dX6_blocksOff_197 : decode cX6_blocksOff 197 = .ok (.lsub, 1) := by decide +kernel
theorem dX6_blocksOff_198 : decode cX6_blocksOff 198 = .ok (.lstore 12, 2) := by decide +kernel
theorem dX6_blocksOff_200 : decode cX6_blocksOff 200 = .ok (.lload_n 1, 1) := by decide +kernel
theorem dX6_blocksOff_201 : decode cX6_blocksOff 201 = .ok (.lload 12, 2) := by decide +kernel
theorem dX6_blocksOff_203 : decode cX6_blocksOff 203 = .ok (.lconst 0, 1) := by decide +kernel
theorem dX6_blocksOff_204 : decode cX6_blocksOff 204 = .ok (.lcmp, 1) := by decide +kernel
theorem dX6_blocksOff_205 : decode cX6_blocksOff 205 = .ok (.ifCond .ge 9, 3) := by decide +kernel
theorem dX6_blocksOff_208 : decode cX6_blocksOff 208 = .ok (.lload 12, 2) := by decide +kernel
theorem dX6_blocksOff_210 : decode cX6_blocksOff 210 = .ok (.lneg, 1) := by decide +kernel
theorem dX6_blocksOff_211 : decode cX6_blocksOff 211 = .ok (.goto 5, 3) := by decide +kernel
theorem dX6_blocksOff_214 : decode cX6_blocksOff 214 = .ok (.lload 12, 2) := by decide +kernel
theorem dX6_blocksOff_216 : decode cX6_blocksOff 216 = .ok (.ladd, 1) := by decide +kernel
theorem dX6_blocksOff_217 : decode cX6_blocksOff 217 = .ok (.lstore_n 1, 1) := by decide +kernel
theorem dX6_blocksOff_218 : decode cX6_blocksOff 218 = .ok (.iinc 7 1, 3) := by decide +kernel
theorem dX6_blocksOff_221 : decode cX6_blocksOff 221 = .ok (.goto (-165), 3) := by decide +kernel
theorem dX6_blocksOff_224 : decode cX6_blocksOff 224 = .ok (.lload_n 1, 1) := by decide +kernel
theorem dX6_blocksOff_225 : decode cX6_blocksOff 225 = .ok (.lreturn, 1) := by decide +kernel
