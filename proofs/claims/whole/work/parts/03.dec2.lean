theorem dX11_init_0 : decode cX11_init 0 = .ok (.aload_n 0, 1) := by decide +kernel
theorem dX11_init_1 : decode cX11_init 1 = .ok (.invokespecial 1, 3) := by decide +kernel
theorem dX11_init_4 : decode cX11_init 4 = .ok (.aload_n 0, 1) := by decide +kernel
theorem dX11_init_5 : decode cX11_init 5 = .ok (.bipush 16, 2) := by decide +kernel
theorem dX11_init_7 : decode cX11_init 7 = .ok (.newarray .int, 2) := by decide +kernel
theorem dX11_init_9 : decode cX11_init 9 = .ok (.putfield 7, 3) := by decide +kernel
theorem dX11_init_12 : decode cX11_init 12 = .ok (.aload_n 0, 1) := by decide +kernel
theorem dX11_init_13 : decode cX11_init 13 = .ok (.bipush 16, 2) := by decide +kernel
theorem dX11_init_15 : decode cX11_init 15 = .ok (.newarray .int, 2) := by decide +kernel
theorem dX11_init_17 : decode cX11_init 17 = .ok (.putfield 13, 3) := by decide +kernel
theorem dX11_init_20 : decode cX11_init 20 = .ok (.aload_n 0, 1) := by decide +kernel
theorem dX11_init_21 : decode cX11_init 21 = .ok (.bipush 16, 2) := by decide +kernel
theorem dX11_init_23 : decode cX11_init 23 = .ok (.newarray .int, 2) := by decide +kernel
theorem dX11_init_25 : decode cX11_init 25 = .ok (.putfield 16, 3) := by decide +kernel
theorem dX11_init_28 : decode cX11_init 28 = .ok (.aload_n 0, 1) := by decide +kernel
theorem dX11_init_29 : decode cX11_init 29 = .ok (.bipush 16, 2) := by decide +kernel
theorem dX11_init_31 : decode cX11_init 31 = .ok (.newarray .int, 2) := by decide +kernel
theorem dX11_init_33 : decode cX11_init 33 = .ok (.putfield 19, 3) := by decide +kernel
theorem dX11_init_36 : decode cX11_init 36 = .ok (.aload_n 0, 1) := by decide +kernel
theorem dX11_init_37 : decode cX11_init 37 = .ok (.bipush 16, 2) := by decide +kernel
theorem dX11_init_39 : decode cX11_init 39 = .ok (.newarray .boolean, 2) := by decide +kernel
theorem dX11_init_41 : decode cX11_init 41 = .ok (.putfield 22, 3) := by decide +kernel
theorem dX11_init_44 : decode cX11_init 44 = .ok (.aload_n 0, 1) := by decide +kernel
theorem dX11_init_45 : decode cX11_init 45 = .ok (.bipush 16, 2) := by decide +kernel
theorem dX11_init_47 : decode cX11_init 47 = .ok (.newarray .boolean, 2) := by decide +kernel
theorem dX11_init_49 : decode cX11_init 49 = .ok (.putfield 26, 3) := by decide +kernel
theorem dX11_init_52 : decode cX11_init 52 = .ok (.aload_n 0, 1) := by decide +kernel
theorem dX11_init_53 : decode cX11_init 53 = .ok (.bipush 16, 2) := by decide +kernel
theorem dX11_init_55 : decode cX11_init 55 = .ok (.newarray .int, 2) := by decide +kernel
theorem dX11_init_57 : decode cX11_init 57 = .ok (.putfield 29, 3) := by decide +kernel
theorem dX11_init_60 : decode cX11_init 60 = .ok (.aload_n 0, 1) := by decide +kernel
theorem dX11_init_61 : decode cX11_init 61 = .ok (.bipush 16, 2) := by decide +kernel
theorem dX11_init_63 : decode cX11_init 63 = .ok (.newarray .int, 2) := by decide +kernel
theorem dX11_init_65 : decode cX11_init 65 = .ok (.putfield 32, 3) := by decide +kernel
theorem dX11_init_68 : decode cX11_init 68 = .ok (.aload_n 0, 1) := by decide +kernel
theorem dX11_init_69 : decode cX11_init 69 = .ok (.bipush 16, 2) := by decide +kernel
theorem dX11_init_71 : decode cX11_init 71 = .ok (.newarray .int, 2) := by decide +kernel
theorem dX11_init_73 : decode cX11_init 73 = .ok (.putfield 35, 3) := by decide +kernel
theorem dX11_init_76 : decode cX11_init 76 = .ok (.aload_n 0, 1) := by decide +kernel
theorem dX11_init_77 : decode cX11_init 77 = .ok (.bipush 16, 2) := by decide +kernel
theorem dX11_init_79 : decode cX11_init 79 = .ok (.newarray .boolean, 2) := by decide +kernel
theorem dX11_init_81 : decode cX11_init 81 = .ok (.putfield 38, 3) := by decide +kernel
theorem dX11_init_84 : decode cX11_init 84 = .ok (.aload_n 0, 1) := by decide +kernel
theorem dX11_init_85 : decode cX11_init 85 = .ok (.bipush 16, 2) := by decide +kernel
theorem dX11_init_87 : decode cX11_init 87 = .ok (.newarray .int, 2) := by decide +kernel
theorem dX11_init_89 : decode cX11_init 89 = .ok (.putfield 41, 3) := by decide +kernel
theorem dX11_init_92 : decode cX11_init 92 = .ok (.aload_n 0, 1) := by decide +kernel
theorem dX11_init_93 : decode cX11_init 93 = .ok (.bipush 32, 2) := by decide +kernel
theorem dX11_init_95 : decode cX11_init 95 = .ok (.newarray .int, 2) := by decide +kernel
theorem dX11_init_97 : decode cX11_init 97 = .ok (.putfield 44, 3) := by decide +kernel
theorem dX11_init_100 : decode cX11_init 100 = .ok (.aload_n 0, 1) := by decide +kernel
theorem dX11_init_101 : decode cX11_init 101 = .ok (.bipush 24, 2) := by decide +kernel
theorem dX11_init_103 : decode cX11_init 103 = .ok (.newarray .int, 2) := by decide +kernel
theorem dX11_init_105 : decode cX11_init 105 = .ok (.putfield 47, 3) := by decide +kernel
theorem dX11_init_108 : decode cX11_init 108 = .ok (.aload_n 0, 1) := by decide +kernel
theorem dX11_init_109 : decode cX11_init 109 = .ok (.bipush 24, 2) := by decide +kernel
theorem dX11_init_111 : decode cX11_init 111 = .ok (.newarray .int, 2) := by decide +kernel
theorem dX11_init_113 : decode cX11_init 113 = .ok (.putfield 50, 3) := by decide +kernel
theorem dX11_init_116 : decode cX11_init 116 = .ok (.aload_n 0, 1) := by decide +kernel
theorem dX11_init_117 : decode cX11_init 117 = .ok (.bipush 24, 2) := by decide +kernel
theorem dX11_init_119 : decode cX11_init 119 = .ok (.newarray .int, 2) := by decide +kernel
theorem dX11_init_121 : decode cX11_init 121 = .ok (.putfield 53, 3) := by decide +kernel
theorem dX11_init_124 : decode cX11_init 124 = .ok (.aload_n 0, 1) := by decide +kernel
theorem dX11_init_125 : decode cX11_init 125 = .ok (.bipush 24, 2) := by decide +kernel
theorem dX11_init_127 : decode cX11_init 127 = .ok (.newarray .int, 2) := by decide +kernel
theorem dX11_init_129 : decode cX11_init 129 = .ok (.putfield 56, 3) := by decide +kernel
theorem dX11_init_132 : decode cX11_init 132 = .ok (.aload_n 0, 1) := by decide +kernel
theorem dX11_init_133 : decode cX11_init 133 = .ok (.bipush 24, 2) := by decide +kernel
theorem dX11_init_135 : decode cX11_init 135 = .ok (.newarray .boolean, 2) := by decide +kernel
theorem dX11_init_137 : decode cX11_init 137 = .ok (.putfield 59, 3) := by decide +kernel
theorem dX11_init_140 : decode cX11_init 140 = .ok (.aload_n 0, 1) := by decide +kernel
theorem dX11_init_141 : decode cX11_init 141 = .ok (.bipush 24, 2) := by decide +kernel
theorem dX11_init_143 : decode cX11_init 143 = .ok (.newarray .int, 2) := by decide +kernel
theorem dX11_init_145 : decode cX11_init 145 = .ok (.putfield 62, 3) := by decide +kernel
theorem dX11_init_148 : decode cX11_init 148 = .ok (.aload_n 0, 1) := by decide +kernel
theorem dX11_init_149 : decode cX11_init 149 = .ok (.bipush 24, 2) := by decide +kernel
theorem dX11_init_151 : decode cX11_init 151 = .ok (.newarray .int, 2) := by decide +kernel
theorem dX11_init_153 : decode cX11_init 153 = .ok (.putfield 65, 3) := by decide +kernel
theorem dX11_init_156 : decode cX11_init 156 = .ok (.aload_n 0, 1) := by decide +kernel
theorem dX11_init_157 : decode cX11_init 157 = .ok (.bipush 24, 2) := by decide +kernel
theorem dX11_init_159 : decode cX11_init 159 = .ok (.newarray .int, 2) := by decide +kernel
theorem dX11_init_161 : decode cX11_init 161 = .ok (.putfield 68, 3) := by decide +kernel
theorem dX11_init_164 : decode cX11_init 164 = .ok (.aload_n 0, 1) := by decide +kernel
theorem dX11_init_165 : decode cX11_init 165 = .ok (.bipush 24, 2) := by decide +kernel
theorem dX11_init_167 : decode cX11_init 167 = .ok (.newarray .int, 2) := by decide +kernel
theorem dX11_init_169 : decode cX11_init 169 = .ok (.putfield 71, 3) := by decide +kernel
theorem dX11_init_172 : decode cX11_init 172 = .ok (.aload_n 0, 1) := by decide +kernel
theorem dX11_init_173 : decode cX11_init 173 = .ok (.bipush 24, 2) := by decide +kernel
theorem dX11_init_175 : decode cX11_init 175 = .ok (.newarray .int, 2) := by decide +kernel
theorem dX11_init_177 : decode cX11_init 177 = .ok (.putfield 74, 3) := by decide +kernel
theorem dX11_init_180 : decode cX11_init 180 = .ok (.aload_n 0, 1) := by decide +kernel
theorem dX11_init_181 : decode cX11_init 181 = .ok (.sipush 144, 3) := by decide +kernel
theorem dX11_init_184 : decode cX11_init 184 = .ok (.newarray .int, 2) := by decide +kernel
theorem dX11_init_186 : decode cX11_init 186 = .ok (.putfield 77, 3) := by decide +kernel
theorem dX11_init_189 : decode cX11_init 189 = .ok (.aload_n 0, 1) := by decide +kernel
theorem dX11_init_190 : decode cX11_init 190 = .ok (.bipush 6, 2) := by decide +kernel
theorem dX11_init_192 : decode cX11_init 192 = .ok (.newarray .int, 2) := by decide +kernel
theorem dX11_init_194 : decode cX11_init 194 = .ok (.putfield 80, 3) := by decide +kernel
theorem dX11_init_197 : decode cX11_init 197 = .ok (.aload_n 0, 1) := by decide +kernel
theorem dX11_init_198 : decode cX11_init 198 = .ok (.bipush 16, 2) := by decide +kernel
theorem dX11_init_200 : decode cX11_init 200 = .ok (.newarray .int, 2) := by decide +kernel
theorem dX11_init_202 : decode cX11_init 202 = .ok (.putfield 83, 3) := by decide +kernel
theorem dX11_init_205 : decode cX11_init 205 = .ok (.aload_n 0, 1) := by decide +kernel
theorem dX11_init_206 : decode cX11_init 206 = .ok (.bipush 16, 2) := by decide +kernel
theorem dX11_init_208 : decode cX11_init 208 = .ok (.newarray .int, 2) := by decide +kernel
theorem dX11_init_210 : decode cX11_init 210 = .ok (.putfield 86, 3) := by decide +kernel
theorem dX11_init_213 : decode cX11_init 213 = .ok (.aload_n 0, 1) := by decide +kernel
theorem dX11_init_214 : decode cX11_init 214 = .ok (.bipush 16, 2) := by decide +kernel
theorem dX11_init_216 : decode cX11_init 216 = .ok (.newarray .int, 2) := by decide +kernel
theorem dX11_init_218 : decode cX11_init 218 = .ok (.putfield 89, 3) := by decide +kernel
theorem dX11_init_221 : decode cX11_init 221 = .ok (.aload_n 0, 1) := by decide +kernel
theorem dX11_init_222 : decode cX11_init 222 = .ok (.bipush 16, 2) := by decide +kernel
theorem dX11_init_224 : decode cX11_init 224 = .ok (.newarray .int, 2) := by decide +kernel
theorem dX11_init_226 : decode cX11_init 226 = .ok (.putfield 92, 3) := by decide +kernel
theorem dX11_init_229 : decode cX11_init 229 = .ok (.aload_n 0, 1) := by decide +kernel
theorem dX11_init_230 : decode cX11_init 230 = .ok (.bipush 16, 2) := by decide +kernel
theorem dX11_init_232 : decode cX11_init 232 = .ok (.newarray .int, 2) := by decide +kernel
theorem dX11_init_234 : decode cX11_init 234 = .ok (.putfield 95, 3) := by decide +kernel
theorem dX11_init_237 : decode cX11_init 237 = .ok (.aload_n 0, 1) := by decide +kernel
theorem dX11_init_238 : decode cX11_init 238 = .ok (.iconst 4, 1) := by decide +kernel
theorem dX11_init_239 : decode cX11_init 239 = .ok (.newarray .int, 2) := by decide +kernel
theorem dX11_init_241 : decode cX11_init 241 = .ok (.putfield 98, 3) := by decide +kernel
theorem dX11_init_244 : decode cX11_init 244 = .ok (.aload_n 0, 1) := by decide +kernel
theorem dX11_init_245 : decode cX11_init 245 = .ok (.iconst 4, 1) := by decide +kernel
theorem dX11_init_246 : decode cX11_init 246 = .ok (.newarray .int, 2) := by decide +kernel
theorem dX11_init_248 : decode cX11_init 248 = .ok (.putfield 101, 3) := by decide +kernel
theorem dX11_init_251 : decode cX11_init 251 = .ok (.aload_n 0, 1) := by decide +kernel
theorem dX11_init_252 : decode cX11_init 252 = .ok (.iconst 4, 1) := by decide +kernel
theorem dX11_init_253 : decode cX11_init 253 = .ok (.newarray .int, 2) := by decide +kernel
theorem dX11_init_255 : decode cX11_init 255 = .ok (.putfield 104, 3) := by decide +kernel
theorem dX11_init_258 : decode cX11_init 258 = .ok (.aload_n 0, 1) := by decide +kernel
theorem dX11_init_259 : decode cX11_init 259 = .ok (.bipush 20, 2) := by decide +kernel
theorem dX11_init_261 : decode cX11_init 261 = .ok (.newarray .int, 2) := by decide +kernel
theorem dX11_init_263 : decode cX11_init 263 = .ok (.putfield 107, 3) := by decide +kernel
theorem dX11_init_266 : decode cX11_init 266 = .ok (.aload_n 0, 1) := by decide +kernel
theorem dX11_init_267 : decode cX11_init 267 = .ok (.bipush 20, 2) := by decide +kernel
theorem dX11_init_269 : decode cX11_init 269 = .ok (.newarray .int, 2) := by decide +kernel
theorem dX11_init_271 : decode cX11_init 271 = .ok (.putfield 110, 3) := by decide +kernel
theorem dX11_init_274 : decode cX11_init 274 = .ok (.aload_n 0, 1) := by decide +kernel
theorem dX11_init_275 : decode cX11_init 275 = .ok (.bipush 20, 2) := by decide +kernel
theorem dX11_init_277 : decode cX11_init 277 = .ok (.newarray .int, 2) := by decide +kernel
theorem dX11_init_279 : decode cX11_init 279 = .ok (.putfield 113, 3) := by decide +kernel
theorem dX11_init_282 : decode cX11_init 282 = .ok (.aload_n 0, 1) := by decide +kernel
theorem dX11_init_283 : decode cX11_init 283 = .ok (.bipush 24, 2) := by decide +kernel
theorem dX11_init_285 : decode cX11_init 285 = .ok (.newarray .int, 2) := by decide +kernel
theorem dX11_init_287 : decode cX11_init 287 = .ok (.putfield 116, 3) := by decide +kernel
theorem dX11_init_290 : decode cX11_init 290 = .ok (.aload_n 0, 1) := by decide +kernel
theorem dX11_init_291 : decode cX11_init 291 = .ok (.bipush 6, 2) := by decide +kernel
theorem dX11_init_293 : decode cX11_init 293 = .ok (.newarray .int, 2) := by decide +kernel
theorem dX11_init_295 : decode cX11_init 295 = .ok (.putfield 119, 3) := by decide +kernel
theorem dX11_init_298 : decode cX11_init 298 = .ok (.aload_n 0, 1) := by decide +kernel
theorem dX11_init_299 : decode cX11_init 299 = .ok (.bipush 6, 2) := by decide +kernel
theorem dX11_init_301 : decode cX11_init 301 = .ok (.newarray .int, 2) := by decide +kernel
theorem dX11_init_303 : decode cX11_init 303 = .ok (.putfield 122, 3) := by decide +kernel
theorem dX11_init_306 : decode cX11_init 306 = .ok (.aload_n 0, 1) := by decide +kernel
theorem dX11_init_307 : decode cX11_init 307 = .ok (.sipush 300, 3) := by decide +kernel
theorem dX11_init_310 : decode cX11_init 310 = .ok (.newarray .int, 2) := by decide +kernel
theorem dX11_init_312 : decode cX11_init 312 = .ok (.putfield 125, 3) := by decide +kernel
theorem dX11_init_315 : decode cX11_init 315 = .ok (.aload_n 0, 1) := by decide +kernel
theorem dX11_init_316 : decode cX11_init 316 = .ok (.sipush 300, 3) := by decide +kernel
theorem dX11_init_319 : decode cX11_init 319 = .ok (.newarray .int, 2) := by decide +kernel
theorem dX11_init_321 : decode cX11_init 321 = .ok (.putfield 128, 3) := by decide +kernel
theorem dX11_init_324 : decode cX11_init 324 = .ok (.aload_n 0, 1) := by decide +kernel
theorem dX11_init_325 : decode cX11_init 325 = .ok (.bipush 24, 2) := by decide +kernel
theorem dX11_init_327 : decode cX11_init 327 = .ok (.newarray .int, 2) := by decide +kernel
theorem dX11_init_329 : decode cX11_init 329 = .ok (.putfield 131, 3) := by decide +kernel
theorem dX11_init_332 : decode cX11_init 332 = .ok (.aload_n 0, 1) := by decide +kernel
theorem dX11_init_333 : decode cX11_init 333 = .ok (.iconst 4, 1) := by decide +kernel
theorem dX11_init_334 : decode cX11_init 334 = .ok (.newarray .int, 2) := by decide +kernel
theorem dX11_init_336 : decode cX11_init 336 = .ok (.putfield 134, 3) := by decide +kernel
theorem dX11_init_339 : decode cX11_init 339 = .ok (.aload_n 0, 1) := by decide +kernel
theorem dX11_init_340 : decode cX11_init 340 = .ok (.bipush 6, 2) := by decide +kernel
theorem dX11_init_342 : decode cX11_init 342 = .ok (.newarray .int, 2) := by decide +kernel
theorem dX11_init_344 : decode cX11_init 344 = .ok (.putfield 137, 3) := by decide +kernel
theorem dX11_init_347 : decode cX11_init 347 = .ok (.aload_n 0, 1) := by decide +kernel
theorem dX11_init_348 : decode cX11_init 348 = .ok (.bipush 96, 2) := by decide +kernel
theorem dX11_init_350 : decode cX11_init 350 = .ok (.newarray .int, 2) := by decide +kernel
theorem dX11_init_352 : decode cX11_init 352 = .ok (.putfield 140, 3) := by decide +kernel
theorem dX11_init_355 : decode cX11_init 355 = .ok (.aload_n 0, 1) := by decide +kernel
theorem dX11_init_356 : decode cX11_init 356 = .ok (.iconst 1, 1) := by decide +kernel
theorem dX11_init_357 : decode cX11_init 357 = .ok (.putfield 143, 3) := by decide +kernel
theorem dX11_init_360 : decode cX11_init 360 = .ok (.aload_n 0, 1) := by decide +kernel
theorem dX11_init_361 : decode cX11_init 361 = .ok (.getfield 7, 3) := by decide +kernel
theorem dX11_init_364 : decode cX11_init 364 = .ok (.iconst 0, 1) := by decide +kernel
theorem dX11_init_365 : decode cX11_init 365 = .ok (.bipush (-9), 2) := by decide +kernel
theorem dX11_init_367 : decode cX11_init 367 = .ok (.iastore, 1) := by decide +kernel
theorem dX11_init_368 : decode cX11_init 368 = .ok (.return_, 1) := by decide +kernel
theorem dX11_in_0 : decode cX11_in 0 = .ok (.iload_n 0, 1) := by decide +kernel
theorem dX11_in_1 : decode cX11_in 1 = .ok (.iload_n 1, 1) := by decide +kernel
theorem dX11_in_2 : decode cX11_in 2 = .ok (.if_icmp .lt 12, 3) := by decide +kernel
theorem dX11_in_5 : decode cX11_in 5 = .ok (.iload_n 0, 1) := by decide +kernel
theorem dX11_in_6 : decode cX11_in 6 = .ok (.iload_n 2, 1) := by decide +kernel
theorem dX11_in_7 : decode cX11_in 7 = .ok (.if_icmp .gt 7, 3) := by decide +kernel
theorem dX11_in_10 : decode cX11_in 10 = .ok (.iconst 1, 1) := by decide +kernel
theorem dX11_in_11 : decode cX11_in 11 = .ok (.goto 4, 3) := by decide +kernel
theorem dX11_in_14 : decode cX11_in 14 = .ok (.iconst 0, 1) := by decide +kernel
theorem dX11_in_15 : decode cX11_in 15 = .ok (.ireturn, 1) := by decide +kernel
theorem dX11_isPost_0 : decode cX11_isPost 0 = .ok (.iload_n 1, 1) := by decide +kernel
theorem dX11_isPost_1 : decode cX11_isPost 1 = .ok (.iconst 0, 1) := by decide +kernel
theorem dX11_isPost_2 : decode cX11_isPost 2 = .ok (.aload_n 0, 1) := by decide +kernel
theorem dX11_isPost_3 : decode cX11_isPost 3 = .ok (.getfield 143, 3) := by decide +kernel
theorem dX11_isPost_6 : decode cX11_isPost 6 = .ok (.iconst 1, 1) := by decide +kernel
theorem dX11_isPost_7 : decode cX11_isPost 7 = .ok (.isub, 1) := by decide +kernel
theorem dX11_isPost_8 : decode cX11_isPost 8 = .ok (.invokestatic 147, 3) := by decide +kernel
theorem dX11_isPost_11 : decode cX11_isPost 11 = .ok (.ireturn, 1) := by decide +kernel
theorem dX11_isWire_0 : decode cX11_isWire 0 = .ok (.iload_n 1, 1) := by decide +kernel
theorem dX11_isWire_1 : decode cX11_isWire 1 = .ok (.iconst 1, 1) := by decide +kernel
theorem dX11_isWire_2 : decode cX11_isWire 2 = .ok (.aload_n 0, 1) := by decide +kernel
theorem dX11_isWire_3 : decode cX11_isWire 3 = .ok (.getfield 143, 3) := by decide +kernel
theorem dX11_isWire_6 : decode cX11_isWire 6 = .ok (.iconst 1, 1) := by decide +kernel
theorem dX11_isWire_7 : decode cX11_isWire 7 = .ok (.isub, 1) := by decide +kernel
theorem dX11_isWire_8 : decode cX11_isWire 8 = .ok (.invokestatic 147, 3) := by decide +kernel
theorem dX11_isWire_11 : decode cX11_isWire 11 = .ok (.ireturn, 1) := by decide +kernel
theorem dX11_post_0 : decode cX11_post 0 = .ok (.aload_n 0, 1) := by decide +kernel
theorem dX11_post_1 : decode cX11_post 1 = .ok (.iload_n 1, 1) := by decide +kernel
theorem dX11_post_2 : decode cX11_post 2 = .ok (.invokevirtual 151, 3) := by decide +kernel
theorem dX11_post_5 : decode cX11_post 5 = .ok (.ifCond .ne 5, 3) := by decide +kernel
theorem dX11_post_8 : decode cX11_post 8 = .ok (.iconst (-1), 1) := by decide +kernel
theorem dX11_post_9 : decode cX11_post 9 = .ok (.ireturn, 1) := by decide +kernel
theorem dX11_post_10 : decode cX11_post 10 = .ok (.iload_n 3, 1) := by decide +kernel
theorem dX11_post_11 : decode cX11_post 11 = .ok (.iconst 1, 1) := by decide +kernel
theorem dX11_post_12 : decode cX11_post 12 = .ok (.bipush 20, 2) := by decide +kernel
theorem dX11_post_14 : decode cX11_post 14 = .ok (.invokestatic 147, 3) := by decide +kernel
theorem dX11_post_17 : decode cX11_post 17 = .ok (.ifCond .eq 14, 3) := by decide +kernel
theorem dX11_post_20 : decode cX11_post 20 = .ok (.iload 4, 2) := by decide +kernel
theorem dX11_post_22 : decode cX11_post 22 = .ok (.iconst 1, 1) := by decide +kernel
theorem dX11_post_23 : decode cX11_post 23 = .ok (.bipush 10, 2) := by decide +kernel
theorem dX11_post_25 : decode cX11_post 25 = .ok (.invokestatic 147, 3) := by decide +kernel
theorem dX11_post_28 : decode cX11_post 28 = .ok (.ifCond .ne 6, 3) := by decide +kernel
theorem dX11_post_31 : decode cX11_post 31 = .ok (.bipush (-2), 2) := by decide +kernel
theorem dX11_post_33 : decode cX11_post 33 = .ok (.ireturn, 1) := by decide +kernel
theorem dX11_post_34 : decode cX11_post 34 = .ok (.aload_n 0, 1) := by decide +kernel
theorem dX11_post_35 : decode cX11_post 35 = .ok (.getfield 13, 3) := by decide +kernel
theorem dX11_post_38 : decode cX11_post 38 = .ok (.iload_n 1, 1) := by decide +kernel
theorem dX11_post_39 : decode cX11_post 39 = .ok (.iaload, 1) := by decide +kernel
theorem dX11_post_40 : decode cX11_post 40 = .ok (.iconst 2, 1) := by decide +kernel
theorem dX11_post_41 : decode cX11_post 41 = .ok (.if_icmp .ne 6, 3) := by decide +kernel
theorem dX11_post_44 : decode cX11_post 44 = .ok (.bipush (-3), 2) := by decide +kernel
theorem dX11_post_46 : decode cX11_post 46 = .ok (.ireturn, 1) := by decide +kernel
theorem dX11_post_47 : decode cX11_post 47 = .ok (.aload_n 0, 1) := by decide +kernel
theorem dX11_post_48 : decode cX11_post 48 = .ok (.getfield 143, 3) := by decide +kernel
theorem dX11_post_51 : decode cX11_post 51 = .ok (.bipush 16, 2) := by decide +kernel
theorem dX11_post_53 : decode cX11_post 53 = .ok (.if_icmp .ne 6, 3) := by decide +kernel
theorem dX11_post_56 : decode cX11_post 56 = .ok (.bipush (-4), 2) := by decide +kernel
theorem dX11_post_58 : decode cX11_post 58 = .ok (.ireturn, 1) := by decide +kernel
theorem dX11_post_59 : decode cX11_post 59 = .ok (.aload_n 0, 1) := by decide +kernel
theorem dX11_post_60 : decode cX11_post 60 = .ok (.getfield 7, 3) := by decide +kernel
theorem dX11_post_63 : decode cX11_post 63 = .ok (.aload_n 0, 1) := by decide +kernel
theorem dX11_post_64 : decode cX11_post 64 = .ok (.getfield 143, 3) := by decide +kernel
theorem dX11_post_67 : decode cX11_post 67 = .ok (.iload_n 1, 1) := by decide +kernel
theorem dX11_post_68 : decode cX11_post 68 = .ok (.iastore, 1) := by decide +kernel
theorem dX11_post_69 : decode cX11_post 69 = .ok (.aload_n 0, 1) := by decide +kernel
theorem dX11_post_70 : decode cX11_post 70 = .ok (.getfield 13, 3) := by decide +kernel
theorem dX11_post_73 : decode cX11_post 73 = .ok (.aload_n 0, 1) := by decide +kernel
theorem dX11_post_74 : decode cX11_post 74 = .ok (.getfield 143, 3) := by decide +kernel
theorem dX11_post_77 : decode cX11_post 77 = .ok (.iload_n 2, 1) := by decide +kernel
theorem dX11_post_78 : decode cX11_post 78 = .ok (.ifCond .eq 7, 3) := by decide +kernel
theorem dX11_post_81 : decode cX11_post 81 = .ok (.iconst 2, 1) := by decide +kernel
theorem dX11_post_82 : decode cX11_post 82 = .ok (.goto 4, 3) := by decide +kernel
theorem dX11_post_85 : decode cX11_post 85 = .ok (.iconst 1, 1) := by decide +kernel
theorem dX11_post_86 : decode cX11_post 86 = .ok (.iastore, 1) := by decide +kernel
theorem dX11_post_87 : decode cX11_post 87 = .ok (.aload_n 0, 1) := by decide +kernel
theorem dX11_post_88 : decode cX11_post 88 = .ok (.getfield 16, 3) := by decide +kernel
theorem dX11_post_91 : decode cX11_post 91 = .ok (.aload_n 0, 1) := by decide +kernel
theorem dX11_post_92 : decode cX11_post 92 = .ok (.getfield 143, 3) := by decide +kernel
theorem dX11_post_95 : decode cX11_post 95 = .ok (.iload_n 3, 1) := by decide +kernel
theorem dX11_post_96 : decode cX11_post 96 = .ok (.iastore, 1) := by decide +kernel
theorem dX11_post_97 : decode cX11_post 97 = .ok (.aload_n 0, 1) := by decide +kernel
theorem dX11_post_98 : decode cX11_post 98 = .ok (.getfield 19, 3) := by decide +kernel
theorem dX11_post_101 : decode cX11_post 101 = .ok (.aload_n 0, 1) := by decide +kernel
theorem dX11_post_102 : decode cX11_post 102 = .ok (.getfield 143, 3) := by decide +kernel
theorem dX11_post_105 : decode cX11_post 105 = .ok (.iload 4, 2) := by decide +kernel
theorem dX11_post_107 : decode cX11_post 107 = .ok (.iastore, 1) := by decide +kernel
theorem dX11_post_108 : decode cX11_post 108 = .ok (.aload_n 0, 1) := by decide +kernel
theorem dX11_post_109 : decode cX11_post 109 = .ok (.getfield 22, 3) := by decide +kernel
theorem dX11_post_112 : decode cX11_post 112 = .ok (.aload_n 0, 1) := by decide +kernel
theorem dX11_post_113 : decode cX11_post 113 = .ok (.getfield 143, 3) := by decide +kernel
theorem dX11_post_116 : decode cX11_post 116 = .ok (.iload 5, 2) := by decide +kernel
theorem dX11_post_118 : decode cX11_post 118 = .ok (.bastore, 1) := by decide +kernel
theorem dX11_post_119 : decode cX11_post 119 = .ok (.aload_n 0, 1) := by decide +kernel
theorem dX11_post_120 : decode cX11_post 120 = .ok (.getfield 41, 3) := by decide +kernel
theorem dX11_post_123 : decode cX11_post 123 = .ok (.aload_n 0, 1) := by decide +kernel
theorem dX11_post_124 : decode cX11_post 124 = .ok (.getfield 143, 3) := by decide +kernel
theorem dX11_post_127 : decode cX11_post 127 = .ok (.bipush (-9), 2) := by decide +kernel
theorem dX11_post_129 : decode cX11_post 129 = .ok (.iastore, 1) := by decide +kernel
theorem dX11_post_130 : decode cX11_post 130 = .ok (.aload_n 0, 1) := by decide +kernel
theorem dX11_post_131 : decode cX11_post 131 = .ok (.getfield 44, 3) := by decide +kernel
theorem dX11_post_134 : decode cX11_post 134 = .ok (.iconst 2, 1) := by decide +kernel
theorem dX11_post_135 : decode cX11_post 135 = .ok (.aload_n 0, 1) := by decide +kernel
theorem dX11_post_136 : decode cX11_post 136 = .ok (.getfield 143, 3) := by decide +kernel
theorem dX11_post_139 : decode cX11_post 139 = .ok (.imul, 1) := by decide +kernel
theorem dX11_post_140 : decode cX11_post 140 = .ok (.bipush (-9), 2) := by decide +kernel
theorem dX11_post_142 : decode cX11_post 142 = .ok (.iastore, 1) := by decide +kernel
theorem dX11_post_143 : decode cX11_post 143 = .ok (.aload_n 0, 1) := by decide +kernel
theorem dX11_post_144 : decode cX11_post 144 = .ok (.getfield 44, 3) := by decide +kernel
theorem dX11_post_147 : decode cX11_post 147 = .ok (.iconst 2, 1) := by decide +kernel
theorem dX11_post_148 : decode cX11_post 148 = .ok (.aload_n 0, 1) := by decide +kernel
theorem dX11_post_149 : decode cX11_post 149 = .ok (.getfield 143, 3) := by decide +kernel
theorem dX11_post_152 : decode cX11_post 152 = .ok (.imul, 1) := by decide +kernel
theorem dX11_post_153 : decode cX11_post 153 = .ok (.iconst 1, 1) := by decide +kernel
theorem dX11_post_154 : decode cX11_post 154 = .ok (.iadd, 1) := by decide +kernel
theorem dX11_post_155 : decode cX11_post 155 = .ok (.bipush (-9), 2) := by decide +kernel
theorem dX11_post_157 : decode cX11_post 157 = .ok (.iastore, 1) := by decide +kernel
theorem dX11_post_158 : decode cX11_post 158 = .ok (.aload_n 0, 1) := by decide +kernel
theorem dX11_post_159 : decode cX11_post 159 = .ok (.dup, 1) := by decide +kernel
theorem dX11_post_160 : decode cX11_post 160 = .ok (.getfield 143, 3) := by decide +kernel
theorem dX11_post_163 : decode cX11_post 163 = .ok (.iconst 1, 1) := by decide +kernel
theorem dX11_post_164 : decode cX11_post 164 = .ok (.iadd, 1) := by decide +kernel
theorem dX11_post_165 : decode cX11_post 165 = .ok (.putfield 143, 3) := by decide +kernel
theorem dX11_post_168 : decode cX11_post 168 = .ok (.aload_n 0, 1) := by decide +kernel
theorem dX11_post_169 : decode cX11_post 169 = .ok (.getfield 143, 3) := by decide +kernel
theorem dX11_post_172 : decode cX11_post 172 = .ok (.iconst 1, 1) := by decide +kernel
theorem dX11_post_173 : decode cX11_post 173 = .ok (.isub, 1) := by decide +kernel
theorem dX11_post_174 : decode cX11_post 174 = .ok (.ireturn, 1) := by decide +kernel
theorem dX11_joint_0 : decode cX11_joint 0 = .ok (.aload_n 0, 1) := by decide +kernel
theorem dX11_joint_1 : decode cX11_joint 1 = .ok (.iload_n 1, 1) := by decide +kernel
theorem dX11_joint_2 : decode cX11_joint 2 = .ok (.invokevirtual 151, 3) := by decide +kernel
theorem dX11_joint_5 : decode cX11_joint 5 = .ok (.ifCond .ne 5, 3) := by decide +kernel
theorem dX11_joint_8 : decode cX11_joint 8 = .ok (.iconst (-1), 1) := by decide +kernel
theorem dX11_joint_9 : decode cX11_joint 9 = .ok (.ireturn, 1) := by decide +kernel
theorem dX11_joint_10 : decode cX11_joint 10 = .ok (.aload_n 0, 1) := by decide +kernel
theorem dX11_joint_11 : decode cX11_joint 11 = .ok (.getfield 13, 3) := by decide +kernel
theorem dX11_joint_14 : decode cX11_joint 14 = .ok (.iload_n 1, 1) := by decide +kernel
theorem dX11_joint_15 : decode cX11_joint 15 = .ok (.iaload, 1) := by decide +kernel
theorem dX11_joint_16 : decode cX11_joint 16 = .ok (.iconst 1, 1) := by decide +kernel
theorem dX11_joint_17 : decode cX11_joint 17 = .ok (.if_icmp .eq 6, 3) := by decide +kernel
theorem dX11_joint_20 : decode cX11_joint 20 = .ok (.bipush (-3), 2) := by decide +kernel
theorem dX11_joint_22 : decode cX11_joint 22 = .ok (.ireturn, 1) := by decide +kernel
theorem dX11_joint_23 : decode cX11_joint 23 = .ok (.iload_n 2, 1) := by decide +kernel
theorem dX11_joint_24 : decode cX11_joint 24 = .ok (.ifCond .ne 30, 3) := by decide +kernel
theorem dX11_joint_27 : decode cX11_joint 27 = .ok (.iload_n 3, 1) := by decide +kernel
theorem dX11_joint_28 : decode cX11_joint 28 = .ok (.iconst 0, 1) := by decide +kernel
theorem dX11_joint_29 : decode cX11_joint 29 = .ok (.iconst 2, 1) := by decide +kernel
theorem dX11_joint_30 : decode cX11_joint 30 = .ok (.invokestatic 147, 3) := by decide +kernel
theorem dX11_joint_33 : decode cX11_joint 33 = .ok (.ifCond .eq 21, 3) := by decide +kernel
theorem dX11_joint_36 : decode cX11_joint 36 = .ok (.aload_n 0, 1) := by decide +kernel
theorem dX11_joint_37 : decode cX11_joint 37 = .ok (.getfield 29, 3) := by decide +kernel
theorem dX11_joint_40 : decode cX11_joint 40 = .ok (.iload_n 1, 1) := by decide +kernel
theorem dX11_joint_41 : decode cX11_joint 41 = .ok (.iaload, 1) := by decide +kernel
theorem dX11_joint_42 : decode cX11_joint 42 = .ok (.istore 4, 2) := by decide +kernel
theorem dX11_joint_44 : decode cX11_joint 44 = .ok (.aload_n 0, 1) := by decide +kernel
theorem dX11_joint_45 : decode cX11_joint 45 = .ok (.getfield 29, 3) := by decide +kernel
theorem dX11_joint_48 : decode cX11_joint 48 = .ok (.iload_n 1, 1) := by decide +kernel
theorem dX11_joint_49 : decode cX11_joint 49 = .ok (.iload_n 3, 1) := by decide +kernel
theorem dX11_joint_50 : decode cX11_joint 50 = .ok (.iastore, 1) := by decide +kernel
theorem dX11_joint_51 : decode cX11_joint 51 = .ok (.iload 4, 2) := by decide +kernel
theorem dX11_joint_53 : decode cX11_joint 53 = .ok (.ireturn, 1) := by decide +kernel
theorem dX11_joint_54 : decode cX11_joint 54 = .ok (.iload_n 2, 1) := by decide +kernel
theorem dX11_joint_55 : decode cX11_joint 55 = .ok (.iconst 1, 1) := by decide +kernel
theorem dX11_joint_56 : decode cX11_joint 56 = .ok (.if_icmp .ne 42, 3) := by decide +kernel
theorem dX11_joint_59 : decode cX11_joint 59 = .ok (.iload_n 3, 1) := by decide +kernel
theorem dX11_joint_60 : decode cX11_joint 60 = .ok (.ifCond .eq 13, 3) := by decide +kernel
theorem dX11_joint_63 : decode cX11_joint 63 = .ok (.iload_n 3, 1) := by decide +kernel
theorem dX11_joint_64 : decode cX11_joint 64 = .ok (.iconst 2, 1) := by decide +kernel
theorem dX11_joint_65 : decode cX11_joint 65 = .ok (.bipush 9, 2) := by decide +kernel
theorem dX11_joint_67 : decode cX11_joint 67 = .ok (.invokestatic 147, 3) := by decide +kernel
theorem dX11_joint_70 : decode cX11_joint 70 = .ok (.ifCond .eq 28, 3) := by decide +kernel
theorem dX11_joint_73 : decode cX11_joint 73 = .ok (.aload_n 0, 1) := by decide +kernel
theorem dX11_joint_74 : decode cX11_joint 74 = .ok (.getfield 32, 3) := by decide +kernel
theorem dX11_joint_77 : decode cX11_joint 77 = .ok (.iload_n 1, 1) := by decide +kernel
theorem dX11_joint_78 : decode cX11_joint 78 = .ok (.iaload, 1) := by decide +kernel
theorem dX11_joint_79 : decode cX11_joint 79 = .ok (.istore 4, 2) := by decide +kernel
theorem dX11_joint_81 : decode cX11_joint 81 = .ok (.aload_n 0, 1) := by decide +kernel
theorem dX11_joint_82 : decode cX11_joint 82 = .ok (.getfield 32, 3) := by decide +kernel
theorem dX11_joint_85 : decode cX11_joint 85 = .ok (.iload_n 1, 1) := by decide +kernel
theorem dX11_joint_86 : decode cX11_joint 86 = .ok (.iload_n 3, 1) := by decide +kernel
theorem dX11_joint_87 : decode cX11_joint 87 = .ok (.iastore, 1) := by decide +kernel
theorem dX11_joint_88 : decode cX11_joint 88 = .ok (.aload_n 0, 1) := by decide +kernel
theorem dX11_joint_89 : decode cX11_joint 89 = .ok (.getfield 35, 3) := by decide +kernel
theorem dX11_joint_92 : decode cX11_joint 92 = .ok (.iload_n 1, 1) := by decide +kernel
theorem dX11_joint_93 : decode cX11_joint 93 = .ok (.iconst 0, 1) := by decide +kernel
theorem dX11_joint_94 : decode cX11_joint 94 = .ok (.iastore, 1) := by decide +kernel
theorem dX11_joint_95 : decode cX11_joint 95 = .ok (.iload 4, 2) := by decide +kernel
theorem dX11_joint_97 : decode cX11_joint 97 = .ok (.ireturn, 1) := by decide +kernel
theorem dX11_joint_98 : decode cX11_joint 98 = .ok (.iload_n 2, 1) := by decide +kernel
theorem dX11_joint_99 : decode cX11_joint 99 = .ok (.iconst 2, 1) := by decide +kernel
theorem dX11_joint_100 : decode cX11_joint 100 = .ok (.if_icmp .ne 47, 3) := by decide +kernel
theorem dX11_joint_103 : decode cX11_joint 103 = .ok (.iload_n 3, 1) := by decide +kernel
theorem dX11_joint_104 : decode cX11_joint 104 = .ok (.iconst 0, 1) := by decide +kernel
theorem dX11_joint_105 : decode cX11_joint 105 = .ok (.iconst 1, 1) := by decide +kernel
theorem dX11_joint_106 : decode cX11_joint 106 = .ok (.invokestatic 147, 3) := by decide +kernel
theorem dX11_joint_109 : decode cX11_joint 109 = .ok (.ifCond .eq 38, 3) := by decide +kernel
theorem dX11_joint_112 : decode cX11_joint 112 = .ok (.aload_n 0, 1) := by decide +kernel
theorem dX11_joint_113 : decode cX11_joint 113 = .ok (.getfield 38, 3) := by decide +kernel
theorem dX11_joint_116 : decode cX11_joint 116 = .ok (.iload_n 1, 1) := by decide +kernel
theorem dX11_joint_117 : decode cX11_joint 117 = .ok (.baload, 1) := by decide +kernel
theorem dX11_joint_118 : decode cX11_joint 118 = .ok (.ifCond .eq 7, 3) := by decide +kernel
theorem dX11_joint_121 : decode cX11_joint 121 = .ok (.iconst 1, 1) := by decide +kernel
theorem dX11_joint_122 : decode cX11_joint 122 = .ok (.goto 4, 3) := by decide +kernel
theorem dX11_joint_125 : decode cX11_joint 125 = .ok (.iconst 0, 1) := by decide +kernel
theorem dX11_joint_126 : decode cX11_joint 126 = .ok (.istore 4, 2) := by decide +kernel
theorem dX11_joint_128 : decode cX11_joint 128 = .ok (.aload_n 0, 1) := by decide +kernel
theorem dX11_joint_129 : decode cX11_joint 129 = .ok (.getfield 38, 3) := by decide +kernel
theorem dX11_joint_132 : decode cX11_joint 132 = .ok (.iload_n 1, 1) := by decide +kernel
theorem dX11_joint_133 : decode cX11_joint 133 = .ok (.iload_n 3, 1) := by decide +kernel
theorem dX11_joint_134 : decode cX11_joint 134 = .ok (.iconst 1, 1) := by decide +kernel
theorem dX11_joint_135 : decode cX11_joint 135 = .ok (.if_icmp .ne 7, 3) := by decide +kernel
theorem dX11_joint_138 : decode cX11_joint 138 = .ok (.iconst 1, 1) := by decide +kernel
theorem dX11_joint_139 : decode cX11_joint 139 = .ok (.goto 4, 3) := by decide +kernel
theorem dX11_joint_142 : decode cX11_joint 142 = .ok (.iconst 0, 1) := by decide +kernel
theorem dX11_joint_143 : decode cX11_joint 143 = .ok (.bastore, 1) := by decide +kernel
theorem dX11_joint_144 : decode cX11_joint 144 = .ok (.iload 4, 2) := by decide +kernel
theorem dX11_joint_146 : decode cX11_joint 146 = .ok (.ireturn, 1) := by decide +kernel
theorem dX11_joint_147 : decode cX11_joint 147 = .ok (.bipush (-2), 2) := by decide +kernel
theorem dX11_joint_149 : decode cX11_joint 149 = .ok (.ireturn, 1) := by decide +kernel
theorem dX11_about_0 : decode cX11_about 0 = .ok (.aload_n 0, 1) := by decide +kernel
theorem dX11_about_1 : decode cX11_about 1 = .ok (.iload_n 1, 1) := by decide +kernel
theorem dX11_about_2 : decode cX11_about 2 = .ok (.invokevirtual 151, 3) := by decide +kernel
theorem dX11_about_5 : decode cX11_about 5 = .ok (.ifCond .ne 5, 3) := by decide +kernel
theorem dX11_about_8 : decode cX11_about 8 = .ok (.iconst (-1), 1) := by decide +kernel
theorem dX11_about_9 : decode cX11_about 9 = .ok (.ireturn, 1) := by decide +kernel
theorem dX11_about_10 : decode cX11_about 10 = .ok (.iload_n 2, 1) := by decide +kernel
theorem dX11_about_11 : decode cX11_about 11 = .ok (.tableswitch 131 0 5 #[37, 44, 51, 67, 83, 107], 37) := by decide +kernel
theorem dX11_about_48 : decode cX11_about 48 = .ok (.aload_n 0, 1) := by decide +kernel
theorem dX11_about_49 : decode cX11_about 49 = .ok (.getfield 7, 3) := by decide +kernel
theorem dX11_about_52 : decode cX11_about 52 = .ok (.iload_n 1, 1) := by decide +kernel
theorem dX11_about_53 : decode cX11_about 53 = .ok (.iaload, 1) := by decide +kernel
theorem dX11_about_54 : decode cX11_about 54 = .ok (.ireturn, 1) := by decide +kernel
theorem dX11_about_55 : decode cX11_about 55 = .ok (.aload_n 0, 1) := by decide +kernel
theorem dX11_about_56 : decode cX11_about 56 = .ok (.getfield 13, 3) := by decide +kernel
theorem dX11_about_59 : decode cX11_about 59 = .ok (.iload_n 1, 1) := by decide +kernel
theorem dX11_about_60 : decode cX11_about 60 = .ok (.iaload, 1) := by decide +kernel
theorem dX11_about_61 : decode cX11_about 61 = .ok (.ireturn, 1) := by decide +kernel
theorem dX11_about_62 : decode cX11_about 62 = .ok (.iload_n 1, 1) := by decide +kernel
theorem dX11_about_63 : decode cX11_about 63 = .ok (.ifCond .ne 8, 3) := by decide +kernel
theorem dX11_about_66 : decode cX11_about 66 = .ok (.bipush (-9), 2) := by decide +kernel
theorem dX11_about_68 : decode cX11_about 68 = .ok (.goto 9, 3) := by decide +kernel
theorem dX11_about_71 : decode cX11_about 71 = .ok (.aload_n 0, 1) := by decide +kernel
theorem dX11_about_72 : decode cX11_about 72 = .ok (.getfield 16, 3) := by decide +kernel
theorem dX11_about_75 : decode cX11_about 75 = .ok (.iload_n 1, 1) := by decide +kernel
theorem dX11_about_76 : decode cX11_about 76 = .ok (.iaload, 1) := by decide +kernel
theorem dX11_about_77 : decode cX11_about 77 = .ok (.ireturn, 1) := by decide +kernel
theorem dX11_about_78 : decode cX11_about 78 = .ok (.iload_n 1, 1) := by decide +kernel
theorem dX11_about_79 : decode cX11_about 79 = .ok (.ifCond .ne 8, 3) := by decide +kernel
theorem dX11_about_82 : decode cX11_about 82 = .ok (.bipush (-9), 2) := by decide +kernel
theorem dX11_about_84 : decode cX11_about 84 = .ok (.goto 9, 3) := by decide +kernel
theorem dX11_about_87 : decode cX11_about 87 = .ok (.aload_n 0, 1) := by decide +kernel
theorem dX11_about_88 : decode cX11_about 88 = .ok (.getfield 19, 3) := by decide +kernel
theorem dX11_about_91 : decode cX11_about 91 = .ok (.iload_n 1, 1) := by decide +kernel
theorem dX11_about_92 : decode cX11_about 92 = .ok (.iaload, 1) := by decide +kernel
theorem dX11_about_93 : decode cX11_about 93 = .ok (.ireturn, 1) := by decide +kernel
theorem dX11_about_94 : decode cX11_about 94 = .ok (.iload_n 1, 1) := by decide +kernel
theorem dX11_about_95 : decode cX11_about 95 = .ok (.ifCond .ne 8, 3) := by decide +kernel
theorem dX11_about_98 : decode cX11_about 98 = .ok (.bipush (-9), 2) := by decide +kernel
theorem dX11_about_100 : decode cX11_about 100 = .ok (.goto 17, 3) := by decide +kernel
theorem dX11_about_103 : decode cX11_about 103 = .ok (.aload_n 0, 1) := by decide +kernel
theorem dX11_about_104 : decode cX11_about 104 = .ok (.getfield 22, 3) := by decide +kernel
theorem dX11_about_107 : decode cX11_about 107 = .ok (.iload_n 1, 1) := by decide +kernel
theorem dX11_about_108 : decode cX11_about 108 = .ok (.baload, 1) := by decide +kernel
theorem dX11_about_109 : decode cX11_about 109 = .ok (.ifCond .eq 7, 3) := by decide +kernel
theorem dX11_about_112 : decode cX11_about 112 = .ok (.iconst 1, 1) := by decide +kernel
theorem dX11_about_113 : decode cX11_about 113 = .ok (.goto 4, 3) := by decide +kernel
theorem dX11_about_116 : decode cX11_about 116 = .ok (.iconst 0, 1) := by decide +kernel
theorem dX11_about_117 : decode cX11_about 117 = .ok (.ireturn, 1) := by decide +kernel
theorem dX11_about_118 : decode cX11_about 118 = .ok (.iload_n 1, 1) := by decide +kernel
theorem dX11_about_119 : decode cX11_about 119 = .ok (.ifCond .ne 8, 3) := by decide +kernel
theorem dX11_about_122 : decode cX11_about 122 = .ok (.bipush (-9), 2) := by decide +kernel
theorem dX11_about_124 : decode cX11_about 124 = .ok (.goto 17, 3) := by decide +kernel
theorem dX11_about_127 : decode cX11_about 127 = .ok (.aload_n 0, 1) := by decide +kernel
theorem dX11_about_128 : decode cX11_about 128 = .ok (.getfield 26, 3) := by decide +kernel
theorem dX11_about_131 : decode cX11_about 131 = .ok (.iload_n 1, 1) := by decide +kernel
theorem dX11_about_132 : decode cX11_about 132 = .ok (.baload, 1) := by decide +kernel
theorem dX11_about_133 : decode cX11_about 133 = .ok (.ifCond .eq 7, 3) := by decide +kernel
theorem dX11_about_136 : decode cX11_about 136 = .ok (.iconst 0, 1) := by decide +kernel
theorem dX11_about_137 : decode cX11_about 137 = .ok (.goto 4, 3) := by decide +kernel
theorem dX11_about_140 : decode cX11_about 140 = .ok (.iconst 1, 1) := by decide +kernel
theorem dX11_about_141 : decode cX11_about 141 = .ok (.ireturn, 1) := by decide +kernel
theorem dX11_about_142 : decode cX11_about 142 = .ok (.bipush (-2), 2) := by decide +kernel
theorem dX11_about_144 : decode cX11_about 144 = .ok (.ireturn, 1) := by decide +kernel
theorem dX11_cord_0 : decode cX11_cord 0 = .ok (.aload_n 0, 1) := by decide +kernel
theorem dX11_cord_1 : decode cX11_cord 1 = .ok (.iload_n 1, 1) := by decide +kernel
theorem dX11_cord_2 : decode cX11_cord 2 = .ok (.invokevirtual 155, 3) := by decide +kernel
theorem dX11_cord_5 : decode cX11_cord 5 = .ok (.ifCond .ne 5, 3) := by decide +kernel
theorem dX11_cord_8 : decode cX11_cord 8 = .ok (.iconst (-1), 1) := by decide +kernel
theorem dX11_cord_9 : decode cX11_cord 9 = .ok (.ireturn, 1) := by decide +kernel
theorem dX11_cord_10 : decode cX11_cord 10 = .ok (.aload_n 0, 1) := by decide +kernel
theorem dX11_cord_11 : decode cX11_cord 11 = .ok (.getfield 26, 3) := by decide +kernel
theorem dX11_cord_14 : decode cX11_cord 14 = .ok (.iload_n 1, 1) := by decide +kernel
theorem dX11_cord_15 : decode cX11_cord 15 = .ok (.baload, 1) := by decide +kernel
theorem dX11_cord_16 : decode cX11_cord 16 = .ok (.ifCond .eq 7, 3) := by decide +kernel
theorem dX11_cord_19 : decode cX11_cord 19 = .ok (.iconst 0, 1) := by decide +kernel
theorem dX11_cord_20 : decode cX11_cord 20 = .ok (.goto 4, 3) := by decide +kernel
theorem dX11_cord_23 : decode cX11_cord 23 = .ok (.iconst 1, 1) := by decide +kernel
theorem dX11_cord_24 : decode cX11_cord 24 = .ok (.istore_n 3, 1) := by decide +kernel
theorem dX11_cord_25 : decode cX11_cord 25 = .ok (.aload_n 0, 1) := by decide +kernel
theorem dX11_cord_26 : decode cX11_cord 26 = .ok (.getfield 26, 3) := by decide +kernel
theorem dX11_cord_29 : decode cX11_cord 29 = .ok (.iload_n 1, 1) := by decide +kernel
theorem dX11_cord_30 : decode cX11_cord 30 = .ok (.iload_n 2, 1) := by decide +kernel
theorem dX11_cord_31 : decode cX11_cord 31 = .ok (.ifCond .ne 7, 3) := by decide +kernel
theorem dX11_cord_34 : decode cX11_cord 34 = .ok (.iconst 1, 1) := by decide +kernel
theorem dX11_cord_35 : decode cX11_cord 35 = .ok (.goto 4, 3) := by decide +kernel
theorem dX11_cord_38 : decode cX11_cord 38 = .ok (.iconst 0, 1) := by decide +kernel
theorem dX11_cord_39 : decode cX11_cord 39 = .ok (.bastore, 1) := by decide +kernel
theorem dX11_cord_40 : decode cX11_cord 40 = .ok (.iload_n 3, 1) := by decide +kernel
theorem dX11_cord_41 : decode cX11_cord 41 = .ok (.ireturn, 1) := by decide +kernel
theorem dX11_liesBelow_0 : decode cX11_liesBelow 0 = .ok (.iload_n 1, 1) := by decide +kernel
theorem dX11_liesBelow_1 : decode cX11_liesBelow 1 = .ok (.istore_n 3, 1) := by decide +kernel
theorem dX11_liesBelow_2 : decode cX11_liesBelow 2 = .ok (.iload_n 3, 1) := by decide +kernel
theorem dX11_liesBelow_3 : decode cX11_liesBelow 3 = .ok (.iload_n 2, 1) := by decide +kernel
theorem dX11_liesBelow_4 : decode cX11_liesBelow 4 = .ok (.if_icmp .eq 19, 3) := by decide +kernel
theorem dX11_liesBelow_7 : decode cX11_liesBelow 7 = .ok (.iload_n 3, 1) := by decide +kernel
theorem dX11_liesBelow_8 : decode cX11_liesBelow 8 = .ok (.bipush (-9), 2) := by decide +kernel
theorem dX11_liesBelow_10 : decode cX11_liesBelow 10 = .ok (.if_icmp .eq 13, 3) := by decide +kernel
theorem dX11_liesBelow_13 : decode cX11_liesBelow 13 = .ok (.aload_n 0, 1) := by decide +kernel
theorem dX11_liesBelow_14 : decode cX11_liesBelow 14 = .ok (.getfield 7, 3) := by decide +kernel
theorem dX11_liesBelow_17 : decode cX11_liesBelow 17 = .ok (.iload_n 3, 1) := by decide +kernel
theorem dX11_liesBelow_18 : decode cX11_liesBelow 18 = .ok (.iaload, 1) := by decide +kernel
theorem dX11_liesBelow_19 : decode cX11_liesBelow 19 = .ok (.istore_n 3, 1) := by decide +kernel
theorem dX11_liesBelow_20 : decode cX11_liesBelow 20 = .ok (.goto (-18), 3) := by decide +kernel
theorem dX11_liesBelow_23 : decode cX11_liesBelow 23 = .ok (.iload_n 3, 1) := by decide +kernel
theorem dX11_liesBelow_24 : decode cX11_liesBelow 24 = .ok (.iload_n 2, 1) := by decide +kernel
theorem dX11_liesBelow_25 : decode cX11_liesBelow 25 = .ok (.if_icmp .ne 7, 3) := by decide +kernel
theorem dX11_liesBelow_28 : decode cX11_liesBelow 28 = .ok (.iconst 1, 1) := by decide +kernel
theorem dX11_liesBelow_29 : decode cX11_liesBelow 29 = .ok (.goto 4, 3) := by decide +kernel
theorem dX11_liesBelow_32 : decode cX11_liesBelow 32 = .ok (.iconst 0, 1) := by decide +kernel
theorem dX11_liesBelow_33 : decode cX11_liesBelow 33 = .ok (.ireturn, 1) := by decide +kernel
theorem dX11_worth_0 : decode cX11_worth 0 = .ok (.iload_n 0, 1) := by decide +kernel
theorem dX11_worth_1 : decode cX11_worth 1 = .ok (.tableswitch 48 0 4 #[35, 37, 39, 42, 45], 35) := by decide +kernel
theorem dX11_worth_36 : decode cX11_worth 36 = .ok (.iconst 1, 1) := by decide +kernel
theorem dX11_worth_37 : decode cX11_worth 37 = .ok (.ireturn, 1) := by decide +kernel
theorem dX11_worth_38 : decode cX11_worth 38 = .ok (.iconst 3, 1) := by decide +kernel
theorem dX11_worth_39 : decode cX11_worth 39 = .ok (.ireturn, 1) := by decide +kernel
theorem dX11_worth_40 : decode cX11_worth 40 = .ok (.bipush 6, 2) := by decide +kernel
theorem dX11_worth_42 : decode cX11_worth 42 = .ok (.ireturn, 1) := by decide +kernel
theorem dX11_worth_43 : decode cX11_worth 43 = .ok (.bipush 12, 2) := by decide +kernel
theorem dX11_worth_45 : decode cX11_worth 45 = .ok (.ireturn, 1) := by decide +kernel
theorem dX11_worth_46 : decode cX11_worth 46 = .ok (.bipush 30, 2) := by decide +kernel
theorem dX11_worth_48 : decode cX11_worth 48 = .ok (.ireturn, 1) := by decide +kernel
theorem dX11_worth_49 : decode cX11_worth 49 = .ok (.bipush 60, 2) := by decide +kernel
theorem dX11_worth_51 : decode cX11_worth 51 = .ok (.ireturn, 1) := by decide +kernel
theorem dX11_isCup_0 : decode cX11_isCup 0 = .ok (.iload_n 1, 1) := by decide +kernel
theorem dX11_isCup_1 : decode cX11_isCup 1 = .ok (.iconst 0, 1) := by decide +kernel
theorem dX11_isCup_2 : decode cX11_isCup 2 = .ok (.aload_n 0, 1) := by decide +kernel
theorem dX11_isCup_3 : decode cX11_isCup 3 = .ok (.getfield 158, 3) := by decide +kernel
theorem dX11_isCup_6 : decode cX11_isCup 6 = .ok (.iconst 1, 1) := by decide +kernel
theorem dX11_isCup_7 : decode cX11_isCup 7 = .ok (.isub, 1) := by decide +kernel
theorem dX11_isCup_8 : decode cX11_isCup 8 = .ok (.invokestatic 147, 3) := by decide +kernel
theorem dX11_isCup_11 : decode cX11_isCup 11 = .ok (.ireturn, 1) := by decide +kernel
theorem dX11_cup_0 : decode cX11_cup 0 = .ok (.aload_n 0, 1) := by decide +kernel
theorem dX11_cup_1 : decode cX11_cup 1 = .ok (.iload_n 1, 1) := by decide +kernel
theorem dX11_cup_2 : decode cX11_cup 2 = .ok (.invokevirtual 151, 3) := by decide +kernel
theorem dX11_cup_5 : decode cX11_cup 5 = .ok (.ifCond .ne 5, 3) := by decide +kernel
theorem dX11_cup_8 : decode cX11_cup 8 = .ok (.iconst (-1), 1) := by decide +kernel
theorem dX11_cup_9 : decode cX11_cup 9 = .ok (.ireturn, 1) := by decide +kernel
theorem dX11_cup_10 : decode cX11_cup 10 = .ok (.aload_n 0, 1) := by decide +kernel
theorem dX11_cup_11 : decode cX11_cup 11 = .ok (.getfield 13, 3) := by decide +kernel
theorem dX11_cup_14 : decode cX11_cup 14 = .ok (.iload_n 1, 1) := by decide +kernel
theorem dX11_cup_15 : decode cX11_cup 15 = .ok (.iaload, 1) := by decide +kernel
theorem dX11_cup_16 : decode cX11_cup 16 = .ok (.iconst 2, 1) := by decide +kernel
theorem dX11_cup_17 : decode cX11_cup 17 = .ok (.if_icmp .eq 6, 3) := by decide +kernel
theorem dX11_cup_20 : decode cX11_cup 20 = .ok (.bipush (-3), 2) := by decide +kernel
theorem dX11_cup_22 : decode cX11_cup 22 = .ok (.ireturn, 1) := by decide +kernel
theorem dX11_cup_23 : decode cX11_cup 23 = .ok (.aload_n 0, 1) := by decide +kernel
theorem dX11_cup_24 : decode cX11_cup 24 = .ok (.getfield 158, 3) := by decide +kernel
theorem dX11_cup_27 : decode cX11_cup 27 = .ok (.bipush 24, 2) := by decide +kernel
theorem dX11_cup_29 : decode cX11_cup 29 = .ok (.if_icmp .ne 6, 3) := by decide +kernel
theorem dX11_cup_32 : decode cX11_cup 32 = .ok (.bipush (-4), 2) := by decide +kernel
theorem dX11_cup_34 : decode cX11_cup 34 = .ok (.ireturn, 1) := by decide +kernel
theorem dX11_cup_35 : decode cX11_cup 35 = .ok (.aload_n 0, 1) := by decide +kernel
theorem dX11_cup_36 : decode cX11_cup 36 = .ok (.getfield 47, 3) := by decide +kernel
theorem dX11_cup_39 : decode cX11_cup 39 = .ok (.aload_n 0, 1) := by decide +kernel
theorem dX11_cup_40 : decode cX11_cup 40 = .ok (.getfield 158, 3) := by decide +kernel
theorem dX11_cup_43 : decode cX11_cup 43 = .ok (.iload_n 1, 1) := by decide +kernel
theorem dX11_cup_44 : decode cX11_cup 44 = .ok (.iastore, 1) := by decide +kernel
theorem dX11_cup_45 : decode cX11_cup 45 = .ok (.aload_n 0, 1) := by decide +kernel
theorem dX11_cup_46 : decode cX11_cup 46 = .ok (.getfield 50, 3) := by decide +kernel
theorem dX11_cup_49 : decode cX11_cup 49 = .ok (.aload_n 0, 1) := by decide +kernel
theorem dX11_cup_50 : decode cX11_cup 50 = .ok (.getfield 158, 3) := by decide +kernel
theorem dX11_cup_53 : decode cX11_cup 53 = .ok (.iconst 0, 1) := by decide +kernel
theorem dX11_cup_54 : decode cX11_cup 54 = .ok (.iastore, 1) := by decide +kernel
theorem dX11_cup_55 : decode cX11_cup 55 = .ok (.aload_n 0, 1) := by decide +kernel
theorem dX11_cup_56 : decode cX11_cup 56 = .ok (.dup, 1) := by decide +kernel
theorem dX11_cup_57 : decode cX11_cup 57 = .ok (.getfield 158, 3) := by decide +kernel
theorem dX11_cup_60 : decode cX11_cup 60 = .ok (.iconst 1, 1) := by decide +kernel
theorem dX11_cup_61 : decode cX11_cup 61 = .ok (.iadd, 1) := by decide +kernel
theorem dX11_cup_62 : decode cX11_cup 62 = .ok (.putfield 158, 3) := by decide +kernel
theorem dX11_cup_65 : decode cX11_cup 65 = .ok (.aload_n 0, 1) := by decide +kernel
theorem dX11_cup_66 : decode cX11_cup 66 = .ok (.getfield 158, 3) := by decide +kernel
theorem dX11_cup_69 : decode cX11_cup 69 = .ok (.iconst 1, 1) := by decide +kernel
theorem dX11_cup_70 : decode cX11_cup 70 = .ok (.isub, 1) := by decide +kernel
theorem dX11_cup_71 : decode cX11_cup 71 = .ok (.ireturn, 1) := by decide +kernel
theorem dX11_clerk_0 : decode cX11_clerk 0 = .ok (.iload_n 1, 1) := by decide +kernel
theorem dX11_clerk_1 : decode cX11_clerk 1 = .ok (.iconst 1, 1) := by decide +kernel
theorem dX11_clerk_2 : decode cX11_clerk 2 = .ok (.bipush 30, 2) := by decide +kernel
theorem dX11_clerk_4 : decode cX11_clerk 4 = .ok (.invokestatic 147, 3) := by decide +kernel
theorem dX11_clerk_7 : decode cX11_clerk 7 = .ok (.ifCond .ne 6, 3) := by decide +kernel
theorem dX11_clerk_10 : decode cX11_clerk 10 = .ok (.bipush (-2), 2) := by decide +kernel
theorem dX11_clerk_12 : decode cX11_clerk 12 = .ok (.ireturn, 1) := by decide +kernel
theorem dX11_clerk_13 : decode cX11_clerk 13 = .ok (.aload_n 0, 1) := by decide +kernel
theorem dX11_clerk_14 : decode cX11_clerk 14 = .ok (.getfield 161, 3) := by decide +kernel
theorem dX11_clerk_17 : decode cX11_clerk 17 = .ok (.iconst 4, 1) := by decide +kernel
theorem dX11_clerk_18 : decode cX11_clerk 18 = .ok (.if_icmp .ne 6, 3) := by decide +kernel
theorem dX11_clerk_21 : decode cX11_clerk 21 = .ok (.bipush (-4), 2) := by decide +kernel
theorem dX11_clerk_23 : decode cX11_clerk 23 = .ok (.ireturn, 1) := by decide +kernel
theorem dX11_clerk_24 : decode cX11_clerk 24 = .ok (.aload_n 0, 1) := by decide +kernel
theorem dX11_clerk_25 : decode cX11_clerk 25 = .ok (.getfield 98, 3) := by decide +kernel
theorem dX11_clerk_28 : decode cX11_clerk 28 = .ok (.aload_n 0, 1) := by decide +kernel
theorem dX11_clerk_29 : decode cX11_clerk 29 = .ok (.getfield 161, 3) := by decide +kernel
theorem dX11_clerk_32 : decode cX11_clerk 32 = .ok (.iload_n 1, 1) := by decide +kernel
theorem dX11_clerk_33 : decode cX11_clerk 33 = .ok (.iastore, 1) := by decide +kernel
theorem dX11_clerk_34 : decode cX11_clerk 34 = .ok (.aload_n 0, 1) := by decide +kernel
theorem dX11_clerk_35 : decode cX11_clerk 35 = .ok (.getfield 101, 3) := by decide +kernel
theorem dX11_clerk_38 : decode cX11_clerk 38 = .ok (.aload_n 0, 1) := by decide +kernel
theorem dX11_clerk_39 : decode cX11_clerk 39 = .ok (.getfield 161, 3) := by decide +kernel
theorem dX11_clerk_42 : decode cX11_clerk 42 = .ok (.bipush (-9), 2) := by decide +kernel
theorem dX11_clerk_44 : decode cX11_clerk 44 = .ok (.iastore, 1) := by decide +kernel
theorem dX11_clerk_45 : decode cX11_clerk 45 = .ok (.aload_n 0, 1) := by decide +kernel
theorem dX11_clerk_46 : decode cX11_clerk 46 = .ok (.dup, 1) := by decide +kernel
theorem dX11_clerk_47 : decode cX11_clerk 47 = .ok (.getfield 161, 3) := by decide +kernel
theorem dX11_clerk_50 : decode cX11_clerk 50 = .ok (.iconst 1, 1) := by decide +kernel
theorem dX11_clerk_51 : decode cX11_clerk 51 = .ok (.iadd, 1) := by decide +kernel
theorem dX11_clerk_52 : decode cX11_clerk 52 = .ok (.putfield 161, 3) := by decide +kernel
theorem dX11_clerk_55 : decode cX11_clerk 55 = .ok (.aload_n 0, 1) := by decide +kernel
theorem dX11_clerk_56 : decode cX11_clerk 56 = .ok (.getfield 161, 3) := by decide +kernel
theorem dX11_clerk_59 : decode cX11_clerk 59 = .ok (.iconst 1, 1) := by decide +kernel
theorem dX11_clerk_60 : decode cX11_clerk 60 = .ok (.isub, 1) := by decide +kernel
theorem dX11_clerk_61 : decode cX11_clerk 61 = .ok (.ireturn, 1) := by decide +kernel
theorem dX11_order_0 : decode cX11_order 0 = .ok (.iload_n 1, 1) := by decide +kernel
theorem dX11_order_1 : decode cX11_order 1 = .ok (.iconst 0, 1) := by decide +kernel
theorem dX11_order_2 : decode cX11_order 2 = .ok (.iconst 2, 1) := by decide +kernel
theorem dX11_order_3 : decode cX11_order 3 = .ok (.invokestatic 147, 3) := by decide +kernel
theorem dX11_order_6 : decode cX11_order 6 = .ok (.ifCond .ne 6, 3) := by decide +kernel
theorem dX11_order_9 : decode cX11_order 9 = .ok (.bipush (-2), 2) := by decide +kernel
theorem dX11_order_11 : decode cX11_order 11 = .ok (.ireturn, 1) := by decide +kernel
theorem dX11_order_12 : decode cX11_order 12 = .ok (.aload_n 0, 1) := by decide +kernel
theorem dX11_order_13 : decode cX11_order 13 = .ok (.getfield 164, 3) := by decide +kernel
theorem dX11_order_16 : decode cX11_order 16 = .ok (.istore_n 2, 1) := by decide +kernel
theorem dX11_order_17 : decode cX11_order 17 = .ok (.aload_n 0, 1) := by decide +kernel
theorem dX11_order_18 : decode cX11_order 18 = .ok (.iload_n 1, 1) := by decide +kernel
theorem dX11_order_19 : decode cX11_order 19 = .ok (.putfield 164, 3) := by decide +kernel
theorem dX11_order_22 : decode cX11_order 22 = .ok (.iload_n 2, 1) := by decide +kernel
theorem dX11_order_23 : decode cX11_order 23 = .ok (.ireturn, 1) := by decide +kernel
theorem dX11_drawer_0 : decode cX11_drawer 0 = .ok (.iload_n 1, 1) := by decide +kernel
theorem dX11_drawer_1 : decode cX11_drawer 1 = .ok (.iconst 0, 1) := by decide +kernel
theorem dX11_drawer_2 : decode cX11_drawer 2 = .ok (.iconst 5, 1) := by decide +kernel
theorem dX11_drawer_3 : decode cX11_drawer 3 = .ok (.invokestatic 147, 3) := by decide +kernel
theorem dX11_drawer_6 : decode cX11_drawer 6 = .ok (.ifCond .eq 14, 3) := by decide +kernel
theorem dX11_drawer_9 : decode cX11_drawer 9 = .ok (.iload_n 2, 1) := by decide +kernel
theorem dX11_drawer_10 : decode cX11_drawer 10 = .ok (.iconst 0, 1) := by decide +kernel
theorem dX11_drawer_11 : decode cX11_drawer 11 = .ok (.sipush 1000, 3) := by decide +kernel
theorem dX11_drawer_14 : decode cX11_drawer 14 = .ok (.invokestatic 147, 3) := by decide +kernel
theorem dX11_drawer_17 : decode cX11_drawer 17 = .ok (.ifCond .ne 6, 3) := by decide +kernel
theorem dX11_drawer_20 : decode cX11_drawer 20 = .ok (.bipush (-2), 2) := by decide +kernel
theorem dX11_drawer_22 : decode cX11_drawer 22 = .ok (.ireturn, 1) := by decide +kernel
theorem dX11_drawer_23 : decode cX11_drawer 23 = .ok (.aload_n 0, 1) := by decide +kernel
theorem dX11_drawer_24 : decode cX11_drawer 24 = .ok (.getfield 80, 3) := by decide +kernel
theorem dX11_drawer_27 : decode cX11_drawer 27 = .ok (.iload_n 1, 1) := by decide +kernel
theorem dX11_drawer_28 : decode cX11_drawer 28 = .ok (.iaload, 1) := by decide +kernel
theorem dX11_drawer_29 : decode cX11_drawer 29 = .ok (.istore_n 3, 1) := by decide +kernel
theorem dX11_drawer_30 : decode cX11_drawer 30 = .ok (.aload_n 0, 1) := by decide +kernel
theorem dX11_drawer_31 : decode cX11_drawer 31 = .ok (.getfield 80, 3) := by decide +kernel
theorem dX11_drawer_34 : decode cX11_drawer 34 = .ok (.iload_n 1, 1) := by decide +kernel
theorem dX11_drawer_35 : decode cX11_drawer 35 = .ok (.iload_n 2, 1) := by decide +kernel
theorem dX11_drawer_36 : decode cX11_drawer 36 = .ok (.iastore, 1) := by decide +kernel
theorem dX11_drawer_37 : decode cX11_drawer 37 = .ok (.iload_n 3, 1) := by decide +kernel
theorem dX11_drawer_38 : decode cX11_drawer 38 = .ok (.ireturn, 1) := by decide +kernel
theorem dX11_fetch_0 : decode cX11_fetch 0 = .ok (.iload_n 1, 1) := by decide +kernel
theorem dX11_fetch_1 : decode cX11_fetch 1 = .ok (.iconst 0, 1) := by decide +kernel
theorem dX11_fetch_2 : decode cX11_fetch 2 = .ok (.iconst 5, 1) := by decide +kernel
theorem dX11_fetch_3 : decode cX11_fetch 3 = .ok (.invokestatic 147, 3) := by decide +kernel
theorem dX11_fetch_6 : decode cX11_fetch 6 = .ok (.ifCond .eq 24, 3) := by decide +kernel
theorem dX11_fetch_9 : decode cX11_fetch 9 = .ok (.iload_n 2, 1) := by decide +kernel
theorem dX11_fetch_10 : decode cX11_fetch 10 = .ok (.iconst 1, 1) := by decide +kernel
theorem dX11_fetch_11 : decode cX11_fetch 11 = .ok (.bipush 100, 2) := by decide +kernel
theorem dX11_fetch_13 : decode cX11_fetch 13 = .ok (.invokestatic 147, 3) := by decide +kernel
theorem dX11_fetch_16 : decode cX11_fetch 16 = .ok (.ifCond .eq 14, 3) := by decide +kernel
theorem dX11_fetch_19 : decode cX11_fetch 19 = .ok (.iload_n 3, 1) := by decide +kernel
theorem dX11_fetch_20 : decode cX11_fetch 20 = .ok (.iconst 1, 1) := by decide +kernel
theorem dX11_fetch_21 : decode cX11_fetch 21 = .ok (.sipush 200, 3) := by decide +kernel
theorem dX11_fetch_24 : decode cX11_fetch 24 = .ok (.invokestatic 147, 3) := by decide +kernel
theorem dX11_fetch_27 : decode cX11_fetch 27 = .ok (.ifCond .ne 6, 3) := by decide +kernel
theorem dX11_fetch_30 : decode cX11_fetch 30 = .ok (.bipush (-2), 2) := by decide +kernel
theorem dX11_fetch_32 : decode cX11_fetch 32 = .ok (.ireturn, 1) := by decide +kernel
theorem dX11_fetch_33 : decode cX11_fetch 33 = .ok (.aload_n 0, 1) := by decide +kernel
theorem dX11_fetch_34 : decode cX11_fetch 34 = .ok (.getfield 167, 3) := by decide +kernel
theorem dX11_fetch_37 : decode cX11_fetch 37 = .ok (.bipush 20, 2) := by decide +kernel
theorem dX11_fetch_39 : decode cX11_fetch 39 = .ok (.if_icmp .ne 6, 3) := by decide +kernel
theorem dX11_fetch_42 : decode cX11_fetch 42 = .ok (.bipush (-4), 2) := by decide +kernel
theorem dX11_fetch_44 : decode cX11_fetch 44 = .ok (.ireturn, 1) := by decide +kernel
theorem dX11_fetch_45 : decode cX11_fetch 45 = .ok (.aload_n 0, 1) := by decide +kernel
theorem dX11_fetch_46 : decode cX11_fetch 46 = .ok (.getfield 107, 3) := by decide +kernel
theorem dX11_fetch_49 : decode cX11_fetch 49 = .ok (.aload_n 0, 1) := by decide +kernel
theorem dX11_fetch_50 : decode cX11_fetch 50 = .ok (.getfield 167, 3) := by decide +kernel
theorem dX11_fetch_53 : decode cX11_fetch 53 = .ok (.iload_n 1, 1) := by decide +kernel
theorem dX11_fetch_54 : decode cX11_fetch 54 = .ok (.iastore, 1) := by decide +kernel
theorem dX11_fetch_55 : decode cX11_fetch 55 = .ok (.aload_n 0, 1) := by decide +kernel
theorem dX11_fetch_56 : decode cX11_fetch 56 = .ok (.getfield 110, 3) := by decide +kernel
theorem dX11_fetch_59 : decode cX11_fetch 59 = .ok (.aload_n 0, 1) := by decide +kernel
theorem dX11_fetch_60 : decode cX11_fetch 60 = .ok (.getfield 167, 3) := by decide +kernel
theorem dX11_fetch_63 : decode cX11_fetch 63 = .ok (.iload_n 2, 1) := by decide +kernel
theorem dX11_fetch_64 : decode cX11_fetch 64 = .ok (.iastore, 1) := by decide +kernel
theorem dX11_fetch_65 : decode cX11_fetch 65 = .ok (.aload_n 0, 1) := by decide +kernel
theorem dX11_fetch_66 : decode cX11_fetch 66 = .ok (.getfield 113, 3) := by decide +kernel
theorem dX11_fetch_69 : decode cX11_fetch 69 = .ok (.aload_n 0, 1) := by decide +kernel
theorem dX11_fetch_70 : decode cX11_fetch 70 = .ok (.getfield 167, 3) := by decide +kernel
theorem dX11_fetch_73 : decode cX11_fetch 73 = .ok (.aload_n 0, 1) := by decide +kernel
theorem dX11_fetch_74 : decode cX11_fetch 74 = .ok (.getfield 170, 3) := by decide +kernel
theorem dX11_fetch_77 : decode cX11_fetch 77 = .ok (.iload_n 3, 1) := by decide +kernel
theorem dX11_fetch_78 : decode cX11_fetch 78 = .ok (.iadd, 1) := by decide +kernel
theorem dX11_fetch_79 : decode cX11_fetch 79 = .ok (.iastore, 1) := by decide +kernel
theorem dX11_fetch_80 : decode cX11_fetch 80 = .ok (.aload_n 0, 1) := by decide +kernel
theorem dX11_fetch_81 : decode cX11_fetch 81 = .ok (.dup, 1) := by decide +kernel
theorem dX11_fetch_82 : decode cX11_fetch 82 = .ok (.getfield 167, 3) := by decide +kernel
theorem dX11_fetch_85 : decode cX11_fetch 85 = .ok (.iconst 1, 1) := by decide +kernel
theorem dX11_fetch_86 : decode cX11_fetch 86 = .ok (.iadd, 1) := by decide +kernel
theorem dX11_fetch_87 : decode cX11_fetch 87 = .ok (.putfield 167, 3) := by decide +kernel
theorem dX11_fetch_90 : decode cX11_fetch 90 = .ok (.aload_n 0, 1) := by decide +kernel
theorem dX11_fetch_91 : decode cX11_fetch 91 = .ok (.getfield 170, 3) := by decide +kernel
theorem dX11_fetch_94 : decode cX11_fetch 94 = .ok (.iload_n 3, 1) := by decide +kernel
theorem dX11_fetch_95 : decode cX11_fetch 95 = .ok (.iadd, 1) := by decide +kernel
theorem dX11_fetch_96 : decode cX11_fetch 96 = .ok (.ireturn, 1) := by decide +kernel
theorem dX11_waitAt_0 : decode cX11_waitAt 0 = .ok (.aload_n 0, 1) := by decide +kernel
theorem dX11_waitAt_1 : decode cX11_waitAt 1 = .ok (.getfield 50, 3) := by decide +kernel
theorem dX11_waitAt_4 : decode cX11_waitAt 4 = .ok (.iload_n 1, 1) := by decide +kernel
theorem dX11_waitAt_5 : decode cX11_waitAt 5 = .ok (.iconst 1, 1) := by decide +kernel
theorem dX11_waitAt_6 : decode cX11_waitAt 6 = .ok (.iastore, 1) := by decide +kernel
theorem dX11_waitAt_7 : decode cX11_waitAt 7 = .ok (.aload_n 0, 1) := by decide +kernel
theorem dX11_waitAt_8 : decode cX11_waitAt 8 = .ok (.getfield 53, 3) := by decide +kernel
theorem dX11_waitAt_11 : decode cX11_waitAt 11 = .ok (.iload_n 1, 1) := by decide +kernel
theorem dX11_waitAt_12 : decode cX11_waitAt 12 = .ok (.iload_n 2, 1) := by decide +kernel
theorem dX11_waitAt_13 : decode cX11_waitAt 13 = .ok (.iastore, 1) := by decide +kernel
theorem dX11_waitAt_14 : decode cX11_waitAt 14 = .ok (.aload_n 0, 1) := by decide +kernel
theorem dX11_waitAt_15 : decode cX11_waitAt 15 = .ok (.getfield 56, 3) := by decide +kernel
theorem dX11_waitAt_18 : decode cX11_waitAt 18 = .ok (.iload_n 1, 1) := by decide +kernel
theorem dX11_waitAt_19 : decode cX11_waitAt 19 = .ok (.aload_n 0, 1) := by decide +kernel
theorem dX11_waitAt_20 : decode cX11_waitAt 20 = .ok (.getfield 170, 3) := by decide +kernel
theorem dX11_waitAt_23 : decode cX11_waitAt 23 = .ok (.iastore, 1) := by decide +kernel
theorem dX11_waitAt_24 : decode cX11_waitAt 24 = .ok (.aload_n 0, 1) := by decide +kernel
theorem dX11_waitAt_25 : decode cX11_waitAt 25 = .ok (.getfield 59, 3) := by decide +kernel
theorem dX11_waitAt_28 : decode cX11_waitAt 28 = .ok (.iload_n 1, 1) := by decide +kernel
theorem dX11_waitAt_29 : decode cX11_waitAt 29 = .ok (.iload_n 3, 1) := by decide +kernel
theorem dX11_waitAt_30 : decode cX11_waitAt 30 = .ok (.bastore, 1) := by decide +kernel
theorem dX11_waitAt_31 : decode cX11_waitAt 31 = .ok (.aload_n 0, 1) := by decide +kernel
theorem dX11_waitAt_32 : decode cX11_waitAt 32 = .ok (.getfield 62, 3) := by decide +kernel
theorem dX11_waitAt_35 : decode cX11_waitAt 35 = .ok (.iload_n 1, 1) := by decide +kernel
theorem dX11_waitAt_36 : decode cX11_waitAt 36 = .ok (.iload 4, 2) := by decide +kernel
theorem dX11_waitAt_38 : decode cX11_waitAt 38 = .ok (.iastore, 1) := by decide +kernel
theorem dX11_waitAt_39 : decode cX11_waitAt 39 = .ok (.return_, 1) := by decide +kernel
theorem dX11_send_0 : decode cX11_send 0 = .ok (.aload_n 0, 1) := by decide +kernel
theorem dX11_send_1 : decode cX11_send 1 = .ok (.iload_n 1, 1) := by decide +kernel
theorem dX11_send_2 : decode cX11_send 2 = .ok (.invokevirtual 173, 3) := by decide +kernel
theorem dX11_send_5 : decode cX11_send 5 = .ok (.ifCond .ne 5, 3) := by decide +kernel
theorem dX11_send_8 : decode cX11_send 8 = .ok (.iconst (-1), 1) := by decide +kernel
theorem dX11_send_9 : decode cX11_send 9 = .ok (.ireturn, 1) := by decide +kernel
theorem dX11_send_10 : decode cX11_send 10 = .ok (.iload_n 2, 1) := by decide +kernel
theorem dX11_send_11 : decode cX11_send 11 = .ok (.iconst 1, 1) := by decide +kernel
theorem dX11_send_12 : decode cX11_send 12 = .ok (.sipush 3000, 3) := by decide +kernel
theorem dX11_send_15 : decode cX11_send 15 = .ok (.invokestatic 147, 3) := by decide +kernel
theorem dX11_send_18 : decode cX11_send 18 = .ok (.ifCond .eq 23, 3) := by decide +kernel
theorem dX11_send_21 : decode cX11_send 21 = .ok (.iload_n 3, 1) := by decide +kernel
theorem dX11_send_22 : decode cX11_send 22 = .ok (.iconst 0, 1) := by decide +kernel
theorem dX11_send_23 : decode cX11_send 23 = .ok (.iconst 5, 1) := by decide +kernel
theorem dX11_send_24 : decode cX11_send 24 = .ok (.invokestatic 147, 3) := by decide +kernel
theorem dX11_send_27 : decode cX11_send 27 = .ok (.ifCond .eq 14, 3) := by decide +kernel
theorem dX11_send_30 : decode cX11_send 30 = .ok (.iload 4, 2) := by decide +kernel
theorem dX11_send_32 : decode cX11_send 32 = .ok (.iconst 1, 1) := by decide +kernel
theorem dX11_send_33 : decode cX11_send 33 = .ok (.bipush 50, 2) := by decide +kernel
theorem dX11_send_35 : decode cX11_send 35 = .ok (.invokestatic 147, 3) := by decide +kernel
theorem dX11_send_38 : decode cX11_send 38 = .ok (.ifCond .ne 6, 3) := by decide +kernel
theorem dX11_send_41 : decode cX11_send 41 = .ok (.bipush (-2), 2) := by decide +kernel
theorem dX11_send_43 : decode cX11_send 43 = .ok (.ireturn, 1) := by decide +kernel
theorem dX11_send_44 : decode cX11_send 44 = .ok (.aload_n 0, 1) := by decide +kernel
theorem dX11_send_45 : decode cX11_send 45 = .ok (.getfield 50, 3) := by decide +kernel
theorem dX11_send_48 : decode cX11_send 48 = .ok (.iload_n 1, 1) := by decide +kernel
theorem dX11_send_49 : decode cX11_send 49 = .ok (.iaload, 1) := by decide +kernel
theorem dX11_send_50 : decode cX11_send 50 = .ok (.ifCond .ne 14, 3) := by decide +kernel
theorem dX11_send_53 : decode cX11_send 53 = .ok (.iload 4, 2) := by decide +kernel
theorem dX11_send_55 : decode cX11_send 55 = .ok (.iload_n 3, 1) := by decide +kernel
theorem dX11_send_56 : decode cX11_send 56 = .ok (.invokestatic 176, 3) := by decide +kernel
theorem dX11_send_59 : decode cX11_send 59 = .ok (.imul, 1) := by decide +kernel
theorem dX11_send_60 : decode cX11_send 60 = .ok (.iload_n 2, 1) := by decide +kernel
theorem dX11_send_61 : decode cX11_send 61 = .ok (.if_icmp .ge 6, 3) := by decide +kernel
theorem dX11_send_64 : decode cX11_send 64 = .ok (.bipush (-3), 2) := by decide +kernel
theorem dX11_send_66 : decode cX11_send 66 = .ok (.ireturn, 1) := by decide +kernel
theorem dX11_send_67 : decode cX11_send 67 = .ok (.aload_n 0, 1) := by decide +kernel
theorem dX11_send_68 : decode cX11_send 68 = .ok (.getfield 77, 3) := by decide +kernel
theorem dX11_send_71 : decode cX11_send 71 = .ok (.bipush 6, 2) := by decide +kernel
theorem dX11_send_73 : decode cX11_send 73 = .ok (.iload_n 1, 1) := by decide +kernel
theorem dX11_send_74 : decode cX11_send 74 = .ok (.imul, 1) := by decide +kernel
theorem dX11_send_75 : decode cX11_send 75 = .ok (.iload_n 3, 1) := by decide +kernel
theorem dX11_send_76 : decode cX11_send 76 = .ok (.iadd, 1) := by decide +kernel
theorem dX11_send_77 : decode cX11_send 77 = .ok (.iload 4, 2) := by decide +kernel
theorem dX11_send_79 : decode cX11_send 79 = .ok (.iastore, 1) := by decide +kernel
theorem dX11_send_80 : decode cX11_send 80 = .ok (.aload_n 0, 1) := by decide +kernel
theorem dX11_send_81 : decode cX11_send 81 = .ok (.dup, 1) := by decide +kernel
theorem dX11_send_82 : decode cX11_send 82 = .ok (.getfield 180, 3) := by decide +kernel
theorem dX11_send_85 : decode cX11_send 85 = .ok (.iload 4, 2) := by decide +kernel
theorem dX11_send_87 : decode cX11_send 87 = .ok (.iload_n 3, 1) := by decide +kernel
theorem dX11_send_88 : decode cX11_send 88 = .ok (.invokestatic 176, 3) := by decide +kernel
theorem dX11_send_91 : decode cX11_send 91 = .ok (.imul, 1) := by decide +kernel
theorem dX11_send_92 : decode cX11_send 92 = .ok (.iadd, 1) := by decide +kernel
theorem dX11_send_93 : decode cX11_send 93 = .ok (.putfield 180, 3) := by decide +kernel
theorem dX11_send_96 : decode cX11_send 96 = .ok (.aload_n 0, 1) := by decide +kernel
theorem dX11_send_97 : decode cX11_send 97 = .ok (.getfield 68, 3) := by decide +kernel
theorem dX11_send_100 : decode cX11_send 100 = .ok (.iload_n 1, 1) := by decide +kernel
theorem dX11_send_101 : decode cX11_send 101 = .ok (.iconst 1, 1) := by decide +kernel
theorem dX11_send_102 : decode cX11_send 102 = .ok (.iastore, 1) := by decide +kernel
theorem dX11_send_103 : decode cX11_send 103 = .ok (.aload_n 0, 1) := by decide +kernel
theorem dX11_send_104 : decode cX11_send 104 = .ok (.getfield 71, 3) := by decide +kernel
theorem dX11_send_107 : decode cX11_send 107 = .ok (.iload_n 1, 1) := by decide +kernel
theorem dX11_send_108 : decode cX11_send 108 = .ok (.iload_n 2, 1) := by decide +kernel
theorem dX11_send_109 : decode cX11_send 109 = .ok (.iastore, 1) := by decide +kernel
theorem dX11_send_110 : decode cX11_send 110 = .ok (.aload_n 0, 1) := by decide +kernel
theorem dX11_send_111 : decode cX11_send 111 = .ok (.getfield 74, 3) := by decide +kernel
theorem dX11_send_114 : decode cX11_send 114 = .ok (.iload_n 1, 1) := by decide +kernel
theorem dX11_send_115 : decode cX11_send 115 = .ok (.aload_n 0, 1) := by decide +kernel
theorem dX11_send_116 : decode cX11_send 116 = .ok (.getfield 170, 3) := by decide +kernel
theorem dX11_send_119 : decode cX11_send 119 = .ok (.iastore, 1) := by decide +kernel
theorem dX11_send_120 : decode cX11_send 120 = .ok (.aload_n 0, 1) := by decide +kernel
theorem dX11_send_121 : decode cX11_send 121 = .ok (.iload_n 1, 1) := by decide +kernel
theorem dX11_send_122 : decode cX11_send 122 = .ok (.aload_n 0, 1) := by decide +kernel
theorem dX11_send_123 : decode cX11_send 123 = .ok (.getfield 47, 3) := by decide +kernel
theorem dX11_send_126 : decode cX11_send 126 = .ok (.iload_n 1, 1) := by decide +kernel
theorem dX11_send_127 : decode cX11_send 127 = .ok (.iaload, 1) := by decide +kernel
theorem dX11_send_128 : decode cX11_send 128 = .ok (.iconst 1, 1) := by decide +kernel
theorem dX11_send_129 : decode cX11_send 129 = .ok (.bipush (-9), 2) := by decide +kernel
theorem dX11_send_131 : decode cX11_send 131 = .ok (.invokevirtual 183, 3) := by decide +kernel
theorem dX11_send_134 : decode cX11_send 134 = .ok (.iload 4, 2) := by decide +kernel
theorem dX11_send_136 : decode cX11_send 136 = .ok (.iload_n 3, 1) := by decide +kernel
theorem dX11_send_137 : decode cX11_send 137 = .ok (.invokestatic 176, 3) := by decide +kernel
theorem dX11_send_140 : decode cX11_send 140 = .ok (.imul, 1) := by decide +kernel
theorem dX11_send_141 : decode cX11_send 141 = .ok (.iload_n 2, 1) := by decide +kernel
theorem dX11_send_142 : decode cX11_send 142 = .ok (.isub, 1) := by decide +kernel
theorem dX11_send_143 : decode cX11_send 143 = .ok (.ireturn, 1) := by decide +kernel
theorem dX11_resend_0 : decode cX11_resend 0 = .ok (.aload_n 0, 1) := by decide +kernel
theorem dX11_resend_1 : decode cX11_resend 1 = .ok (.iload_n 1, 1) := by decide +kernel
theorem dX11_resend_2 : decode cX11_resend 2 = .ok (.invokevirtual 173, 3) := by decide +kernel
theorem dX11_resend_5 : decode cX11_resend 5 = .ok (.ifCond .ne 5, 3) := by decide +kernel
theorem dX11_resend_8 : decode cX11_resend 8 = .ok (.iconst (-1), 1) := by decide +kernel
theorem dX11_resend_9 : decode cX11_resend 9 = .ok (.ireturn, 1) := by decide +kernel
theorem dX11_resend_10 : decode cX11_resend 10 = .ok (.aload_n 0, 1) := by decide +kernel
theorem dX11_resend_11 : decode cX11_resend 11 = .ok (.getfield 50, 3) := by decide +kernel
theorem dX11_resend_14 : decode cX11_resend 14 = .ok (.iload_n 1, 1) := by decide +kernel
theorem dX11_resend_15 : decode cX11_resend 15 = .ok (.iaload, 1) := by decide +kernel
theorem dX11_resend_16 : decode cX11_resend 16 = .ok (.iconst 5, 1) := by decide +kernel
theorem dX11_resend_17 : decode cX11_resend 17 = .ok (.if_icmp .eq 6, 3) := by decide +kernel
theorem dX11_resend_20 : decode cX11_resend 20 = .ok (.bipush (-3), 2) := by decide +kernel
theorem dX11_resend_22 : decode cX11_resend 22 = .ok (.ireturn, 1) := by decide +kernel
theorem dX11_resend_23 : decode cX11_resend 23 = .ok (.aload_n 0, 1) := by decide +kernel
theorem dX11_resend_24 : decode cX11_resend 24 = .ok (.iload_n 1, 1) := by decide +kernel
theorem dX11_resend_25 : decode cX11_resend 25 = .ok (.aload_n 0, 1) := by decide +kernel
theorem dX11_resend_26 : decode cX11_resend 26 = .ok (.getfield 53, 3) := by decide +kernel
theorem dX11_resend_29 : decode cX11_resend 29 = .ok (.iload_n 1, 1) := by decide +kernel
theorem dX11_resend_30 : decode cX11_resend 30 = .ok (.iaload, 1) := by decide +kernel
theorem dX11_resend_31 : decode cX11_resend 31 = .ok (.iconst 1, 1) := by decide +kernel
theorem dX11_resend_32 : decode cX11_resend 32 = .ok (.bipush (-9), 2) := by decide +kernel
theorem dX11_resend_34 : decode cX11_resend 34 = .ok (.invokevirtual 183, 3) := by decide +kernel
theorem dX11_resend_37 : decode cX11_resend 37 = .ok (.aload_n 0, 1) := by decide +kernel
theorem dX11_resend_38 : decode cX11_resend 38 = .ok (.getfield 53, 3) := by decide +kernel
theorem dX11_resend_41 : decode cX11_resend 41 = .ok (.iload_n 1, 1) := by decide +kernel
theorem dX11_resend_42 : decode cX11_resend 42 = .ok (.iaload, 1) := by decide +kernel
theorem dX11_resend_43 : decode cX11_resend 43 = .ok (.ireturn, 1) := by decide +kernel
theorem dX11_between_0 : decode cX11_between 0 = .ok (.iconst 0, 1) := by decide +kernel
theorem dX11_between_1 : decode cX11_between 1 = .ok (.istore_n 3, 1) := by decide +kernel
theorem dX11_between_2 : decode cX11_between 2 = .ok (.iload_n 1, 1) := by decide +kernel
theorem dX11_between_3 : decode cX11_between 3 = .ok (.istore 4, 2) := by decide +kernel
theorem dX11_between_5 : decode cX11_between 5 = .ok (.aload_n 0, 1) := by decide +kernel
theorem dX11_between_6 : decode cX11_between 6 = .ok (.iload_n 2, 1) := by decide +kernel
theorem dX11_between_7 : decode cX11_between 7 = .ok (.iload 4, 2) := by decide +kernel
theorem dX11_between_9 : decode cX11_between 9 = .ok (.invokevirtual 187, 3) := by decide +kernel
theorem dX11_between_12 : decode cX11_between 12 = .ok (.ifCond .ne 25, 3) := by decide +kernel
theorem dX11_between_15 : decode cX11_between 15 = .ok (.iload_n 3, 1) := by decide +kernel
theorem dX11_between_16 : decode cX11_between 16 = .ok (.aload_n 0, 1) := by decide +kernel
theorem dX11_between_17 : decode cX11_between 17 = .ok (.getfield 16, 3) := by decide +kernel
theorem dX11_between_20 : decode cX11_between 20 = .ok (.iload 4, 2) := by decide +kernel
theorem dX11_between_22 : decode cX11_between 22 = .ok (.iaload, 1) := by decide +kernel
theorem dX11_between_23 : decode cX11_between 23 = .ok (.iadd, 1) := by decide +kernel
theorem dX11_between_24 : decode cX11_between 24 = .ok (.istore_n 3, 1) := by decide +kernel
theorem dX11_between_25 : decode cX11_between 25 = .ok (.aload_n 0, 1) := by decide +kernel
theorem dX11_between_26 : decode cX11_between 26 = .ok (.getfield 7, 3) := by decide +kernel
theorem dX11_between_29 : decode cX11_between 29 = .ok (.iload 4, 2) := by decide +kernel
theorem dX11_between_31 : decode cX11_between 31 = .ok (.iaload, 1) := by decide +kernel
theorem dX11_between_32 : decode cX11_between 32 = .ok (.istore 4, 2) := by decide +kernel
theorem dX11_between_34 : decode cX11_between 34 = .ok (.goto (-29), 3) := by decide +kernel
theorem dX11_between_37 : decode cX11_between 37 = .ok (.iload_n 2, 1) := by decide +kernel
theorem dX11_between_38 : decode cX11_between 38 = .ok (.istore 5, 2) := by decide +kernel
theorem dX11_between_40 : decode cX11_between 40 = .ok (.iload 5, 2) := by decide +kernel
theorem dX11_between_42 : decode cX11_between 42 = .ok (.iload 4, 2) := by decide +kernel
theorem dX11_between_44 : decode cX11_between 44 = .ok (.if_icmp .eq 25, 3) := by decide +kernel
theorem dX11_between_47 : decode cX11_between 47 = .ok (.iload_n 3, 1) := by decide +kernel
theorem dX11_between_48 : decode cX11_between 48 = .ok (.aload_n 0, 1) := by decide +kernel
theorem dX11_between_49 : decode cX11_between 49 = .ok (.getfield 16, 3) := by decide +kernel
theorem dX11_between_52 : decode cX11_between 52 = .ok (.iload 5, 2) := by decide +kernel
theorem dX11_between_54 : decode cX11_between 54 = .ok (.iaload, 1) := by decide +kernel
theorem dX11_between_55 : decode cX11_between 55 = .ok (.iadd, 1) := by decide +kernel
theorem dX11_between_56 : decode cX11_between 56 = .ok (.istore_n 3, 1) := by decide +kernel
theorem dX11_between_57 : decode cX11_between 57 = .ok (.aload_n 0, 1) := by decide +kernel
theorem dX11_between_58 : decode cX11_between 58 = .ok (.getfield 7, 3) := by decide +kernel
theorem dX11_between_61 : decode cX11_between 61 = .ok (.iload 5, 2) := by decide +kernel
theorem dX11_between_63 : decode cX11_between 63 = .ok (.iaload, 1) := by decide +kernel
theorem dX11_between_64 : decode cX11_between 64 = .ok (.istore 5, 2) := by decide +kernel
theorem dX11_between_66 : decode cX11_between 66 = .ok (.goto (-26), 3) := by decide +kernel
theorem dX11_between_69 : decode cX11_between 69 = .ok (.iload_n 3, 1) := by decide +kernel
theorem dX11_between_70 : decode cX11_between 70 = .ok (.ireturn, 1) := by decide +kernel
theorem dX11_porter_0 : decode cX11_porter 0 = .ok (.aload_n 0, 1) := by decide +kernel
theorem dX11_porter_1 : decode cX11_porter 1 = .ok (.iload_n 1, 1) := by decide +kernel
theorem dX11_porter_2 : decode cX11_porter 2 = .ok (.invokevirtual 173, 3) := by decide +kernel
theorem dX11_porter_5 : decode cX11_porter 5 = .ok (.ifCond .ne 5, 3) := by decide +kernel
theorem dX11_porter_8 : decode cX11_porter 8 = .ok (.iconst (-1), 1) := by decide +kernel
theorem dX11_porter_9 : decode cX11_porter 9 = .ok (.ireturn, 1) := by decide +kernel
theorem dX11_porter_10 : decode cX11_porter 10 = .ok (.aload_n 0, 1) := by decide +kernel
theorem dX11_porter_11 : decode cX11_porter 11 = .ok (.getfield 50, 3) := by decide +kernel
theorem dX11_porter_14 : decode cX11_porter 14 = .ok (.iload_n 1, 1) := by decide +kernel
theorem dX11_porter_15 : decode cX11_porter 15 = .ok (.iaload, 1) := by decide +kernel
theorem dX11_porter_16 : decode cX11_porter 16 = .ok (.iconst 5, 1) := by decide +kernel
theorem dX11_porter_17 : decode cX11_porter 17 = .ok (.if_icmp .eq 57, 3) := by decide +kernel
theorem dX11_porter_20 : decode cX11_porter 20 = .ok (.aload_n 0, 1) := by decide +kernel
theorem dX11_porter_21 : decode cX11_porter 21 = .ok (.getfield 50, 3) := by decide +kernel
theorem dX11_porter_24 : decode cX11_porter 24 = .ok (.iload_n 1, 1) := by decide +kernel
theorem dX11_porter_25 : decode cX11_porter 25 = .ok (.iaload, 1) := by decide +kernel
theorem dX11_porter_26 : decode cX11_porter 26 = .ok (.iconst 2, 1) := by decide +kernel
theorem dX11_porter_27 : decode cX11_porter 27 = .ok (.if_icmp .ne 17, 3) := by decide +kernel
theorem dX11_porter_30 : decode cX11_porter 30 = .ok (.aload_n 0, 1) := by decide +kernel
theorem dX11_porter_31 : decode cX11_porter 31 = .ok (.getfield 26, 3) := by decide +kernel
theorem dX11_porter_34 : decode cX11_porter 34 = .ok (.aload_n 0, 1) := by decide +kernel
theorem dX11_porter_35 : decode cX11_porter 35 = .ok (.getfield 53, 3) := by decide +kernel
theorem dX11_porter_38 : decode cX11_porter 38 = .ok (.iload_n 1, 1) := by decide +kernel
theorem dX11_porter_39 : decode cX11_porter 39 = .ok (.iaload, 1) := by decide +kernel
theorem dX11_porter_40 : decode cX11_porter 40 = .ok (.baload, 1) := by decide +kernel
theorem dX11_porter_41 : decode cX11_porter 41 = .ok (.ifCond .ne 33, 3) := by decide +kernel
theorem dX11_porter_44 : decode cX11_porter 44 = .ok (.aload_n 0, 1) := by decide +kernel
theorem dX11_porter_45 : decode cX11_porter 45 = .ok (.getfield 50, 3) := by decide +kernel
theorem dX11_porter_48 : decode cX11_porter 48 = .ok (.iload_n 1, 1) := by decide +kernel
theorem dX11_porter_49 : decode cX11_porter 49 = .ok (.iaload, 1) := by decide +kernel
theorem dX11_porter_50 : decode cX11_porter 50 = .ok (.iconst 1, 1) := by decide +kernel
theorem dX11_porter_51 : decode cX11_porter 51 = .ok (.if_icmp .ne 27, 3) := by decide +kernel
theorem dX11_porter_54 : decode cX11_porter 54 = .ok (.aload_n 0, 1) := by decide +kernel
theorem dX11_porter_55 : decode cX11_porter 55 = .ok (.getfield 59, 3) := by decide +kernel
theorem dX11_porter_58 : decode cX11_porter 58 = .ok (.iload_n 1, 1) := by decide +kernel
theorem dX11_porter_59 : decode cX11_porter 59 = .ok (.baload, 1) := by decide +kernel
theorem dX11_porter_60 : decode cX11_porter 60 = .ok (.ifCond .ne 18, 3) := by decide +kernel
theorem dX11_porter_63 : decode cX11_porter 63 = .ok (.aload_n 0, 1) := by decide +kernel
theorem dX11_porter_64 : decode cX11_porter 64 = .ok (.getfield 62, 3) := by decide +kernel
theorem dX11_porter_67 : decode cX11_porter 67 = .ok (.iload_n 1, 1) := by decide +kernel
theorem dX11_porter_68 : decode cX11_porter 68 = .ok (.iaload, 1) := by decide +kernel
theorem dX11_porter_69 : decode cX11_porter 69 = .ok (.bipush (-9), 2) := by decide +kernel
theorem dX11_porter_71 : decode cX11_porter 71 = .ok (.if_icmp .ne 7, 3) := by decide +kernel
theorem dX11_porter_74 : decode cX11_porter 74 = .ok (.iconst 1, 1) := by decide +kernel
theorem dX11_porter_75 : decode cX11_porter 75 = .ok (.goto 4, 3) := by decide +kernel
theorem dX11_porter_78 : decode cX11_porter 78 = .ok (.iconst 0, 1) := by decide +kernel
theorem dX11_porter_79 : decode cX11_porter 79 = .ok (.istore_n 2, 1) := by decide +kernel
theorem dX11_porter_80 : decode cX11_porter 80 = .ok (.iload_n 2, 1) := by decide +kernel
theorem dX11_porter_81 : decode cX11_porter 81 = .ok (.ifCond .ne 6, 3) := by decide +kernel
theorem dX11_porter_84 : decode cX11_porter 84 = .ok (.bipush (-3), 2) := by decide +kernel
theorem dX11_porter_86 : decode cX11_porter 86 = .ok (.ireturn, 1) := by decide +kernel
theorem dX11_porter_87 : decode cX11_porter 87 = .ok (.iconst 3, 1) := by decide +kernel
theorem dX11_porter_88 : decode cX11_porter 88 = .ok (.aload_n 0, 1) := by decide +kernel
theorem dX11_porter_89 : decode cX11_porter 89 = .ok (.aload_n 0, 1) := by decide +kernel
theorem dX11_porter_90 : decode cX11_porter 90 = .ok (.getfield 53, 3) := by decide +kernel
theorem dX11_porter_93 : decode cX11_porter 93 = .ok (.iload_n 1, 1) := by decide +kernel
theorem dX11_porter_94 : decode cX11_porter 94 = .ok (.iaload, 1) := by decide +kernel
theorem dX11_porter_95 : decode cX11_porter 95 = .ok (.aload_n 0, 1) := by decide +kernel
theorem dX11_porter_96 : decode cX11_porter 96 = .ok (.getfield 47, 3) := by decide +kernel
theorem dX11_porter_99 : decode cX11_porter 99 = .ok (.iload_n 1, 1) := by decide +kernel
theorem dX11_porter_100 : decode cX11_porter 100 = .ok (.iaload, 1) := by decide +kernel
theorem dX11_porter_101 : decode cX11_porter 101 = .ok (.invokevirtual 191, 3) := by decide +kernel
theorem dX11_porter_104 : decode cX11_porter 104 = .ok (.imul, 1) := by decide +kernel
theorem dX11_porter_105 : decode cX11_porter 105 = .ok (.istore_n 3, 1) := by decide +kernel
theorem dX11_porter_106 : decode cX11_porter 106 = .ok (.aload_n 0, 1) := by decide +kernel
theorem dX11_porter_107 : decode cX11_porter 107 = .ok (.getfield 50, 3) := by decide +kernel
theorem dX11_porter_110 : decode cX11_porter 110 = .ok (.iload_n 1, 1) := by decide +kernel
theorem dX11_porter_111 : decode cX11_porter 111 = .ok (.bipush 6, 2) := by decide +kernel
theorem dX11_porter_113 : decode cX11_porter 113 = .ok (.iastore, 1) := by decide +kernel
theorem dX11_porter_114 : decode cX11_porter 114 = .ok (.aload_n 0, 1) := by decide +kernel
theorem dX11_porter_115 : decode cX11_porter 115 = .ok (.getfield 56, 3) := by decide +kernel
theorem dX11_porter_118 : decode cX11_porter 118 = .ok (.iload_n 1, 1) := by decide +kernel
theorem dX11_porter_119 : decode cX11_porter 119 = .ok (.aload_n 0, 1) := by decide +kernel
theorem dX11_porter_120 : decode cX11_porter 120 = .ok (.getfield 170, 3) := by decide +kernel
theorem dX11_porter_123 : decode cX11_porter 123 = .ok (.iload_n 3, 1) := by decide +kernel
theorem dX11_porter_124 : decode cX11_porter 124 = .ok (.iconst 1, 1) := by decide +kernel
theorem dX11_porter_125 : decode cX11_porter 125 = .ok (.if_icmp .ge 7, 3) := by decide +kernel
theorem dX11_porter_128 : decode cX11_porter 128 = .ok (.iconst 1, 1) := by decide +kernel
theorem dX11_porter_129 : decode cX11_porter 129 = .ok (.goto 4, 3) := by decide +kernel
theorem dX11_porter_132 : decode cX11_porter 132 = .ok (.iload_n 3, 1) := by decide +kernel
theorem dX11_porter_133 : decode cX11_porter 133 = .ok (.iadd, 1) := by decide +kernel
theorem dX11_porter_134 : decode cX11_porter 134 = .ok (.iastore, 1) := by decide +kernel
theorem dX11_porter_135 : decode cX11_porter 135 = .ok (.aload_n 0, 1) := by decide +kernel
theorem dX11_porter_136 : decode cX11_porter 136 = .ok (.getfield 56, 3) := by decide +kernel
theorem dX11_porter_139 : decode cX11_porter 139 = .ok (.iload_n 1, 1) := by decide +kernel
theorem dX11_porter_140 : decode cX11_porter 140 = .ok (.iaload, 1) := by decide +kernel
theorem dX11_porter_141 : decode cX11_porter 141 = .ok (.ireturn, 1) := by decide +kernel
theorem dX11_leftOf_0 : decode cX11_leftOf 0 = .ok (.iconst 0, 1) := by decide +kernel
theorem dX11_leftOf_1 : decode cX11_leftOf 1 = .ok (.istore_n 2, 1) := by decide +kernel
theorem dX11_leftOf_2 : decode cX11_leftOf 2 = .ok (.iload_n 2, 1) := by decide +kernel
theorem dX11_leftOf_3 : decode cX11_leftOf 3 = .ok (.aload_n 0, 1) := by decide +kernel
theorem dX11_leftOf_4 : decode cX11_leftOf 4 = .ok (.getfield 161, 3) := by decide +kernel
theorem dX11_leftOf_7 : decode cX11_leftOf 7 = .ok (.if_icmp .ge 26, 3) := by decide +kernel
theorem dX11_leftOf_10 : decode cX11_leftOf 10 = .ok (.aload_n 0, 1) := by decide +kernel
theorem dX11_leftOf_11 : decode cX11_leftOf 11 = .ok (.getfield 101, 3) := by decide +kernel
theorem dX11_leftOf_14 : decode cX11_leftOf 14 = .ok (.iload_n 2, 1) := by decide +kernel
theorem dX11_leftOf_15 : decode cX11_leftOf 15 = .ok (.iaload, 1) := by decide +kernel
theorem dX11_leftOf_16 : decode cX11_leftOf 16 = .ok (.iload_n 1, 1) := by decide +kernel
theorem dX11_leftOf_17 : decode cX11_leftOf 17 = .ok (.if_icmp .ne 10, 3) := by decide +kernel
theorem dX11_leftOf_20 : decode cX11_leftOf 20 = .ok (.aload_n 0, 1) := by decide +kernel
theorem dX11_leftOf_21 : decode cX11_leftOf 21 = .ok (.getfield 104, 3) := by decide +kernel
theorem dX11_leftOf_24 : decode cX11_leftOf 24 = .ok (.iload_n 2, 1) := by decide +kernel
theorem dX11_leftOf_25 : decode cX11_leftOf 25 = .ok (.iaload, 1) := by decide +kernel
theorem dX11_leftOf_26 : decode cX11_leftOf 26 = .ok (.ireturn, 1) := by decide +kernel
theorem dX11_leftOf_27 : decode cX11_leftOf 27 = .ok (.iinc 2 1, 3) := by decide +kernel
theorem dX11_leftOf_30 : decode cX11_leftOf 30 = .ok (.goto (-28), 3) := by decide +kernel
theorem dX11_leftOf_33 : decode cX11_leftOf 33 = .ok (.bipush (-9), 2) := by decide +kernel
theorem dX11_leftOf_35 : decode cX11_leftOf 35 = .ok (.ireturn, 1) := by decide +kernel
theorem dX11_clerkOf_0 : decode cX11_clerkOf 0 = .ok (.bipush (-9), 2) := by decide +kernel
theorem dX11_clerkOf_2 : decode cX11_clerkOf 2 = .ok (.istore_n 2, 1) := by decide +kernel
theorem dX11_clerkOf_3 : decode cX11_clerkOf 3 = .ok (.iconst 0, 1) := by decide +kernel
theorem dX11_clerkOf_4 : decode cX11_clerkOf 4 = .ok (.istore_n 3, 1) := by decide +kernel
theorem dX11_clerkOf_5 : decode cX11_clerkOf 5 = .ok (.iload_n 3, 1) := by decide +kernel
theorem dX11_clerkOf_6 : decode cX11_clerkOf 6 = .ok (.aload_n 0, 1) := by decide +kernel
theorem dX11_clerkOf_7 : decode cX11_clerkOf 7 = .ok (.getfield 161, 3) := by decide +kernel
theorem dX11_clerkOf_10 : decode cX11_clerkOf 10 = .ok (.if_icmp .ge 25, 3) := by decide +kernel
theorem dX11_clerkOf_13 : decode cX11_clerkOf 13 = .ok (.aload_n 0, 1) := by decide +kernel
theorem dX11_clerkOf_14 : decode cX11_clerkOf 14 = .ok (.getfield 101, 3) := by decide +kernel
theorem dX11_clerkOf_17 : decode cX11_clerkOf 17 = .ok (.iload_n 3, 1) := by decide +kernel
theorem dX11_clerkOf_18 : decode cX11_clerkOf 18 = .ok (.iaload, 1) := by decide +kernel
theorem dX11_clerkOf_19 : decode cX11_clerkOf 19 = .ok (.iload_n 1, 1) := by decide +kernel
theorem dX11_clerkOf_20 : decode cX11_clerkOf 20 = .ok (.if_icmp .ne 7, 3) := by decide +kernel
theorem dX11_clerkOf_23 : decode cX11_clerkOf 23 = .ok (.iload_n 3, 1) := by decide +kernel
theorem dX11_clerkOf_24 : decode cX11_clerkOf 24 = .ok (.goto 4, 3) := by decide +kernel
theorem dX11_clerkOf_27 : decode cX11_clerkOf 27 = .ok (.iload_n 2, 1) := by decide +kernel
theorem dX11_clerkOf_28 : decode cX11_clerkOf 28 = .ok (.istore_n 2, 1) := by decide +kernel
theorem dX11_clerkOf_29 : decode cX11_clerkOf 29 = .ok (.iinc 3 1, 3) := by decide +kernel
theorem dX11_clerkOf_32 : decode cX11_clerkOf 32 = .ok (.goto (-27), 3) := by decide +kernel
theorem dX11_clerkOf_35 : decode cX11_clerkOf 35 = .ok (.iload_n 2, 1) := by decide +kernel
theorem dX11_clerkOf_36 : decode cX11_clerkOf 36 = .ok (.ireturn, 1) := by decide +kernel
theorem dX11_cupAt_0 : decode cX11_cupAt 0 = .ok (.aload_n 0, 1) := by decide +kernel
theorem dX11_cupAt_1 : decode cX11_cupAt 1 = .ok (.iload_n 1, 1) := by decide +kernel
theorem dX11_cupAt_2 : decode cX11_cupAt 2 = .ok (.invokevirtual 173, 3) := by decide +kernel
theorem dX11_cupAt_5 : decode cX11_cupAt 5 = .ok (.ifCond .ne 5, 3) := by decide +kernel
theorem dX11_cupAt_8 : decode cX11_cupAt 8 = .ok (.iconst (-1), 1) := by decide +kernel
theorem dX11_cupAt_9 : decode cX11_cupAt 9 = .ok (.ireturn, 1) := by decide +kernel
theorem dX11_cupAt_10 : decode cX11_cupAt 10 = .ok (.aload_n 0, 1) := by decide +kernel
theorem dX11_cupAt_11 : decode cX11_cupAt 11 = .ok (.getfield 50, 3) := by decide +kernel
theorem dX11_cupAt_14 : decode cX11_cupAt 14 = .ok (.iload_n 1, 1) := by decide +kernel
theorem dX11_cupAt_15 : decode cX11_cupAt 15 = .ok (.iaload, 1) := by decide +kernel
theorem dX11_cupAt_16 : decode cX11_cupAt 16 = .ok (.istore_n 3, 1) := by decide +kernel
theorem dX11_cupAt_17 : decode cX11_cupAt 17 = .ok (.iload_n 3, 1) := by decide +kernel
theorem dX11_cupAt_18 : decode cX11_cupAt 18 = .ok (.iconst 1, 1) := by decide +kernel
theorem dX11_cupAt_19 : decode cX11_cupAt 19 = .ok (.if_icmp .eq 8, 3) := by decide +kernel
theorem dX11_cupAt_22 : decode cX11_cupAt 22 = .ok (.iload_n 3, 1) := by decide +kernel
theorem dX11_cupAt_23 : decode cX11_cupAt 23 = .ok (.iconst 2, 1) := by decide +kernel
theorem dX11_cupAt_24 : decode cX11_cupAt 24 = .ok (.if_icmp .ne 7, 3) := by decide +kernel
theorem dX11_cupAt_27 : decode cX11_cupAt 27 = .ok (.iconst 1, 1) := by decide +kernel
theorem dX11_cupAt_28 : decode cX11_cupAt 28 = .ok (.goto 4, 3) := by decide +kernel
theorem dX11_cupAt_31 : decode cX11_cupAt 31 = .ok (.iconst 0, 1) := by decide +kernel
theorem dX11_cupAt_32 : decode cX11_cupAt 32 = .ok (.istore 4, 2) := by decide +kernel
theorem dX11_cupAt_34 : decode cX11_cupAt 34 = .ok (.iload_n 2, 1) := by decide +kernel
theorem dX11_cupAt_35 : decode cX11_cupAt 35 = .ok (.tableswitch 261 0 8 #[49, 51, 99, 154, 179, 205, 212, 219, 240], 49) := by decide +kernel
theorem dX11_cupAt_84 : decode cX11_cupAt 84 = .ok (.iload_n 3, 1) := by decide +kernel
theorem dX11_cupAt_85 : decode cX11_cupAt 85 = .ok (.ireturn, 1) := by decide +kernel
theorem dX11_cupAt_86 : decode cX11_cupAt 86 = .ok (.iload_n 3, 1) := by decide +kernel
theorem dX11_cupAt_87 : decode cX11_cupAt 87 = .ok (.ifCond .ne 12, 3) := by decide +kernel
theorem dX11_cupAt_90 : decode cX11_cupAt 90 = .ok (.aload_n 0, 1) := by decide +kernel
theorem dX11_cupAt_91 : decode cX11_cupAt 91 = .ok (.getfield 47, 3) := by decide +kernel
theorem dX11_cupAt_94 : decode cX11_cupAt 94 = .ok (.iload_n 1, 1) := by decide +kernel
theorem dX11_cupAt_95 : decode cX11_cupAt 95 = .ok (.iaload, 1) := by decide +kernel
theorem dX11_cupAt_96 : decode cX11_cupAt 96 = .ok (.goto 37, 3) := by decide +kernel
theorem dX11_cupAt_99 : decode cX11_cupAt 99 = .ok (.iload 4, 2) := by decide +kernel
theorem dX11_cupAt_101 : decode cX11_cupAt 101 = .ok (.ifCond .ne 8, 3) := by decide +kernel
theorem dX11_cupAt_104 : decode cX11_cupAt 104 = .ok (.iload_n 3, 1) := by decide +kernel
theorem dX11_cupAt_105 : decode cX11_cupAt 105 = .ok (.iconst 5, 1) := by decide +kernel
theorem dX11_cupAt_106 : decode cX11_cupAt 106 = .ok (.if_icmp .ne 12, 3) := by decide +kernel
theorem dX11_cupAt_109 : decode cX11_cupAt 109 = .ok (.aload_n 0, 1) := by decide +kernel
theorem dX11_cupAt_110 : decode cX11_cupAt 110 = .ok (.getfield 53, 3) := by decide +kernel
theorem dX11_cupAt_113 : decode cX11_cupAt 113 = .ok (.iload_n 1, 1) := by decide +kernel
theorem dX11_cupAt_114 : decode cX11_cupAt 114 = .ok (.iaload, 1) := by decide +kernel
theorem dX11_cupAt_115 : decode cX11_cupAt 115 = .ok (.goto 18, 3) := by decide +kernel
theorem dX11_cupAt_118 : decode cX11_cupAt 118 = .ok (.iload_n 3, 1) := by decide +kernel
theorem dX11_cupAt_119 : decode cX11_cupAt 119 = .ok (.iconst 4, 1) := by decide +kernel
theorem dX11_cupAt_120 : decode cX11_cupAt 120 = .ok (.if_icmp .ne 11, 3) := by decide +kernel
theorem dX11_cupAt_123 : decode cX11_cupAt 123 = .ok (.aload_n 0, 1) := by decide +kernel
theorem dX11_cupAt_124 : decode cX11_cupAt 124 = .ok (.iload_n 1, 1) := by decide +kernel
theorem dX11_cupAt_125 : decode cX11_cupAt 125 = .ok (.invokevirtual 195, 3) := by decide +kernel
theorem dX11_cupAt_128 : decode cX11_cupAt 128 = .ok (.goto 5, 3) := by decide +kernel
theorem dX11_cupAt_131 : decode cX11_cupAt 131 = .ok (.bipush (-9), 2) := by decide +kernel
theorem dX11_cupAt_133 : decode cX11_cupAt 133 = .ok (.ireturn, 1) := by decide +kernel
theorem dX11_cupAt_134 : decode cX11_cupAt 134 = .ok (.iload_n 3, 1) := by decide +kernel
theorem dX11_cupAt_135 : decode cX11_cupAt 135 = .ok (.iconst 2, 1) := by decide +kernel
theorem dX11_cupAt_136 : decode cX11_cupAt 136 = .ok (.if_icmp .ne 12, 3) := by decide +kernel
theorem dX11_cupAt_139 : decode cX11_cupAt 139 = .ok (.aload_n 0, 1) := by decide +kernel
theorem dX11_cupAt_140 : decode cX11_cupAt 140 = .ok (.getfield 116, 3) := by decide +kernel
theorem dX11_cupAt_143 : decode cX11_cupAt 143 = .ok (.iload_n 1, 1) := by decide +kernel
theorem dX11_cupAt_144 : decode cX11_cupAt 144 = .ok (.iaload, 1) := by decide +kernel
theorem dX11_cupAt_145 : decode cX11_cupAt 145 = .ok (.goto 43, 3) := by decide +kernel
theorem dX11_cupAt_148 : decode cX11_cupAt 148 = .ok (.iload_n 3, 1) := by decide +kernel
theorem dX11_cupAt_149 : decode cX11_cupAt 149 = .ok (.iconst 1, 1) := by decide +kernel
theorem dX11_cupAt_150 : decode cX11_cupAt 150 = .ok (.if_icmp .eq 14, 3) := by decide +kernel
theorem dX11_cupAt_153 : decode cX11_cupAt 153 = .ok (.iload_n 3, 1) := by decide +kernel
theorem dX11_cupAt_154 : decode cX11_cupAt 154 = .ok (.iconst 3, 1) := by decide +kernel
theorem dX11_cupAt_155 : decode cX11_cupAt 155 = .ok (.if_icmp .eq 9, 3) := by decide +kernel
theorem dX11_cupAt_158 : decode cX11_cupAt 158 = .ok (.iload_n 3, 1) := by decide +kernel
theorem dX11_cupAt_159 : decode cX11_cupAt 159 = .ok (.bipush 6, 2) := by decide +kernel
theorem dX11_cupAt_161 : decode cX11_cupAt 161 = .ok (.if_icmp .ne 12, 3) := by decide +kernel
theorem dX11_cupAt_164 : decode cX11_cupAt 164 = .ok (.aload_n 0, 1) := by decide +kernel
theorem dX11_cupAt_165 : decode cX11_cupAt 165 = .ok (.getfield 56, 3) := by decide +kernel
theorem dX11_cupAt_168 : decode cX11_cupAt 168 = .ok (.iload_n 1, 1) := by decide +kernel
theorem dX11_cupAt_169 : decode cX11_cupAt 169 = .ok (.iaload, 1) := by decide +kernel
theorem dX11_cupAt_170 : decode cX11_cupAt 170 = .ok (.goto 18, 3) := by decide +kernel
theorem dX11_cupAt_173 : decode cX11_cupAt 173 = .ok (.iload_n 3, 1) := by decide +kernel
theorem dX11_cupAt_174 : decode cX11_cupAt 174 = .ok (.iconst 4, 1) := by decide +kernel
theorem dX11_cupAt_175 : decode cX11_cupAt 175 = .ok (.if_icmp .ne 11, 3) := by decide +kernel
theorem dX11_cupAt_178 : decode cX11_cupAt 178 = .ok (.aload_n 0, 1) := by decide +kernel
theorem dX11_cupAt_179 : decode cX11_cupAt 179 = .ok (.iload_n 1, 1) := by decide +kernel
theorem dX11_cupAt_180 : decode cX11_cupAt 180 = .ok (.invokevirtual 198, 3) := by decide +kernel
theorem dX11_cupAt_183 : decode cX11_cupAt 183 = .ok (.goto 5, 3) := by decide +kernel
theorem dX11_cupAt_186 : decode cX11_cupAt 186 = .ok (.bipush (-9), 2) := by decide +kernel
theorem dX11_cupAt_188 : decode cX11_cupAt 188 = .ok (.ireturn, 1) := by decide +kernel
theorem dX11_cupAt_189 : decode cX11_cupAt 189 = .ok (.iload 4, 2) := by decide +kernel
theorem dX11_cupAt_191 : decode cX11_cupAt 191 = .ok (.ifCond .eq 20, 3) := by decide +kernel
theorem dX11_cupAt_194 : decode cX11_cupAt 194 = .ok (.aload_n 0, 1) := by decide +kernel
theorem dX11_cupAt_195 : decode cX11_cupAt 195 = .ok (.getfield 59, 3) := by decide +kernel
theorem dX11_cupAt_198 : decode cX11_cupAt 198 = .ok (.iload_n 1, 1) := by decide +kernel
theorem dX11_cupAt_199 : decode cX11_cupAt 199 = .ok (.baload, 1) := by decide +kernel
theorem dX11_cupAt_200 : decode cX11_cupAt 200 = .ok (.ifCond .eq 7, 3) := by decide +kernel
theorem dX11_cupAt_203 : decode cX11_cupAt 203 = .ok (.iconst 1, 1) := by decide +kernel
theorem dX11_cupAt_204 : decode cX11_cupAt 204 = .ok (.goto 9, 3) := by decide +kernel
theorem dX11_cupAt_207 : decode cX11_cupAt 207 = .ok (.iconst 0, 1) := by decide +kernel
theorem dX11_cupAt_208 : decode cX11_cupAt 208 = .ok (.goto 5, 3) := by decide +kernel
theorem dX11_cupAt_211 : decode cX11_cupAt 211 = .ok (.bipush (-9), 2) := by decide +kernel
theorem dX11_cupAt_213 : decode cX11_cupAt 213 = .ok (.ireturn, 1) := by decide +kernel
theorem dX11_cupAt_214 : decode cX11_cupAt 214 = .ok (.iload_n 3, 1) := by decide +kernel
theorem dX11_cupAt_215 : decode cX11_cupAt 215 = .ok (.iconst 1, 1) := by decide +kernel
theorem dX11_cupAt_216 : decode cX11_cupAt 216 = .ok (.if_icmp .ne 21, 3) := by decide +kernel
theorem dX11_cupAt_219 : decode cX11_cupAt 219 = .ok (.aload_n 0, 1) := by decide +kernel
theorem dX11_cupAt_220 : decode cX11_cupAt 220 = .ok (.getfield 59, 3) := by decide +kernel
theorem dX11_cupAt_223 : decode cX11_cupAt 223 = .ok (.iload_n 1, 1) := by decide +kernel
theorem dX11_cupAt_224 : decode cX11_cupAt 224 = .ok (.baload, 1) := by decide +kernel
theorem dX11_cupAt_225 : decode cX11_cupAt 225 = .ok (.ifCond .ne 12, 3) := by decide +kernel
theorem dX11_cupAt_228 : decode cX11_cupAt 228 = .ok (.aload_n 0, 1) := by decide +kernel
theorem dX11_cupAt_229 : decode cX11_cupAt 229 = .ok (.getfield 62, 3) := by decide +kernel
theorem dX11_cupAt_232 : decode cX11_cupAt 232 = .ok (.iload_n 1, 1) := by decide +kernel
theorem dX11_cupAt_233 : decode cX11_cupAt 233 = .ok (.iaload, 1) := by decide +kernel
theorem dX11_cupAt_234 : decode cX11_cupAt 234 = .ok (.goto 5, 3) := by decide +kernel
theorem dX11_cupAt_237 : decode cX11_cupAt 237 = .ok (.bipush (-9), 2) := by decide +kernel
theorem dX11_cupAt_239 : decode cX11_cupAt 239 = .ok (.ireturn, 1) := by decide +kernel
theorem dX11_cupAt_240 : decode cX11_cupAt 240 = .ok (.aload_n 0, 1) := by decide +kernel
theorem dX11_cupAt_241 : decode cX11_cupAt 241 = .ok (.getfield 47, 3) := by decide +kernel
theorem dX11_cupAt_244 : decode cX11_cupAt 244 = .ok (.iload_n 1, 1) := by decide +kernel
theorem dX11_cupAt_245 : decode cX11_cupAt 245 = .ok (.iaload, 1) := by decide +kernel
theorem dX11_cupAt_246 : decode cX11_cupAt 246 = .ok (.ireturn, 1) := by decide +kernel
theorem dX11_cupAt_247 : decode cX11_cupAt 247 = .ok (.aload_n 0, 1) := by decide +kernel
theorem dX11_cupAt_248 : decode cX11_cupAt 248 = .ok (.getfield 68, 3) := by decide +kernel
theorem dX11_cupAt_251 : decode cX11_cupAt 251 = .ok (.iload_n 1, 1) := by decide +kernel
theorem dX11_cupAt_252 : decode cX11_cupAt 252 = .ok (.iaload, 1) := by decide +kernel
theorem dX11_cupAt_253 : decode cX11_cupAt 253 = .ok (.ireturn, 1) := by decide +kernel
theorem dX11_cupAt_254 : decode cX11_cupAt 254 = .ok (.aload_n 0, 1) := by decide +kernel
theorem dX11_cupAt_255 : decode cX11_cupAt 255 = .ok (.getfield 68, 3) := by decide +kernel
theorem dX11_cupAt_258 : decode cX11_cupAt 258 = .ok (.iload_n 1, 1) := by decide +kernel
theorem dX11_cupAt_259 : decode cX11_cupAt 259 = .ok (.iaload, 1) := by decide +kernel
theorem dX11_cupAt_260 : decode cX11_cupAt 260 = .ok (.ifCond .ne 8, 3) := by decide +kernel
theorem dX11_cupAt_263 : decode cX11_cupAt 263 = .ok (.bipush (-9), 2) := by decide +kernel
theorem dX11_cupAt_265 : decode cX11_cupAt 265 = .ok (.goto 9, 3) := by decide +kernel
theorem dX11_cupAt_268 : decode cX11_cupAt 268 = .ok (.aload_n 0, 1) := by decide +kernel
theorem dX11_cupAt_269 : decode cX11_cupAt 269 = .ok (.getfield 71, 3) := by decide +kernel
theorem dX11_cupAt_272 : decode cX11_cupAt 272 = .ok (.iload_n 1, 1) := by decide +kernel
theorem dX11_cupAt_273 : decode cX11_cupAt 273 = .ok (.iaload, 1) := by decide +kernel
theorem dX11_cupAt_274 : decode cX11_cupAt 274 = .ok (.ireturn, 1) := by decide +kernel
theorem dX11_cupAt_275 : decode cX11_cupAt 275 = .ok (.aload_n 0, 1) := by decide +kernel
theorem dX11_cupAt_276 : decode cX11_cupAt 276 = .ok (.getfield 68, 3) := by decide +kernel
theorem dX11_cupAt_279 : decode cX11_cupAt 279 = .ok (.iload_n 1, 1) := by decide +kernel
theorem dX11_cupAt_280 : decode cX11_cupAt 280 = .ok (.iaload, 1) := by decide +kernel
theorem dX11_cupAt_281 : decode cX11_cupAt 281 = .ok (.ifCond .ne 8, 3) := by decide +kernel
theorem dX11_cupAt_284 : decode cX11_cupAt 284 = .ok (.bipush (-9), 2) := by decide +kernel
theorem dX11_cupAt_286 : decode cX11_cupAt 286 = .ok (.goto 9, 3) := by decide +kernel
theorem dX11_cupAt_289 : decode cX11_cupAt 289 = .ok (.aload_n 0, 1) := by decide +kernel
theorem dX11_cupAt_290 : decode cX11_cupAt 290 = .ok (.getfield 74, 3) := by decide +kernel
theorem dX11_cupAt_293 : decode cX11_cupAt 293 = .ok (.iload_n 1, 1) := by decide +kernel
theorem dX11_cupAt_294 : decode cX11_cupAt 294 = .ok (.iaload, 1) := by decide +kernel
theorem dX11_cupAt_295 : decode cX11_cupAt 295 = .ok (.ireturn, 1) := by decide +kernel
theorem dX11_cupAt_296 : decode cX11_cupAt 296 = .ok (.bipush (-2), 2) := by decide +kernel
theorem dX11_cupAt_298 : decode cX11_cupAt 298 = .ok (.ireturn, 1) := by decide +kernel
theorem dX11_worthOf_0 : decode cX11_worthOf 0 = .ok (.iconst 0, 1) := by decide +kernel
theorem dX11_worthOf_1 : decode cX11_worthOf 1 = .ok (.istore_n 2, 1) := by decide +kernel
theorem dX11_worthOf_2 : decode cX11_worthOf 2 = .ok (.iconst 0, 1) := by decide +kernel
theorem dX11_worthOf_3 : decode cX11_worthOf 3 = .ok (.istore_n 3, 1) := by decide +kernel
theorem dX11_worthOf_4 : decode cX11_worthOf 4 = .ok (.iload_n 3, 1) := by decide +kernel
theorem dX11_worthOf_5 : decode cX11_worthOf 5 = .ok (.bipush 6, 2) := by decide +kernel
theorem dX11_worthOf_7 : decode cX11_worthOf 7 = .ok (.if_icmp .ge 28, 3) := by decide +kernel
theorem dX11_worthOf_10 : decode cX11_worthOf 10 = .ok (.iload_n 2, 1) := by decide +kernel
theorem dX11_worthOf_11 : decode cX11_worthOf 11 = .ok (.aload_n 0, 1) := by decide +kernel
theorem dX11_worthOf_12 : decode cX11_worthOf 12 = .ok (.getfield 77, 3) := by decide +kernel
theorem dX11_worthOf_15 : decode cX11_worthOf 15 = .ok (.bipush 6, 2) := by decide +kernel
theorem dX11_worthOf_17 : decode cX11_worthOf 17 = .ok (.iload_n 1, 1) := by decide +kernel
theorem dX11_worthOf_18 : decode cX11_worthOf 18 = .ok (.imul, 1) := by decide +kernel
theorem dX11_worthOf_19 : decode cX11_worthOf 19 = .ok (.iload_n 3, 1) := by decide +kernel
theorem dX11_worthOf_20 : decode cX11_worthOf 20 = .ok (.iadd, 1) := by decide +kernel
theorem dX11_worthOf_21 : decode cX11_worthOf 21 = .ok (.iaload, 1) := by decide +kernel
theorem dX11_worthOf_22 : decode cX11_worthOf 22 = .ok (.iload_n 3, 1) := by decide +kernel
theorem dX11_worthOf_23 : decode cX11_worthOf 23 = .ok (.invokestatic 176, 3) := by decide +kernel
theorem dX11_worthOf_26 : decode cX11_worthOf 26 = .ok (.imul, 1) := by decide +kernel
theorem dX11_worthOf_27 : decode cX11_worthOf 27 = .ok (.iadd, 1) := by decide +kernel
theorem dX11_worthOf_28 : decode cX11_worthOf 28 = .ok (.istore_n 2, 1) := by decide +kernel
theorem dX11_worthOf_29 : decode cX11_worthOf 29 = .ok (.iinc 3 1, 3) := by decide +kernel
theorem dX11_worthOf_32 : decode cX11_worthOf 32 = .ok (.goto (-28), 3) := by decide +kernel
theorem dX11_worthOf_35 : decode cX11_worthOf 35 = .ok (.iload_n 2, 1) := by decide +kernel
theorem dX11_worthOf_36 : decode cX11_worthOf 36 = .ok (.ireturn, 1) := by decide +kernel
theorem dX11_coins_0 : decode cX11_coins 0 = .ok (.aload_n 0, 1) := by decide +kernel
theorem dX11_coins_1 : decode cX11_coins 1 = .ok (.iload_n 1, 1) := by decide +kernel
theorem dX11_coins_2 : decode cX11_coins 2 = .ok (.invokevirtual 173, 3) := by decide +kernel
theorem dX11_coins_5 : decode cX11_coins 5 = .ok (.ifCond .ne 5, 3) := by decide +kernel
theorem dX11_coins_8 : decode cX11_coins 8 = .ok (.iconst (-1), 1) := by decide +kernel
theorem dX11_coins_9 : decode cX11_coins 9 = .ok (.ireturn, 1) := by decide +kernel
theorem dX11_coins_10 : decode cX11_coins 10 = .ok (.iload_n 2, 1) := by decide +kernel
theorem dX11_coins_11 : decode cX11_coins 11 = .ok (.iconst 0, 1) := by decide +kernel
theorem dX11_coins_12 : decode cX11_coins 12 = .ok (.bipush 6, 2) := by decide +kernel
theorem dX11_coins_14 : decode cX11_coins 14 = .ok (.invokestatic 147, 3) := by decide +kernel
theorem dX11_coins_17 : decode cX11_coins 17 = .ok (.ifCond .ne 8, 3) := by decide +kernel
theorem dX11_coins_20 : decode cX11_coins 20 = .ok (.bipush (-2), 2) := by decide +kernel
theorem dX11_coins_22 : decode cX11_coins 22 = .ok (.goto 28, 3) := by decide +kernel
theorem dX11_coins_25 : decode cX11_coins 25 = .ok (.iload_n 2, 1) := by decide +kernel
theorem dX11_coins_26 : decode cX11_coins 26 = .ok (.bipush 6, 2) := by decide +kernel
theorem dX11_coins_28 : decode cX11_coins 28 = .ok (.if_icmp .ne 11, 3) := by decide +kernel
theorem dX11_coins_31 : decode cX11_coins 31 = .ok (.aload_n 0, 1) := by decide +kernel
theorem dX11_coins_32 : decode cX11_coins 32 = .ok (.iload_n 1, 1) := by decide +kernel
theorem dX11_coins_33 : decode cX11_coins 33 = .ok (.invokevirtual 201, 3) := by decide +kernel
theorem dX11_coins_36 : decode cX11_coins 36 = .ok (.goto 14, 3) := by decide +kernel
theorem dX11_coins_39 : decode cX11_coins 39 = .ok (.aload_n 0, 1) := by decide +kernel
theorem dX11_coins_40 : decode cX11_coins 40 = .ok (.getfield 77, 3) := by decide +kernel
theorem dX11_coins_43 : decode cX11_coins 43 = .ok (.bipush 6, 2) := by decide +kernel
theorem dX11_coins_45 : decode cX11_coins 45 = .ok (.iload_n 1, 1) := by decide +kernel
theorem dX11_coins_46 : decode cX11_coins 46 = .ok (.imul, 1) := by decide +kernel
theorem dX11_coins_47 : decode cX11_coins 47 = .ok (.iload_n 2, 1) := by decide +kernel
theorem dX11_coins_48 : decode cX11_coins 48 = .ok (.iadd, 1) := by decide +kernel
theorem dX11_coins_49 : decode cX11_coins 49 = .ok (.iaload, 1) := by decide +kernel
theorem dX11_coins_50 : decode cX11_coins 50 = .ok (.ireturn, 1) := by decide +kernel
theorem dX11_tryRest_0 : decode cX11_tryRest 0 = .ok (.iload_n 1, 1) := by decide +kernel
theorem dX11_tryRest_1 : decode cX11_tryRest 1 = .ok (.istore_n 3, 1) := by decide +kernel
theorem dX11_tryRest_2 : decode cX11_tryRest 2 = .ok (.iload_n 2, 1) := by decide +kernel
theorem dX11_tryRest_3 : decode cX11_tryRest 3 = .ok (.istore 4, 2) := by decide +kernel
theorem dX11_tryRest_5 : decode cX11_tryRest 5 = .ok (.iconst 3, 1) := by decide +kernel
theorem dX11_tryRest_6 : decode cX11_tryRest 6 = .ok (.istore 5, 2) := by decide +kernel
theorem dX11_tryRest_8 : decode cX11_tryRest 8 = .ok (.iload 5, 2) := by decide +kernel
theorem dX11_tryRest_10 : decode cX11_tryRest 10 = .ok (.ifCond .lt 77, 3) := by decide +kernel
theorem dX11_tryRest_13 : decode cX11_tryRest 13 = .ok (.iload_n 3, 1) := by decide +kernel
theorem dX11_tryRest_14 : decode cX11_tryRest 14 = .ok (.iload 5, 2) := by decide +kernel
theorem dX11_tryRest_16 : decode cX11_tryRest 16 = .ok (.invokestatic 176, 3) := by decide +kernel
theorem dX11_tryRest_19 : decode cX11_tryRest 19 = .ok (.idiv, 1) := by decide +kernel
theorem dX11_tryRest_20 : decode cX11_tryRest 20 = .ok (.istore 6, 2) := by decide +kernel
theorem dX11_tryRest_22 : decode cX11_tryRest 22 = .ok (.aload_n 0, 1) := by decide +kernel
theorem dX11_tryRest_23 : decode cX11_tryRest 23 = .ok (.getfield 122, 3) := by decide +kernel
theorem dX11_tryRest_26 : decode cX11_tryRest 26 = .ok (.iload 5, 2) := by decide +kernel
theorem dX11_tryRest_28 : decode cX11_tryRest 28 = .ok (.iload 6, 2) := by decide +kernel
theorem dX11_tryRest_30 : decode cX11_tryRest 30 = .ok (.aload_n 0, 1) := by decide +kernel
theorem dX11_tryRest_31 : decode cX11_tryRest 31 = .ok (.getfield 80, 3) := by decide +kernel
theorem dX11_tryRest_34 : decode cX11_tryRest 34 = .ok (.iload 5, 2) := by decide +kernel
theorem dX11_tryRest_36 : decode cX11_tryRest 36 = .ok (.iaload, 1) := by decide +kernel
theorem dX11_tryRest_37 : decode cX11_tryRest 37 = .ok (.if_icmp .ge 8, 3) := by decide +kernel
theorem dX11_tryRest_40 : decode cX11_tryRest 40 = .ok (.iload 6, 2) := by decide +kernel
theorem dX11_tryRest_42 : decode cX11_tryRest 42 = .ok (.goto 10, 3) := by decide +kernel
theorem dX11_tryRest_45 : decode cX11_tryRest 45 = .ok (.aload_n 0, 1) := by decide +kernel
theorem dX11_tryRest_46 : decode cX11_tryRest 46 = .ok (.getfield 80, 3) := by decide +kernel
theorem dX11_tryRest_49 : decode cX11_tryRest 49 = .ok (.iload 5, 2) := by decide +kernel
theorem dX11_tryRest_51 : decode cX11_tryRest 51 = .ok (.iaload, 1) := by decide +kernel
theorem dX11_tryRest_52 : decode cX11_tryRest 52 = .ok (.iastore, 1) := by decide +kernel
theorem dX11_tryRest_53 : decode cX11_tryRest 53 = .ok (.iload_n 3, 1) := by decide +kernel
theorem dX11_tryRest_54 : decode cX11_tryRest 54 = .ok (.aload_n 0, 1) := by decide +kernel
theorem dX11_tryRest_55 : decode cX11_tryRest 55 = .ok (.getfield 122, 3) := by decide +kernel
theorem dX11_tryRest_58 : decode cX11_tryRest 58 = .ok (.iload 5, 2) := by decide +kernel
theorem dX11_tryRest_60 : decode cX11_tryRest 60 = .ok (.iaload, 1) := by decide +kernel
theorem dX11_tryRest_61 : decode cX11_tryRest 61 = .ok (.iload 5, 2) := by decide +kernel
theorem dX11_tryRest_63 : decode cX11_tryRest 63 = .ok (.invokestatic 176, 3) := by decide +kernel
theorem dX11_tryRest_66 : decode cX11_tryRest 66 = .ok (.imul, 1) := by decide +kernel
theorem dX11_tryRest_67 : decode cX11_tryRest 67 = .ok (.isub, 1) := by decide +kernel
theorem dX11_tryRest_68 : decode cX11_tryRest 68 = .ok (.istore_n 3, 1) := by decide +kernel
theorem dX11_tryRest_69 : decode cX11_tryRest 69 = .ok (.iload 4, 2) := by decide +kernel
theorem dX11_tryRest_71 : decode cX11_tryRest 71 = .ok (.aload_n 0, 1) := by decide +kernel
theorem dX11_tryRest_72 : decode cX11_tryRest 72 = .ok (.getfield 122, 3) := by decide +kernel
theorem dX11_tryRest_75 : decode cX11_tryRest 75 = .ok (.iload 5, 2) := by decide +kernel
theorem dX11_tryRest_77 : decode cX11_tryRest 77 = .ok (.iaload, 1) := by decide +kernel
theorem dX11_tryRest_78 : decode cX11_tryRest 78 = .ok (.iadd, 1) := by decide +kernel
theorem dX11_tryRest_79 : decode cX11_tryRest 79 = .ok (.istore 4, 2) := by decide +kernel
theorem dX11_tryRest_81 : decode cX11_tryRest 81 = .ok (.iinc 5 (-1), 3) := by decide +kernel
theorem dX11_tryRest_84 : decode cX11_tryRest 84 = .ok (.goto (-76), 3) := by decide +kernel
theorem dX11_tryRest_87 : decode cX11_tryRest 87 = .ok (.iload_n 3, 1) := by decide +kernel
theorem dX11_tryRest_88 : decode cX11_tryRest 88 = .ok (.ifCond .ne 59, 3) := by decide +kernel
theorem dX11_tryRest_91 : decode cX11_tryRest 91 = .ok (.aload_n 0, 1) := by decide +kernel
theorem dX11_tryRest_92 : decode cX11_tryRest 92 = .ok (.getfield 204, 3) := by decide +kernel
theorem dX11_tryRest_95 : decode cX11_tryRest 95 = .ok (.bipush (-9), 2) := by decide +kernel
theorem dX11_tryRest_97 : decode cX11_tryRest 97 = .ok (.if_icmp .eq 12, 3) := by decide +kernel
theorem dX11_tryRest_100 : decode cX11_tryRest 100 = .ok (.iload 4, 2) := by decide +kernel
theorem dX11_tryRest_102 : decode cX11_tryRest 102 = .ok (.aload_n 0, 1) := by decide +kernel
theorem dX11_tryRest_103 : decode cX11_tryRest 103 = .ok (.getfield 204, 3) := by decide +kernel
theorem dX11_tryRest_106 : decode cX11_tryRest 106 = .ok (.if_icmp .ge 41, 3) := by decide +kernel
theorem dX11_tryRest_109 : decode cX11_tryRest 109 = .ok (.aload_n 0, 1) := by decide +kernel
theorem dX11_tryRest_110 : decode cX11_tryRest 110 = .ok (.iload 4, 2) := by decide +kernel
theorem dX11_tryRest_112 : decode cX11_tryRest 112 = .ok (.putfield 204, 3) := by decide +kernel
theorem dX11_tryRest_115 : decode cX11_tryRest 115 = .ok (.iconst 0, 1) := by decide +kernel
theorem dX11_tryRest_116 : decode cX11_tryRest 116 = .ok (.istore 5, 2) := by decide +kernel
theorem dX11_tryRest_118 : decode cX11_tryRest 118 = .ok (.iload 5, 2) := by decide +kernel
theorem dX11_tryRest_120 : decode cX11_tryRest 120 = .ok (.bipush 6, 2) := by decide +kernel
theorem dX11_tryRest_122 : decode cX11_tryRest 122 = .ok (.if_icmp .ge 23, 3) := by decide +kernel
theorem dX11_tryRest_125 : decode cX11_tryRest 125 = .ok (.aload_n 0, 1) := by decide +kernel
theorem dX11_tryRest_126 : decode cX11_tryRest 126 = .ok (.getfield 119, 3) := by decide +kernel
theorem dX11_tryRest_129 : decode cX11_tryRest 129 = .ok (.iload 5, 2) := by decide +kernel
theorem dX11_tryRest_131 : decode cX11_tryRest 131 = .ok (.aload_n 0, 1) := by decide +kernel
theorem dX11_tryRest_132 : decode cX11_tryRest 132 = .ok (.getfield 122, 3) := by decide +kernel
theorem dX11_tryRest_135 : decode cX11_tryRest 135 = .ok (.iload 5, 2) := by decide +kernel
theorem dX11_tryRest_137 : decode cX11_tryRest 137 = .ok (.iaload, 1) := by decide +kernel
theorem dX11_tryRest_138 : decode cX11_tryRest 138 = .ok (.iastore, 1) := by decide +kernel
theorem dX11_tryRest_139 : decode cX11_tryRest 139 = .ok (.iinc 5 1, 3) := by decide +kernel
theorem dX11_tryRest_142 : decode cX11_tryRest 142 = .ok (.goto (-24), 3) := by decide +kernel
theorem dX11_tryRest_145 : decode cX11_tryRest 145 = .ok (.iconst 1, 1) := by decide +kernel
theorem dX11_tryRest_146 : decode cX11_tryRest 146 = .ok (.ireturn, 1) := by decide +kernel
theorem dX11_tryRest_147 : decode cX11_tryRest 147 = .ok (.iconst 0, 1) := by decide +kernel
theorem dX11_tryRest_148 : decode cX11_tryRest 148 = .ok (.ireturn, 1) := by decide +kernel
theorem dX11_layChange_0 : decode cX11_layChange 0 = .ok (.aload_n 0, 1) := by decide +kernel
theorem dX11_layChange_1 : decode cX11_layChange 1 = .ok (.bipush (-9), 2) := by decide +kernel
theorem dX11_layChange_3 : decode cX11_layChange 3 = .ok (.putfield 204, 3) := by decide +kernel
theorem dX11_layChange_6 : decode cX11_layChange 6 = .ok (.iload_n 1, 1) := by decide +kernel
theorem dX11_layChange_7 : decode cX11_layChange 7 = .ok (.bipush 60, 2) := by decide +kernel
theorem dX11_layChange_9 : decode cX11_layChange 9 = .ok (.idiv, 1) := by decide +kernel
theorem dX11_layChange_10 : decode cX11_layChange 10 = .ok (.aload_n 0, 1) := by decide +kernel
theorem dX11_layChange_11 : decode cX11_layChange 11 = .ok (.getfield 80, 3) := by decide +kernel
theorem dX11_layChange_14 : decode cX11_layChange 14 = .ok (.iconst 5, 1) := by decide +kernel
theorem dX11_layChange_15 : decode cX11_layChange 15 = .ok (.iaload, 1) := by decide +kernel
theorem dX11_layChange_16 : decode cX11_layChange 16 = .ok (.if_icmp .ge 10, 3) := by decide +kernel
theorem dX11_layChange_19 : decode cX11_layChange 19 = .ok (.iload_n 1, 1) := by decide +kernel
theorem dX11_layChange_20 : decode cX11_layChange 20 = .ok (.bipush 60, 2) := by decide +kernel
theorem dX11_layChange_22 : decode cX11_layChange 22 = .ok (.idiv, 1) := by decide +kernel
theorem dX11_layChange_23 : decode cX11_layChange 23 = .ok (.goto 9, 3) := by decide +kernel
theorem dX11_layChange_26 : decode cX11_layChange 26 = .ok (.aload_n 0, 1) := by decide +kernel
theorem dX11_layChange_27 : decode cX11_layChange 27 = .ok (.getfield 80, 3) := by decide +kernel
theorem dX11_layChange_30 : decode cX11_layChange 30 = .ok (.iconst 5, 1) := by decide +kernel
theorem dX11_layChange_31 : decode cX11_layChange 31 = .ok (.iaload, 1) := by decide +kernel
theorem dX11_layChange_32 : decode cX11_layChange 32 = .ok (.istore_n 2, 1) := by decide +kernel
theorem dX11_layChange_33 : decode cX11_layChange 33 = .ok (.iload_n 2, 1) := by decide +kernel
theorem dX11_layChange_34 : decode cX11_layChange 34 = .ok (.istore_n 3, 1) := by decide +kernel
theorem dX11_layChange_35 : decode cX11_layChange 35 = .ok (.iload_n 3, 1) := by decide +kernel
theorem dX11_layChange_36 : decode cX11_layChange 36 = .ok (.ifCond .lt 95, 3) := by decide +kernel
theorem dX11_layChange_39 : decode cX11_layChange 39 = .ok (.iload_n 1, 1) := by decide +kernel
theorem dX11_layChange_40 : decode cX11_layChange 40 = .ok (.bipush 60, 2) := by decide +kernel
theorem dX11_layChange_42 : decode cX11_layChange 42 = .ok (.iload_n 3, 1) := by decide +kernel
theorem dX11_layChange_43 : decode cX11_layChange 43 = .ok (.imul, 1) := by decide +kernel
theorem dX11_layChange_44 : decode cX11_layChange 44 = .ok (.isub, 1) := by decide +kernel
theorem dX11_layChange_45 : decode cX11_layChange 45 = .ok (.istore 4, 2) := by decide +kernel
theorem dX11_layChange_47 : decode cX11_layChange 47 = .ok (.iload 4, 2) := by decide +kernel
theorem dX11_layChange_49 : decode cX11_layChange 49 = .ok (.bipush 30, 2) := by decide +kernel
theorem dX11_layChange_51 : decode cX11_layChange 51 = .ok (.idiv, 1) := by decide +kernel
theorem dX11_layChange_52 : decode cX11_layChange 52 = .ok (.aload_n 0, 1) := by decide +kernel
theorem dX11_layChange_53 : decode cX11_layChange 53 = .ok (.getfield 80, 3) := by decide +kernel
theorem dX11_layChange_56 : decode cX11_layChange 56 = .ok (.iconst 4, 1) := by decide +kernel
theorem dX11_layChange_57 : decode cX11_layChange 57 = .ok (.iaload, 1) := by decide +kernel
theorem dX11_layChange_58 : decode cX11_layChange 58 = .ok (.if_icmp .ge 11, 3) := by decide +kernel
theorem dX11_layChange_61 : decode cX11_layChange 61 = .ok (.iload 4, 2) := by decide +kernel
theorem dX11_layChange_63 : decode cX11_layChange 63 = .ok (.bipush 30, 2) := by decide +kernel
theorem dX11_layChange_65 : decode cX11_layChange 65 = .ok (.idiv, 1) := by decide +kernel
theorem dX11_layChange_66 : decode cX11_layChange 66 = .ok (.goto 9, 3) := by decide +kernel
theorem dX11_layChange_69 : decode cX11_layChange 69 = .ok (.aload_n 0, 1) := by decide +kernel
theorem dX11_layChange_70 : decode cX11_layChange 70 = .ok (.getfield 80, 3) := by decide +kernel
theorem dX11_layChange_73 : decode cX11_layChange 73 = .ok (.iconst 4, 1) := by decide +kernel
theorem dX11_layChange_74 : decode cX11_layChange 74 = .ok (.iaload, 1) := by decide +kernel
theorem dX11_layChange_75 : decode cX11_layChange 75 = .ok (.istore 5, 2) := by decide +kernel
theorem dX11_layChange_77 : decode cX11_layChange 77 = .ok (.iload 5, 2) := by decide +kernel
theorem dX11_layChange_79 : decode cX11_layChange 79 = .ok (.istore 6, 2) := by decide +kernel
theorem dX11_layChange_81 : decode cX11_layChange 81 = .ok (.iload 6, 2) := by decide +kernel
theorem dX11_layChange_83 : decode cX11_layChange 83 = .ok (.ifCond .lt 42, 3) := by decide +kernel
theorem dX11_layChange_86 : decode cX11_layChange 86 = .ok (.aload_n 0, 1) := by decide +kernel
theorem dX11_layChange_87 : decode cX11_layChange 87 = .ok (.getfield 122, 3) := by decide +kernel
theorem dX11_layChange_90 : decode cX11_layChange 90 = .ok (.iconst 5, 1) := by decide +kernel
theorem dX11_layChange_91 : decode cX11_layChange 91 = .ok (.iload_n 3, 1) := by decide +kernel
theorem dX11_layChange_92 : decode cX11_layChange 92 = .ok (.iastore, 1) := by decide +kernel
theorem dX11_layChange_93 : decode cX11_layChange 93 = .ok (.aload_n 0, 1) := by decide +kernel
theorem dX11_layChange_94 : decode cX11_layChange 94 = .ok (.getfield 122, 3) := by decide +kernel
theorem dX11_layChange_97 : decode cX11_layChange 97 = .ok (.iconst 4, 1) := by decide +kernel
theorem dX11_layChange_98 : decode cX11_layChange 98 = .ok (.iload 6, 2) := by decide +kernel
theorem dX11_layChange_100 : decode cX11_layChange 100 = .ok (.iastore, 1) := by decide +kernel
theorem dX11_layChange_101 : decode cX11_layChange 101 = .ok (.aload_n 0, 1) := by decide +kernel
theorem dX11_layChange_102 : decode cX11_layChange 102 = .ok (.iload 4, 2) := by decide +kernel
theorem dX11_layChange_104 : decode cX11_layChange 104 = .ok (.bipush 30, 2) := by decide +kernel
theorem dX11_layChange_106 : decode cX11_layChange 106 = .ok (.iload 6, 2) := by decide +kernel
theorem dX11_layChange_108 : decode cX11_layChange 108 = .ok (.imul, 1) := by decide +kernel
theorem dX11_layChange_109 : decode cX11_layChange 109 = .ok (.isub, 1) := by decide +kernel
theorem dX11_layChange_110 : decode cX11_layChange 110 = .ok (.iload_n 3, 1) := by decide +kernel
theorem dX11_layChange_111 : decode cX11_layChange 111 = .ok (.iload 6, 2) := by decide +kernel
theorem dX11_layChange_113 : decode cX11_layChange 113 = .ok (.iadd, 1) := by decide +kernel
theorem dX11_layChange_114 : decode cX11_layChange 114 = .ok (.invokevirtual 207, 3) := by decide +kernel
theorem dX11_layChange_117 : decode cX11_layChange 117 = .ok (.istore 7, 2) := by decide +kernel
theorem dX11_layChange_119 : decode cX11_layChange 119 = .ok (.iinc 6 (-1), 3) := by decide +kernel
theorem dX11_layChange_122 : decode cX11_layChange 122 = .ok (.goto (-41), 3) := by decide +kernel
theorem dX11_layChange_125 : decode cX11_layChange 125 = .ok (.iinc 3 (-1), 3) := by decide +kernel
theorem dX11_layChange_128 : decode cX11_layChange 128 = .ok (.goto (-93), 3) := by decide +kernel
theorem dX11_layChange_131 : decode cX11_layChange 131 = .ok (.return_, 1) := by decide +kernel
theorem dX11_till_0 : decode cX11_till 0 = .ok (.iload_n 1, 1) := by decide +kernel
theorem dX11_till_1 : decode cX11_till 1 = .ok (.iconst 0, 1) := by decide +kernel
theorem dX11_till_2 : decode cX11_till 2 = .ok (.bipush 6, 2) := by decide +kernel
theorem dX11_till_4 : decode cX11_till 4 = .ok (.invokestatic 147, 3) := by decide +kernel
theorem dX11_till_7 : decode cX11_till 7 = .ok (.ifCond .ne 6, 3) := by decide +kernel
theorem dX11_till_10 : decode cX11_till 10 = .ok (.bipush (-2), 2) := by decide +kernel
theorem dX11_till_12 : decode cX11_till 12 = .ok (.ireturn, 1) := by decide +kernel
theorem dX11_till_13 : decode cX11_till 13 = .ok (.iconst 0, 1) := by decide +kernel
theorem dX11_till_14 : decode cX11_till 14 = .ok (.istore_n 2, 1) := by decide +kernel
theorem dX11_till_15 : decode cX11_till 15 = .ok (.iconst 0, 1) := by decide +kernel
theorem dX11_till_16 : decode cX11_till 16 = .ok (.istore_n 3, 1) := by decide +kernel
theorem dX11_till_17 : decode cX11_till 17 = .ok (.iload_n 3, 1) := by decide +kernel
theorem dX11_till_18 : decode cX11_till 18 = .ok (.bipush 6, 2) := by decide +kernel
theorem dX11_till_20 : decode cX11_till 20 = .ok (.if_icmp .ge 23, 3) := by decide +kernel
theorem dX11_till_23 : decode cX11_till 23 = .ok (.iload_n 2, 1) := by decide +kernel
theorem dX11_till_24 : decode cX11_till 24 = .ok (.aload_n 0, 1) := by decide +kernel
theorem dX11_till_25 : decode cX11_till 25 = .ok (.getfield 80, 3) := by decide +kernel
theorem dX11_till_28 : decode cX11_till 28 = .ok (.iload_n 3, 1) := by decide +kernel
theorem dX11_till_29 : decode cX11_till 29 = .ok (.iaload, 1) := by decide +kernel
theorem dX11_till_30 : decode cX11_till 30 = .ok (.iload_n 3, 1) := by decide +kernel
theorem dX11_till_31 : decode cX11_till 31 = .ok (.invokestatic 176, 3) := by decide +kernel
theorem dX11_till_34 : decode cX11_till 34 = .ok (.imul, 1) := by decide +kernel
theorem dX11_till_35 : decode cX11_till 35 = .ok (.iadd, 1) := by decide +kernel
theorem dX11_till_36 : decode cX11_till 36 = .ok (.istore_n 2, 1) := by decide +kernel
theorem dX11_till_37 : decode cX11_till 37 = .ok (.iinc 3 1, 3) := by decide +kernel
theorem dX11_till_40 : decode cX11_till 40 = .ok (.goto (-23), 3) := by decide +kernel
theorem dX11_till_43 : decode cX11_till 43 = .ok (.iload_n 1, 1) := by decide +kernel
theorem dX11_till_44 : decode cX11_till 44 = .ok (.bipush 6, 2) := by decide +kernel
theorem dX11_till_46 : decode cX11_till 46 = .ok (.if_icmp .ne 7, 3) := by decide +kernel
theorem dX11_till_49 : decode cX11_till 49 = .ok (.iload_n 2, 1) := by decide +kernel
theorem dX11_till_50 : decode cX11_till 50 = .ok (.goto 9, 3) := by decide +kernel
theorem dX11_till_53 : decode cX11_till 53 = .ok (.aload_n 0, 1) := by decide +kernel
theorem dX11_till_54 : decode cX11_till 54 = .ok (.getfield 80, 3) := by decide +kernel
theorem dX11_till_57 : decode cX11_till 57 = .ok (.iload_n 1, 1) := by decide +kernel
theorem dX11_till_58 : decode cX11_till 58 = .ok (.iaload, 1) := by decide +kernel
theorem dX11_till_59 : decode cX11_till 59 = .ok (.ireturn, 1) := by decide +kernel
theorem dX11_could_0 : decode cX11_could 0 = .ok (.iload_n 1, 1) := by decide +kernel
theorem dX11_could_1 : decode cX11_could 1 = .ok (.iconst 0, 1) := by decide +kernel
theorem dX11_could_2 : decode cX11_could 2 = .ok (.sipush 3000, 3) := by decide +kernel
theorem dX11_could_5 : decode cX11_could 5 = .ok (.invokestatic 147, 3) := by decide +kernel
theorem dX11_could_8 : decode cX11_could 8 = .ok (.ifCond .ne 6, 3) := by decide +kernel
theorem dX11_could_11 : decode cX11_could 11 = .ok (.bipush (-2), 2) := by decide +kernel
theorem dX11_could_13 : decode cX11_could 13 = .ok (.ireturn, 1) := by decide +kernel
theorem dX11_could_14 : decode cX11_could 14 = .ok (.aload_n 0, 1) := by decide +kernel
theorem dX11_could_15 : decode cX11_could 15 = .ok (.iload_n 1, 1) := by decide +kernel
theorem dX11_could_16 : decode cX11_could 16 = .ok (.invokevirtual 210, 3) := by decide +kernel
theorem dX11_could_19 : decode cX11_could 19 = .ok (.aload_n 0, 1) := by decide +kernel
theorem dX11_could_20 : decode cX11_could 20 = .ok (.getfield 204, 3) := by decide +kernel
theorem dX11_could_23 : decode cX11_could 23 = .ok (.ireturn, 1) := by decide +kernel
theorem dX11_gives_0 : decode cX11_gives 0 = .ok (.iload_n 1, 1) := by decide +kernel
theorem dX11_gives_1 : decode cX11_gives 1 = .ok (.iconst 0, 1) := by decide +kernel
theorem dX11_gives_2 : decode cX11_gives 2 = .ok (.sipush 3000, 3) := by decide +kernel
theorem dX11_gives_5 : decode cX11_gives 5 = .ok (.invokestatic 147, 3) := by decide +kernel
theorem dX11_gives_8 : decode cX11_gives 8 = .ok (.ifCond .eq 12, 3) := by decide +kernel
theorem dX11_gives_11 : decode cX11_gives 11 = .ok (.iload_n 2, 1) := by decide +kernel
theorem dX11_gives_12 : decode cX11_gives 12 = .ok (.iconst 0, 1) := by decide +kernel
theorem dX11_gives_13 : decode cX11_gives 13 = .ok (.iconst 5, 1) := by decide +kernel
theorem dX11_gives_14 : decode cX11_gives 14 = .ok (.invokestatic 147, 3) := by decide +kernel
theorem dX11_gives_17 : decode cX11_gives 17 = .ok (.ifCond .ne 6, 3) := by decide +kernel
theorem dX11_gives_20 : decode cX11_gives 20 = .ok (.bipush (-2), 2) := by decide +kernel
theorem dX11_gives_22 : decode cX11_gives 22 = .ok (.ireturn, 1) := by decide +kernel
theorem dX11_gives_23 : decode cX11_gives 23 = .ok (.aload_n 0, 1) := by decide +kernel
theorem dX11_gives_24 : decode cX11_gives 24 = .ok (.iload_n 1, 1) := by decide +kernel
theorem dX11_gives_25 : decode cX11_gives 25 = .ok (.invokevirtual 210, 3) := by decide +kernel
theorem dX11_gives_28 : decode cX11_gives 28 = .ok (.aload_n 0, 1) := by decide +kernel
theorem dX11_gives_29 : decode cX11_gives 29 = .ok (.getfield 204, 3) := by decide +kernel
theorem dX11_gives_32 : decode cX11_gives 32 = .ok (.bipush (-9), 2) := by decide +kernel
theorem dX11_gives_34 : decode cX11_gives 34 = .ok (.if_icmp .ne 8, 3) := by decide +kernel
theorem dX11_gives_37 : decode cX11_gives 37 = .ok (.bipush (-9), 2) := by decide +kernel
theorem dX11_gives_39 : decode cX11_gives 39 = .ok (.goto 9, 3) := by decide +kernel
theorem dX11_gives_42 : decode cX11_gives 42 = .ok (.aload_n 0, 1) := by decide +kernel
theorem dX11_gives_43 : decode cX11_gives 43 = .ok (.getfield 119, 3) := by decide +kernel
theorem dX11_gives_46 : decode cX11_gives 46 = .ok (.iload_n 2, 1) := by decide +kernel
theorem dX11_gives_47 : decode cX11_gives 47 = .ok (.iaload, 1) := by decide +kernel
theorem dX11_gives_48 : decode cX11_gives 48 = .ok (.ireturn, 1) := by decide +kernel
theorem dX11_ring_0 : decode cX11_ring 0 = .ok (.aload_n 0, 1) := by decide +kernel
theorem dX11_ring_1 : decode cX11_ring 1 = .ok (.getfield 38, 3) := by decide +kernel
theorem dX11_ring_4 : decode cX11_ring 4 = .ok (.iload_n 1, 1) := by decide +kernel
theorem dX11_ring_5 : decode cX11_ring 5 = .ok (.baload, 1) := by decide +kernel
theorem dX11_ring_6 : decode cX11_ring 6 = .ok (.ifCond .eq 4, 3) := by decide +kernel
theorem dX11_ring_9 : decode cX11_ring 9 = .ok (.return_, 1) := by decide +kernel
theorem dX11_ring_10 : decode cX11_ring 10 = .ok (.aload_n 0, 1) := by decide +kernel
theorem dX11_ring_11 : decode cX11_ring 11 = .ok (.getfield 214, 3) := by decide +kernel
theorem dX11_ring_14 : decode cX11_ring 14 = .ok (.sipush 300, 3) := by decide +kernel
theorem dX11_ring_17 : decode cX11_ring 17 = .ok (.if_icmp .ne 43, 3) := by decide +kernel
theorem dX11_ring_20 : decode cX11_ring 20 = .ok (.aload_n 0, 1) := by decide +kernel
theorem dX11_ring_21 : decode cX11_ring 21 = .ok (.getfield 125, 3) := by decide +kernel
theorem dX11_ring_24 : decode cX11_ring 24 = .ok (.aload_n 0, 1) := by decide +kernel
theorem dX11_ring_25 : decode cX11_ring 25 = .ok (.getfield 217, 3) := by decide +kernel
theorem dX11_ring_28 : decode cX11_ring 28 = .ok (.iload_n 1, 1) := by decide +kernel
theorem dX11_ring_29 : decode cX11_ring 29 = .ok (.iastore, 1) := by decide +kernel
theorem dX11_ring_30 : decode cX11_ring 30 = .ok (.aload_n 0, 1) := by decide +kernel
theorem dX11_ring_31 : decode cX11_ring 31 = .ok (.getfield 128, 3) := by decide +kernel
theorem dX11_ring_34 : decode cX11_ring 34 = .ok (.aload_n 0, 1) := by decide +kernel
theorem dX11_ring_35 : decode cX11_ring 35 = .ok (.getfield 217, 3) := by decide +kernel
theorem dX11_ring_38 : decode cX11_ring 38 = .ok (.aload_n 0, 1) := by decide +kernel
theorem dX11_ring_39 : decode cX11_ring 39 = .ok (.getfield 170, 3) := by decide +kernel
theorem dX11_ring_42 : decode cX11_ring 42 = .ok (.iastore, 1) := by decide +kernel
theorem dX11_ring_43 : decode cX11_ring 43 = .ok (.aload_n 0, 1) := by decide +kernel
theorem dX11_ring_44 : decode cX11_ring 44 = .ok (.aload_n 0, 1) := by decide +kernel
theorem dX11_ring_45 : decode cX11_ring 45 = .ok (.getfield 217, 3) := by decide +kernel
theorem dX11_ring_48 : decode cX11_ring 48 = .ok (.iconst 1, 1) := by decide +kernel
theorem dX11_ring_49 : decode cX11_ring 49 = .ok (.iadd, 1) := by decide +kernel
theorem dX11_ring_50 : decode cX11_ring 50 = .ok (.sipush 300, 3) := by decide +kernel
theorem dX11_ring_53 : decode cX11_ring 53 = .ok (.irem, 1) := by decide +kernel
theorem dX11_ring_54 : decode cX11_ring 54 = .ok (.putfield 217, 3) := by decide +kernel
theorem dX11_ring_57 : decode cX11_ring 57 = .ok (.goto 36, 3) := by decide +kernel
theorem dX11_ring_60 : decode cX11_ring 60 = .ok (.aload_n 0, 1) := by decide +kernel
theorem dX11_ring_61 : decode cX11_ring 61 = .ok (.getfield 125, 3) := by decide +kernel
theorem dX11_ring_64 : decode cX11_ring 64 = .ok (.aload_n 0, 1) := by decide +kernel
theorem dX11_ring_65 : decode cX11_ring 65 = .ok (.getfield 214, 3) := by decide +kernel
theorem dX11_ring_68 : decode cX11_ring 68 = .ok (.iload_n 1, 1) := by decide +kernel
theorem dX11_ring_69 : decode cX11_ring 69 = .ok (.iastore, 1) := by decide +kernel
theorem dX11_ring_70 : decode cX11_ring 70 = .ok (.aload_n 0, 1) := by decide +kernel
theorem dX11_ring_71 : decode cX11_ring 71 = .ok (.getfield 128, 3) := by decide +kernel
theorem dX11_ring_74 : decode cX11_ring 74 = .ok (.aload_n 0, 1) := by decide +kernel
theorem dX11_ring_75 : decode cX11_ring 75 = .ok (.getfield 214, 3) := by decide +kernel
theorem dX11_ring_78 : decode cX11_ring 78 = .ok (.aload_n 0, 1) := by decide +kernel
theorem dX11_ring_79 : decode cX11_ring 79 = .ok (.getfield 170, 3) := by decide +kernel
theorem dX11_ring_82 : decode cX11_ring 82 = .ok (.iastore, 1) := by decide +kernel
theorem dX11_ring_83 : decode cX11_ring 83 = .ok (.aload_n 0, 1) := by decide +kernel
theorem dX11_ring_84 : decode cX11_ring 84 = .ok (.dup, 1) := by decide +kernel
theorem dX11_ring_85 : decode cX11_ring 85 = .ok (.getfield 214, 3) := by decide +kernel
theorem dX11_ring_88 : decode cX11_ring 88 = .ok (.iconst 1, 1) := by decide +kernel
theorem dX11_ring_89 : decode cX11_ring 89 = .ok (.iadd, 1) := by decide +kernel
theorem dX11_ring_90 : decode cX11_ring 90 = .ok (.putfield 214, 3) := by decide +kernel
theorem dX11_ring_93 : decode cX11_ring 93 = .ok (.return_, 1) := by decide +kernel
theorem dX11_rightChild_0 : decode cX11_rightChild 0 = .ok (.bipush (-9), 2) := by decide +kernel
theorem dX11_rightChild_2 : decode cX11_rightChild 2 = .ok (.istore_n 3, 1) := by decide +kernel
theorem dX11_rightChild_3 : decode cX11_rightChild 3 = .ok (.aload_n 0, 1) := by decide +kernel
theorem dX11_rightChild_4 : decode cX11_rightChild 4 = .ok (.getfield 143, 3) := by decide +kernel
theorem dX11_rightChild_7 : decode cX11_rightChild 7 = .ok (.iconst 1, 1) := by decide +kernel
theorem dX11_rightChild_8 : decode cX11_rightChild 8 = .ok (.isub, 1) := by decide +kernel
theorem dX11_rightChild_9 : decode cX11_rightChild 9 = .ok (.istore 4, 2) := by decide +kernel
theorem dX11_rightChild_11 : decode cX11_rightChild 11 = .ok (.iload 4, 2) := by decide +kernel
theorem dX11_rightChild_13 : decode cX11_rightChild 13 = .ok (.ifCond .le 36, 3) := by decide +kernel
theorem dX11_rightChild_16 : decode cX11_rightChild 16 = .ok (.aload_n 0, 1) := by decide +kernel
theorem dX11_rightChild_17 : decode cX11_rightChild 17 = .ok (.getfield 7, 3) := by decide +kernel
theorem dX11_rightChild_20 : decode cX11_rightChild 20 = .ok (.iload 4, 2) := by decide +kernel
theorem dX11_rightChild_22 : decode cX11_rightChild 22 = .ok (.iaload, 1) := by decide +kernel
theorem dX11_rightChild_23 : decode cX11_rightChild 23 = .ok (.iload_n 1, 1) := by decide +kernel
theorem dX11_rightChild_24 : decode cX11_rightChild 24 = .ok (.if_icmp .ne 19, 3) := by decide +kernel
theorem dX11_rightChild_27 : decode cX11_rightChild 27 = .ok (.aload_n 0, 1) := by decide +kernel
theorem dX11_rightChild_28 : decode cX11_rightChild 28 = .ok (.iload_n 2, 1) := by decide +kernel
theorem dX11_rightChild_29 : decode cX11_rightChild 29 = .ok (.iload 4, 2) := by decide +kernel
theorem dX11_rightChild_31 : decode cX11_rightChild 31 = .ok (.invokevirtual 187, 3) := by decide +kernel
theorem dX11_rightChild_34 : decode cX11_rightChild 34 = .ok (.ifCond .eq 6, 3) := by decide +kernel
theorem dX11_rightChild_37 : decode cX11_rightChild 37 = .ok (.iload 4, 2) := by decide +kernel
theorem dX11_rightChild_39 : decode cX11_rightChild 39 = .ok (.ireturn, 1) := by decide +kernel
theorem dX11_rightChild_40 : decode cX11_rightChild 40 = .ok (.iload 4, 2) := by decide +kernel
theorem dX11_rightChild_42 : decode cX11_rightChild 42 = .ok (.istore_n 3, 1) := by decide +kernel
theorem dX11_rightChild_43 : decode cX11_rightChild 43 = .ok (.iinc 4 (-1), 3) := by decide +kernel
theorem dX11_rightChild_46 : decode cX11_rightChild 46 = .ok (.goto (-35), 3) := by decide +kernel
theorem dX11_rightChild_49 : decode cX11_rightChild 49 = .ok (.iload_n 3, 1) := by decide +kernel
theorem dX11_rightChild_50 : decode cX11_rightChild 50 = .ok (.ireturn, 1) := by decide +kernel
theorem dX11_nextChild_0 : decode cX11_nextChild 0 = .ok (.iload_n 2, 1) := by decide +kernel
theorem dX11_nextChild_1 : decode cX11_nextChild 1 = .ok (.istore_n 3, 1) := by decide +kernel
theorem dX11_nextChild_2 : decode cX11_nextChild 2 = .ok (.iconst 0, 1) := by decide +kernel
theorem dX11_nextChild_3 : decode cX11_nextChild 3 = .ok (.istore 4, 2) := by decide +kernel
theorem dX11_nextChild_5 : decode cX11_nextChild 5 = .ok (.iload 4, 2) := by decide +kernel
theorem dX11_nextChild_7 : decode cX11_nextChild 7 = .ok (.aload_n 0, 1) := by decide +kernel
theorem dX11_nextChild_8 : decode cX11_nextChild 8 = .ok (.getfield 143, 3) := by decide +kernel
theorem dX11_nextChild_11 : decode cX11_nextChild 11 = .ok (.if_icmp .ge 39, 3) := by decide +kernel
theorem dX11_nextChild_14 : decode cX11_nextChild 14 = .ok (.iload_n 3, 1) := by decide +kernel
theorem dX11_nextChild_15 : decode cX11_nextChild 15 = .ok (.iconst 1, 1) := by decide +kernel
theorem dX11_nextChild_16 : decode cX11_nextChild 16 = .ok (.iadd, 1) := by decide +kernel
theorem dX11_nextChild_17 : decode cX11_nextChild 17 = .ok (.aload_n 0, 1) := by decide +kernel
theorem dX11_nextChild_18 : decode cX11_nextChild 18 = .ok (.getfield 143, 3) := by decide +kernel
theorem dX11_nextChild_21 : decode cX11_nextChild 21 = .ok (.if_icmp .lt 7, 3) := by decide +kernel
theorem dX11_nextChild_24 : decode cX11_nextChild 24 = .ok (.iconst 1, 1) := by decide +kernel
theorem dX11_nextChild_25 : decode cX11_nextChild 25 = .ok (.goto 6, 3) := by decide +kernel
theorem dX11_nextChild_28 : decode cX11_nextChild 28 = .ok (.iload_n 3, 1) := by decide +kernel
theorem dX11_nextChild_29 : decode cX11_nextChild 29 = .ok (.iconst 1, 1) := by decide +kernel
theorem dX11_nextChild_30 : decode cX11_nextChild 30 = .ok (.iadd, 1) := by decide +kernel
theorem dX11_nextChild_31 : decode cX11_nextChild 31 = .ok (.istore_n 3, 1) := by decide +kernel
theorem dX11_nextChild_32 : decode cX11_nextChild 32 = .ok (.aload_n 0, 1) := by decide +kernel
theorem dX11_nextChild_33 : decode cX11_nextChild 33 = .ok (.getfield 7, 3) := by decide +kernel
theorem dX11_nextChild_36 : decode cX11_nextChild 36 = .ok (.iload_n 3, 1) := by decide +kernel
theorem dX11_nextChild_37 : decode cX11_nextChild 37 = .ok (.iaload, 1) := by decide +kernel
theorem dX11_nextChild_38 : decode cX11_nextChild 38 = .ok (.iload_n 1, 1) := by decide +kernel
theorem dX11_nextChild_39 : decode cX11_nextChild 39 = .ok (.if_icmp .ne 5, 3) := by decide +kernel
theorem dX11_nextChild_42 : decode cX11_nextChild 42 = .ok (.iload_n 3, 1) := by decide +kernel
theorem dX11_nextChild_43 : decode cX11_nextChild 43 = .ok (.ireturn, 1) := by decide +kernel
theorem dX11_nextChild_44 : decode cX11_nextChild 44 = .ok (.iinc 4 1, 3) := by decide +kernel
theorem dX11_nextChild_47 : decode cX11_nextChild 47 = .ok (.goto (-42), 3) := by decide +kernel
theorem dX11_nextChild_50 : decode cX11_nextChild 50 = .ok (.iload_n 2, 1) := by decide +kernel
theorem dX11_nextChild_51 : decode cX11_nextChild 51 = .ok (.ireturn, 1) := by decide +kernel
theorem dX11_comeHome_0 : decode cX11_comeHome 0 = .ok (.aload_n 0, 1) := by decide +kernel
theorem dX11_comeHome_1 : decode cX11_comeHome 1 = .ok (.getfield 47, 3) := by decide +kernel
theorem dX11_comeHome_4 : decode cX11_comeHome 4 = .ok (.iload_n 1, 1) := by decide +kernel
theorem dX11_comeHome_5 : decode cX11_comeHome 5 = .ok (.iaload, 1) := by decide +kernel
theorem dX11_comeHome_6 : decode cX11_comeHome 6 = .ok (.istore_n 2, 1) := by decide +kernel
theorem dX11_comeHome_7 : decode cX11_comeHome 7 = .ok (.aload_n 0, 1) := by decide +kernel
theorem dX11_comeHome_8 : decode cX11_comeHome 8 = .ok (.iload_n 1, 1) := by decide +kernel
theorem dX11_comeHome_9 : decode cX11_comeHome 9 = .ok (.invokevirtual 201, 3) := by decide +kernel
theorem dX11_comeHome_12 : decode cX11_comeHome 12 = .ok (.istore_n 3, 1) := by decide +kernel
theorem dX11_comeHome_13 : decode cX11_comeHome 13 = .ok (.aload_n 0, 1) := by decide +kernel
theorem dX11_comeHome_14 : decode cX11_comeHome 14 = .ok (.dup, 1) := by decide +kernel
theorem dX11_comeHome_15 : decode cX11_comeHome 15 = .ok (.getfield 220, 3) := by decide +kernel
theorem dX11_comeHome_18 : decode cX11_comeHome 18 = .ok (.iload_n 3, 1) := by decide +kernel
theorem dX11_comeHome_19 : decode cX11_comeHome 19 = .ok (.iadd, 1) := by decide +kernel
theorem dX11_comeHome_20 : decode cX11_comeHome 20 = .ok (.putfield 220, 3) := by decide +kernel
theorem dX11_comeHome_23 : decode cX11_comeHome 23 = .ok (.aload_n 0, 1) := by decide +kernel
theorem dX11_comeHome_24 : decode cX11_comeHome 24 = .ok (.getfield 95, 3) := by decide +kernel
theorem dX11_comeHome_27 : decode cX11_comeHome 27 = .ok (.iload_n 2, 1) := by decide +kernel
theorem dX11_comeHome_28 : decode cX11_comeHome 28 = .ok (.dup2, 1) := by decide +kernel
theorem dX11_comeHome_29 : decode cX11_comeHome 29 = .ok (.iaload, 1) := by decide +kernel
theorem dX11_comeHome_30 : decode cX11_comeHome 30 = .ok (.iload_n 3, 1) := by decide +kernel
theorem dX11_comeHome_31 : decode cX11_comeHome 31 = .ok (.iadd, 1) := by decide +kernel
theorem dX11_comeHome_32 : decode cX11_comeHome 32 = .ok (.iastore, 1) := by decide +kernel
theorem dX11_comeHome_33 : decode cX11_comeHome 33 = .ok (.iconst 0, 1) := by decide +kernel
theorem dX11_comeHome_34 : decode cX11_comeHome 34 = .ok (.istore 4, 2) := by decide +kernel
theorem dX11_comeHome_36 : decode cX11_comeHome 36 = .ok (.iload 4, 2) := by decide +kernel
theorem dX11_comeHome_38 : decode cX11_comeHome 38 = .ok (.bipush 6, 2) := by decide +kernel
theorem dX11_comeHome_40 : decode cX11_comeHome 40 = .ok (.if_icmp .ge 22, 3) := by decide +kernel
theorem dX11_comeHome_43 : decode cX11_comeHome 43 = .ok (.aload_n 0, 1) := by decide +kernel
theorem dX11_comeHome_44 : decode cX11_comeHome 44 = .ok (.getfield 77, 3) := by decide +kernel
theorem dX11_comeHome_47 : decode cX11_comeHome 47 = .ok (.bipush 6, 2) := by decide +kernel
theorem dX11_comeHome_49 : decode cX11_comeHome 49 = .ok (.iload_n 1, 1) := by decide +kernel
theorem dX11_comeHome_50 : decode cX11_comeHome 50 = .ok (.imul, 1) := by decide +kernel
theorem dX11_comeHome_51 : decode cX11_comeHome 51 = .ok (.iload 4, 2) := by decide +kernel
theorem dX11_comeHome_53 : decode cX11_comeHome 53 = .ok (.iadd, 1) := by decide +kernel
theorem dX11_comeHome_54 : decode cX11_comeHome 54 = .ok (.iconst 0, 1) := by decide +kernel
theorem dX11_comeHome_55 : decode cX11_comeHome 55 = .ok (.iastore, 1) := by decide +kernel
theorem dX11_comeHome_56 : decode cX11_comeHome 56 = .ok (.iinc 4 1, 3) := by decide +kernel
theorem dX11_comeHome_59 : decode cX11_comeHome 59 = .ok (.goto (-23), 3) := by decide +kernel
theorem dX11_comeHome_62 : decode cX11_comeHome 62 = .ok (.aload_n 0, 1) := by decide +kernel
theorem dX11_comeHome_63 : decode cX11_comeHome 63 = .ok (.getfield 68, 3) := by decide +kernel
theorem dX11_comeHome_66 : decode cX11_comeHome 66 = .ok (.iload_n 1, 1) := by decide +kernel
theorem dX11_comeHome_67 : decode cX11_comeHome 67 = .ok (.iaload, 1) := by decide +kernel
theorem dX11_comeHome_68 : decode cX11_comeHome 68 = .ok (.ifCond .le 98, 3) := by decide +kernel
theorem dX11_comeHome_71 : decode cX11_comeHome 71 = .ok (.aload_n 0, 1) := by decide +kernel
theorem dX11_comeHome_72 : decode cX11_comeHome 72 = .ok (.getfield 170, 3) := by decide +kernel
theorem dX11_comeHome_75 : decode cX11_comeHome 75 = .ok (.aload_n 0, 1) := by decide +kernel
theorem dX11_comeHome_76 : decode cX11_comeHome 76 = .ok (.getfield 74, 3) := by decide +kernel
theorem dX11_comeHome_79 : decode cX11_comeHome 79 = .ok (.iload_n 1, 1) := by decide +kernel
theorem dX11_comeHome_80 : decode cX11_comeHome 80 = .ok (.iaload, 1) := by decide +kernel
theorem dX11_comeHome_81 : decode cX11_comeHome 81 = .ok (.isub, 1) := by decide +kernel
theorem dX11_comeHome_82 : decode cX11_comeHome 82 = .ok (.istore 4, 2) := by decide +kernel
theorem dX11_comeHome_84 : decode cX11_comeHome 84 = .ok (.aload_n 0, 1) := by decide +kernel
theorem dX11_comeHome_85 : decode cX11_comeHome 85 = .ok (.getfield 89, 3) := by decide +kernel
theorem dX11_comeHome_88 : decode cX11_comeHome 88 = .ok (.iload_n 2, 1) := by decide +kernel
theorem dX11_comeHome_89 : decode cX11_comeHome 89 = .ok (.aload_n 0, 1) := by decide +kernel
theorem dX11_comeHome_90 : decode cX11_comeHome 90 = .ok (.getfield 83, 3) := by decide +kernel
theorem dX11_comeHome_93 : decode cX11_comeHome 93 = .ok (.iload_n 2, 1) := by decide +kernel
theorem dX11_comeHome_94 : decode cX11_comeHome 94 = .ok (.iaload, 1) := by decide +kernel
theorem dX11_comeHome_95 : decode cX11_comeHome 95 = .ok (.ifCond .eq 14, 3) := by decide +kernel
theorem dX11_comeHome_98 : decode cX11_comeHome 98 = .ok (.iload 4, 2) := by decide +kernel
theorem dX11_comeHome_100 : decode cX11_comeHome 100 = .ok (.aload_n 0, 1) := by decide +kernel
theorem dX11_comeHome_101 : decode cX11_comeHome 101 = .ok (.getfield 89, 3) := by decide +kernel
theorem dX11_comeHome_104 : decode cX11_comeHome 104 = .ok (.iload_n 2, 1) := by decide +kernel
theorem dX11_comeHome_105 : decode cX11_comeHome 105 = .ok (.iaload, 1) := by decide +kernel
theorem dX11_comeHome_106 : decode cX11_comeHome 106 = .ok (.if_icmp .le 8, 3) := by decide +kernel
theorem dX11_comeHome_109 : decode cX11_comeHome 109 = .ok (.iload 4, 2) := by decide +kernel
theorem dX11_comeHome_111 : decode cX11_comeHome 111 = .ok (.goto 9, 3) := by decide +kernel
theorem dX11_comeHome_114 : decode cX11_comeHome 114 = .ok (.aload_n 0, 1) := by decide +kernel
theorem dX11_comeHome_115 : decode cX11_comeHome 115 = .ok (.getfield 89, 3) := by decide +kernel
theorem dX11_comeHome_118 : decode cX11_comeHome 118 = .ok (.iload_n 2, 1) := by decide +kernel
theorem dX11_comeHome_119 : decode cX11_comeHome 119 = .ok (.iaload, 1) := by decide +kernel
theorem dX11_comeHome_120 : decode cX11_comeHome 120 = .ok (.iastore, 1) := by decide +kernel
theorem dX11_comeHome_121 : decode cX11_comeHome 121 = .ok (.aload_n 0, 1) := by decide +kernel
theorem dX11_comeHome_122 : decode cX11_comeHome 122 = .ok (.getfield 83, 3) := by decide +kernel
theorem dX11_comeHome_125 : decode cX11_comeHome 125 = .ok (.iload_n 2, 1) := by decide +kernel
theorem dX11_comeHome_126 : decode cX11_comeHome 126 = .ok (.dup2, 1) := by decide +kernel
theorem dX11_comeHome_127 : decode cX11_comeHome 127 = .ok (.iaload, 1) := by decide +kernel
theorem dX11_comeHome_128 : decode cX11_comeHome 128 = .ok (.iconst 1, 1) := by decide +kernel
theorem dX11_comeHome_129 : decode cX11_comeHome 129 = .ok (.iadd, 1) := by decide +kernel
theorem dX11_comeHome_130 : decode cX11_comeHome 130 = .ok (.iastore, 1) := by decide +kernel
theorem dX11_comeHome_131 : decode cX11_comeHome 131 = .ok (.aload_n 0, 1) := by decide +kernel
theorem dX11_comeHome_132 : decode cX11_comeHome 132 = .ok (.getfield 86, 3) := by decide +kernel
theorem dX11_comeHome_135 : decode cX11_comeHome 135 = .ok (.iload_n 2, 1) := by decide +kernel
theorem dX11_comeHome_136 : decode cX11_comeHome 136 = .ok (.dup2, 1) := by decide +kernel
theorem dX11_comeHome_137 : decode cX11_comeHome 137 = .ok (.iaload, 1) := by decide +kernel
theorem dX11_comeHome_138 : decode cX11_comeHome 138 = .ok (.aload_n 0, 1) := by decide +kernel
theorem dX11_comeHome_139 : decode cX11_comeHome 139 = .ok (.getfield 68, 3) := by decide +kernel
theorem dX11_comeHome_142 : decode cX11_comeHome 142 = .ok (.iload_n 1, 1) := by decide +kernel
theorem dX11_comeHome_143 : decode cX11_comeHome 143 = .ok (.iaload, 1) := by decide +kernel
theorem dX11_comeHome_144 : decode cX11_comeHome 144 = .ok (.iconst 3, 1) := by decide +kernel
theorem dX11_comeHome_145 : decode cX11_comeHome 145 = .ok (.if_icmp .ne 7, 3) := by decide +kernel
theorem dX11_comeHome_148 : decode cX11_comeHome 148 = .ok (.iconst 1, 1) := by decide +kernel
theorem dX11_comeHome_149 : decode cX11_comeHome 149 = .ok (.goto 4, 3) := by decide +kernel
theorem dX11_comeHome_152 : decode cX11_comeHome 152 = .ok (.iconst 0, 1) := by decide +kernel
theorem dX11_comeHome_153 : decode cX11_comeHome 153 = .ok (.iadd, 1) := by decide +kernel
theorem dX11_comeHome_154 : decode cX11_comeHome 154 = .ok (.iastore, 1) := by decide +kernel
theorem dX11_comeHome_155 : decode cX11_comeHome 155 = .ok (.aload_n 0, 1) := by decide +kernel
theorem dX11_comeHome_156 : decode cX11_comeHome 156 = .ok (.getfield 92, 3) := by decide +kernel
theorem dX11_comeHome_159 : decode cX11_comeHome 159 = .ok (.iload_n 2, 1) := by decide +kernel
theorem dX11_comeHome_160 : decode cX11_comeHome 160 = .ok (.dup2, 1) := by decide +kernel
theorem dX11_comeHome_161 : decode cX11_comeHome 161 = .ok (.iaload, 1) := by decide +kernel
theorem dX11_comeHome_162 : decode cX11_comeHome 162 = .ok (.iload 4, 2) := by decide +kernel
theorem dX11_comeHome_164 : decode cX11_comeHome 164 = .ok (.iadd, 1) := by decide +kernel
theorem dX11_comeHome_165 : decode cX11_comeHome 165 = .ok (.iastore, 1) := by decide +kernel
theorem dX11_comeHome_166 : decode cX11_comeHome 166 = .ok (.aload_n 0, 1) := by decide +kernel
theorem dX11_comeHome_167 : decode cX11_comeHome 167 = .ok (.getfield 68, 3) := by decide +kernel
theorem dX11_comeHome_170 : decode cX11_comeHome 170 = .ok (.iload_n 1, 1) := by decide +kernel
theorem dX11_comeHome_171 : decode cX11_comeHome 171 = .ok (.iconst 0, 1) := by decide +kernel
theorem dX11_comeHome_172 : decode cX11_comeHome 172 = .ok (.iastore, 1) := by decide +kernel
theorem dX11_comeHome_173 : decode cX11_comeHome 173 = .ok (.aload_n 0, 1) := by decide +kernel
theorem dX11_comeHome_174 : decode cX11_comeHome 174 = .ok (.getfield 50, 3) := by decide +kernel
theorem dX11_comeHome_177 : decode cX11_comeHome 177 = .ok (.iload_n 1, 1) := by decide +kernel
theorem dX11_comeHome_178 : decode cX11_comeHome 178 = .ok (.iconst 0, 1) := by decide +kernel
theorem dX11_comeHome_179 : decode cX11_comeHome 179 = .ok (.iastore, 1) := by decide +kernel
theorem dX11_comeHome_180 : decode cX11_comeHome 180 = .ok (.return_, 1) := by decide +kernel
theorem dX11_comeDown_0 : decode cX11_comeDown 0 = .ok (.aload_n 0, 1) := by decide +kernel
theorem dX11_comeDown_1 : decode cX11_comeDown 1 = .ok (.getfield 13, 3) := by decide +kernel
theorem dX11_comeDown_4 : decode cX11_comeDown 4 = .ok (.iload_n 2, 1) := by decide +kernel
theorem dX11_comeDown_5 : decode cX11_comeDown 5 = .ok (.iaload, 1) := by decide +kernel
theorem dX11_comeDown_6 : decode cX11_comeDown 6 = .ok (.iconst 2, 1) := by decide +kernel
theorem dX11_comeDown_7 : decode cX11_comeDown 7 = .ok (.if_icmp .ne 36, 3) := by decide +kernel
theorem dX11_comeDown_10 : decode cX11_comeDown 10 = .ok (.iload_n 2, 1) := by decide +kernel
theorem dX11_comeDown_11 : decode cX11_comeDown 11 = .ok (.aload_n 0, 1) := by decide +kernel
theorem dX11_comeDown_12 : decode cX11_comeDown 12 = .ok (.getfield 47, 3) := by decide +kernel
theorem dX11_comeDown_15 : decode cX11_comeDown 15 = .ok (.iload_n 1, 1) := by decide +kernel
theorem dX11_comeDown_16 : decode cX11_comeDown 16 = .ok (.iaload, 1) := by decide +kernel
theorem dX11_comeDown_17 : decode cX11_comeDown 17 = .ok (.if_icmp .ne 11, 3) := by decide +kernel
theorem dX11_comeDown_20 : decode cX11_comeDown 20 = .ok (.aload_n 0, 1) := by decide +kernel
theorem dX11_comeDown_21 : decode cX11_comeDown 21 = .ok (.iload_n 1, 1) := by decide +kernel
theorem dX11_comeDown_22 : decode cX11_comeDown 22 = .ok (.invokevirtual 223, 3) := by decide +kernel
theorem dX11_comeDown_25 : decode cX11_comeDown 25 = .ok (.goto 17, 3) := by decide +kernel
theorem dX11_comeDown_28 : decode cX11_comeDown 28 = .ok (.aload_n 0, 1) := by decide +kernel
theorem dX11_comeDown_29 : decode cX11_comeDown 29 = .ok (.getfield 50, 3) := by decide +kernel
theorem dX11_comeDown_32 : decode cX11_comeDown 32 = .ok (.iload_n 1, 1) := by decide +kernel
theorem dX11_comeDown_33 : decode cX11_comeDown 33 = .ok (.iconst 5, 1) := by decide +kernel
theorem dX11_comeDown_34 : decode cX11_comeDown 34 = .ok (.iastore, 1) := by decide +kernel
theorem dX11_comeDown_35 : decode cX11_comeDown 35 = .ok (.aload_n 0, 1) := by decide +kernel
theorem dX11_comeDown_36 : decode cX11_comeDown 36 = .ok (.getfield 53, 3) := by decide +kernel
theorem dX11_comeDown_39 : decode cX11_comeDown 39 = .ok (.iload_n 1, 1) := by decide +kernel
theorem dX11_comeDown_40 : decode cX11_comeDown 40 = .ok (.iload_n 2, 1) := by decide +kernel
theorem dX11_comeDown_41 : decode cX11_comeDown 41 = .ok (.iastore, 1) := by decide +kernel
theorem dX11_comeDown_42 : decode cX11_comeDown 42 = .ok (.return_, 1) := by decide +kernel
theorem dX11_comeDown_43 : decode cX11_comeDown 43 = .ok (.aload_n 0, 1) := by decide +kernel
theorem dX11_comeDown_44 : decode cX11_comeDown 44 = .ok (.iload_n 2, 1) := by decide +kernel
theorem dX11_comeDown_45 : decode cX11_comeDown 45 = .ok (.aload_n 0, 1) := by decide +kernel
theorem dX11_comeDown_46 : decode cX11_comeDown 46 = .ok (.getfield 47, 3) := by decide +kernel
theorem dX11_comeDown_49 : decode cX11_comeDown 49 = .ok (.iload_n 1, 1) := by decide +kernel
theorem dX11_comeDown_50 : decode cX11_comeDown 50 = .ok (.iaload, 1) := by decide +kernel
theorem dX11_comeDown_51 : decode cX11_comeDown 51 = .ok (.invokevirtual 226, 3) := by decide +kernel
theorem dX11_comeDown_54 : decode cX11_comeDown 54 = .ok (.istore_n 3, 1) := by decide +kernel
theorem dX11_comeDown_55 : decode cX11_comeDown 55 = .ok (.aload_n 0, 1) := by decide +kernel
theorem dX11_comeDown_56 : decode cX11_comeDown 56 = .ok (.getfield 35, 3) := by decide +kernel
theorem dX11_comeDown_59 : decode cX11_comeDown 59 = .ok (.iload_n 2, 1) := by decide +kernel
theorem dX11_comeDown_60 : decode cX11_comeDown 60 = .ok (.dup2, 1) := by decide +kernel
theorem dX11_comeDown_61 : decode cX11_comeDown 61 = .ok (.iaload, 1) := by decide +kernel
theorem dX11_comeDown_62 : decode cX11_comeDown 62 = .ok (.iconst 1, 1) := by decide +kernel
theorem dX11_comeDown_63 : decode cX11_comeDown 63 = .ok (.iadd, 1) := by decide +kernel
theorem dX11_comeDown_64 : decode cX11_comeDown 64 = .ok (.iastore, 1) := by decide +kernel
theorem dX11_comeDown_65 : decode cX11_comeDown 65 = .ok (.aload_n 0, 1) := by decide +kernel
theorem dX11_comeDown_66 : decode cX11_comeDown 66 = .ok (.getfield 32, 3) := by decide +kernel
theorem dX11_comeDown_69 : decode cX11_comeDown 69 = .ok (.iload_n 2, 1) := by decide +kernel
theorem dX11_comeDown_70 : decode cX11_comeDown 70 = .ok (.iaload, 1) := by decide +kernel
theorem dX11_comeDown_71 : decode cX11_comeDown 71 = .ok (.ifCond .le 32, 3) := by decide +kernel
theorem dX11_comeDown_74 : decode cX11_comeDown 74 = .ok (.aload_n 0, 1) := by decide +kernel
theorem dX11_comeDown_75 : decode cX11_comeDown 75 = .ok (.getfield 35, 3) := by decide +kernel
theorem dX11_comeDown_78 : decode cX11_comeDown 78 = .ok (.iload_n 2, 1) := by decide +kernel
theorem dX11_comeDown_79 : decode cX11_comeDown 79 = .ok (.iaload, 1) := by decide +kernel
theorem dX11_comeDown_80 : decode cX11_comeDown 80 = .ok (.aload_n 0, 1) := by decide +kernel
theorem dX11_comeDown_81 : decode cX11_comeDown 81 = .ok (.getfield 32, 3) := by decide +kernel
theorem dX11_comeDown_84 : decode cX11_comeDown 84 = .ok (.iload_n 2, 1) := by decide +kernel
theorem dX11_comeDown_85 : decode cX11_comeDown 85 = .ok (.iaload, 1) := by decide +kernel
theorem dX11_comeDown_86 : decode cX11_comeDown 86 = .ok (.irem, 1) := by decide +kernel
theorem dX11_comeDown_87 : decode cX11_comeDown 87 = .ok (.ifCond .ne 16, 3) := by decide +kernel
theorem dX11_comeDown_90 : decode cX11_comeDown 90 = .ok (.iload_n 3, 1) := by decide +kernel
theorem dX11_comeDown_91 : decode cX11_comeDown 91 = .ok (.bipush (-9), 2) := by decide +kernel
theorem dX11_comeDown_93 : decode cX11_comeDown 93 = .ok (.if_icmp .eq 10, 3) := by decide +kernel
theorem dX11_comeDown_96 : decode cX11_comeDown 96 = .ok (.aload_n 0, 1) := by decide +kernel
theorem dX11_comeDown_97 : decode cX11_comeDown 97 = .ok (.iload_n 2, 1) := by decide +kernel
theorem dX11_comeDown_98 : decode cX11_comeDown 98 = .ok (.iload_n 3, 1) := by decide +kernel
theorem dX11_comeDown_99 : decode cX11_comeDown 99 = .ok (.invokevirtual 229, 3) := by decide +kernel
theorem dX11_comeDown_102 : decode cX11_comeDown 102 = .ok (.istore_n 3, 1) := by decide +kernel
theorem dX11_comeDown_103 : decode cX11_comeDown 103 = .ok (.aload_n 0, 1) := by decide +kernel
theorem dX11_comeDown_104 : decode cX11_comeDown 104 = .ok (.iload_n 1, 1) := by decide +kernel
theorem dX11_comeDown_105 : decode cX11_comeDown 105 = .ok (.iload_n 2, 1) := by decide +kernel
theorem dX11_comeDown_106 : decode cX11_comeDown 106 = .ok (.iconst 0, 1) := by decide +kernel
theorem dX11_comeDown_107 : decode cX11_comeDown 107 = .ok (.iload_n 3, 1) := by decide +kernel
theorem dX11_comeDown_108 : decode cX11_comeDown 108 = .ok (.invokevirtual 183, 3) := by decide +kernel
theorem dX11_comeDown_111 : decode cX11_comeDown 111 = .ok (.aload_n 0, 1) := by decide +kernel
theorem dX11_comeDown_112 : decode cX11_comeDown 112 = .ok (.iload_n 2, 1) := by decide +kernel
theorem dX11_comeDown_113 : decode cX11_comeDown 113 = .ok (.invokevirtual 232, 3) := by decide +kernel
theorem dX11_comeDown_116 : decode cX11_comeDown 116 = .ok (.return_, 1) := by decide +kernel
theorem dX11_comeUp_0 : decode cX11_comeUp 0 = .ok (.aload_n 0, 1) := by decide +kernel
theorem dX11_comeUp_1 : decode cX11_comeUp 1 = .ok (.getfield 7, 3) := by decide +kernel
theorem dX11_comeUp_4 : decode cX11_comeUp 4 = .ok (.iload_n 2, 1) := by decide +kernel
theorem dX11_comeUp_5 : decode cX11_comeUp 5 = .ok (.iaload, 1) := by decide +kernel
theorem dX11_comeUp_6 : decode cX11_comeUp 6 = .ok (.istore_n 3, 1) := by decide +kernel
theorem dX11_comeUp_7 : decode cX11_comeUp 7 = .ok (.iload_n 3, 1) := by decide +kernel
theorem dX11_comeUp_8 : decode cX11_comeUp 8 = .ok (.ifCond .ne 23, 3) := by decide +kernel
theorem dX11_comeUp_11 : decode cX11_comeUp 11 = .ok (.aload_n 0, 1) := by decide +kernel
theorem dX11_comeUp_12 : decode cX11_comeUp 12 = .ok (.getfield 50, 3) := by decide +kernel
theorem dX11_comeUp_15 : decode cX11_comeUp 15 = .ok (.iload_n 1, 1) := by decide +kernel
theorem dX11_comeUp_16 : decode cX11_comeUp 16 = .ok (.iconst 3, 1) := by decide +kernel
theorem dX11_comeUp_17 : decode cX11_comeUp 17 = .ok (.iastore, 1) := by decide +kernel
theorem dX11_comeUp_18 : decode cX11_comeUp 18 = .ok (.aload_n 0, 1) := by decide +kernel
theorem dX11_comeUp_19 : decode cX11_comeUp 19 = .ok (.getfield 56, 3) := by decide +kernel
theorem dX11_comeUp_22 : decode cX11_comeUp 22 = .ok (.iload_n 1, 1) := by decide +kernel
theorem dX11_comeUp_23 : decode cX11_comeUp 23 = .ok (.aload_n 0, 1) := by decide +kernel
theorem dX11_comeUp_24 : decode cX11_comeUp 24 = .ok (.getfield 170, 3) := by decide +kernel
theorem dX11_comeUp_27 : decode cX11_comeUp 27 = .ok (.iastore, 1) := by decide +kernel
theorem dX11_comeUp_28 : decode cX11_comeUp 28 = .ok (.goto 24, 3) := by decide +kernel
theorem dX11_comeUp_31 : decode cX11_comeUp 31 = .ok (.aload_n 0, 1) := by decide +kernel
theorem dX11_comeUp_32 : decode cX11_comeUp 32 = .ok (.iload_n 1, 1) := by decide +kernel
theorem dX11_comeUp_33 : decode cX11_comeUp 33 = .ok (.iload_n 3, 1) := by decide +kernel
theorem dX11_comeUp_34 : decode cX11_comeUp 34 = .ok (.iconst 1, 1) := by decide +kernel
theorem dX11_comeUp_35 : decode cX11_comeUp 35 = .ok (.bipush (-9), 2) := by decide +kernel
theorem dX11_comeUp_37 : decode cX11_comeUp 37 = .ok (.invokevirtual 183, 3) := by decide +kernel
theorem dX11_comeUp_40 : decode cX11_comeUp 40 = .ok (.aload_n 0, 1) := by decide +kernel
theorem dX11_comeUp_41 : decode cX11_comeUp 41 = .ok (.getfield 65, 3) := by decide +kernel
theorem dX11_comeUp_44 : decode cX11_comeUp 44 = .ok (.iload_n 1, 1) := by decide +kernel
theorem dX11_comeUp_45 : decode cX11_comeUp 45 = .ok (.iload_n 2, 1) := by decide +kernel
theorem dX11_comeUp_46 : decode cX11_comeUp 46 = .ok (.iastore, 1) := by decide +kernel
theorem dX11_comeUp_47 : decode cX11_comeUp 47 = .ok (.aload_n 0, 1) := by decide +kernel
theorem dX11_comeUp_48 : decode cX11_comeUp 48 = .ok (.iload_n 3, 1) := by decide +kernel
theorem dX11_comeUp_49 : decode cX11_comeUp 49 = .ok (.invokevirtual 232, 3) := by decide +kernel
theorem dX11_comeUp_52 : decode cX11_comeUp 52 = .ok (.return_, 1) := by decide +kernel
theorem dX11_move_0 : decode cX11_move 0 = .ok (.iconst 0, 1) := by decide +kernel
theorem dX11_move_1 : decode cX11_move 1 = .ok (.istore_n 1, 1) := by decide +kernel
theorem dX11_move_2 : decode cX11_move 2 = .ok (.iload_n 1, 1) := by decide +kernel
theorem dX11_move_3 : decode cX11_move 3 = .ok (.aload_n 0, 1) := by decide +kernel
theorem dX11_move_4 : decode cX11_move 4 = .ok (.getfield 158, 3) := by decide +kernel
theorem dX11_move_7 : decode cX11_move 7 = .ok (.if_icmp .ge 97, 3) := by decide +kernel
theorem dX11_move_10 : decode cX11_move 10 = .ok (.aload_n 0, 1) := by decide +kernel
theorem dX11_move_11 : decode cX11_move 11 = .ok (.getfield 50, 3) := by decide +kernel
theorem dX11_move_14 : decode cX11_move 14 = .ok (.iload_n 1, 1) := by decide +kernel
theorem dX11_move_15 : decode cX11_move 15 = .ok (.iaload, 1) := by decide +kernel
theorem dX11_move_16 : decode cX11_move 16 = .ok (.iconst 2, 1) := by decide +kernel
theorem dX11_move_17 : decode cX11_move 17 = .ok (.if_icmp .ne 81, 3) := by decide +kernel
theorem dX11_move_20 : decode cX11_move 20 = .ok (.aload_n 0, 1) := by decide +kernel
theorem dX11_move_21 : decode cX11_move 21 = .ok (.getfield 26, 3) := by decide +kernel
theorem dX11_move_24 : decode cX11_move 24 = .ok (.aload_n 0, 1) := by decide +kernel
theorem dX11_move_25 : decode cX11_move 25 = .ok (.getfield 53, 3) := by decide +kernel
theorem dX11_move_28 : decode cX11_move 28 = .ok (.iload_n 1, 1) := by decide +kernel
theorem dX11_move_29 : decode cX11_move 29 = .ok (.iaload, 1) := by decide +kernel
theorem dX11_move_30 : decode cX11_move 30 = .ok (.baload, 1) := by decide +kernel
theorem dX11_move_31 : decode cX11_move 31 = .ok (.ifCond .ne 67, 3) := by decide +kernel
theorem dX11_move_34 : decode cX11_move 34 = .ok (.aload_n 0, 1) := by decide +kernel
theorem dX11_move_35 : decode cX11_move 35 = .ok (.getfield 116, 3) := by decide +kernel
theorem dX11_move_38 : decode cX11_move 38 = .ok (.iload_n 1, 1) := by decide +kernel
theorem dX11_move_39 : decode cX11_move 39 = .ok (.dup2, 1) := by decide +kernel
theorem dX11_move_40 : decode cX11_move 40 = .ok (.iaload, 1) := by decide +kernel
theorem dX11_move_41 : decode cX11_move 41 = .ok (.iconst 1, 1) := by decide +kernel
theorem dX11_move_42 : decode cX11_move 42 = .ok (.iadd, 1) := by decide +kernel
theorem dX11_move_43 : decode cX11_move 43 = .ok (.iastore, 1) := by decide +kernel
theorem dX11_move_44 : decode cX11_move 44 = .ok (.aload_n 0, 1) := by decide +kernel
theorem dX11_move_45 : decode cX11_move 45 = .ok (.getfield 116, 3) := by decide +kernel
theorem dX11_move_48 : decode cX11_move 48 = .ok (.iload_n 1, 1) := by decide +kernel
theorem dX11_move_49 : decode cX11_move 49 = .ok (.iaload, 1) := by decide +kernel
theorem dX11_move_50 : decode cX11_move 50 = .ok (.aload_n 0, 1) := by decide +kernel
theorem dX11_move_51 : decode cX11_move 51 = .ok (.getfield 16, 3) := by decide +kernel
theorem dX11_move_54 : decode cX11_move 54 = .ok (.aload_n 0, 1) := by decide +kernel
theorem dX11_move_55 : decode cX11_move 55 = .ok (.getfield 53, 3) := by decide +kernel
theorem dX11_move_58 : decode cX11_move 58 = .ok (.iload_n 1, 1) := by decide +kernel
theorem dX11_move_59 : decode cX11_move 59 = .ok (.iaload, 1) := by decide +kernel
theorem dX11_move_60 : decode cX11_move 60 = .ok (.iaload, 1) := by decide +kernel
theorem dX11_move_61 : decode cX11_move 61 = .ok (.if_icmp .ne 37, 3) := by decide +kernel
theorem dX11_move_64 : decode cX11_move 64 = .ok (.aload_n 0, 1) := by decide +kernel
theorem dX11_move_65 : decode cX11_move 65 = .ok (.getfield 59, 3) := by decide +kernel
theorem dX11_move_68 : decode cX11_move 68 = .ok (.iload_n 1, 1) := by decide +kernel
theorem dX11_move_69 : decode cX11_move 69 = .ok (.baload, 1) := by decide +kernel
theorem dX11_move_70 : decode cX11_move 70 = .ok (.ifCond .eq 17, 3) := by decide +kernel
theorem dX11_move_73 : decode cX11_move 73 = .ok (.aload_n 0, 1) := by decide +kernel
theorem dX11_move_74 : decode cX11_move 74 = .ok (.iload_n 1, 1) := by decide +kernel
theorem dX11_move_75 : decode cX11_move 75 = .ok (.aload_n 0, 1) := by decide +kernel
theorem dX11_move_76 : decode cX11_move 76 = .ok (.getfield 53, 3) := by decide +kernel
theorem dX11_move_79 : decode cX11_move 79 = .ok (.iload_n 1, 1) := by decide +kernel
theorem dX11_move_80 : decode cX11_move 80 = .ok (.iaload, 1) := by decide +kernel
theorem dX11_move_81 : decode cX11_move 81 = .ok (.invokevirtual 235, 3) := by decide +kernel
theorem dX11_move_84 : decode cX11_move 84 = .ok (.goto 14, 3) := by decide +kernel
theorem dX11_move_87 : decode cX11_move 87 = .ok (.aload_n 0, 1) := by decide +kernel
theorem dX11_move_88 : decode cX11_move 88 = .ok (.iload_n 1, 1) := by decide +kernel
theorem dX11_move_89 : decode cX11_move 89 = .ok (.aload_n 0, 1) := by decide +kernel
theorem dX11_move_90 : decode cX11_move 90 = .ok (.getfield 53, 3) := by decide +kernel
theorem dX11_move_93 : decode cX11_move 93 = .ok (.iload_n 1, 1) := by decide +kernel
theorem dX11_move_94 : decode cX11_move 94 = .ok (.iaload, 1) := by decide +kernel
theorem dX11_move_95 : decode cX11_move 95 = .ok (.invokevirtual 239, 3) := by decide +kernel
theorem dX11_move_98 : decode cX11_move 98 = .ok (.iinc 1 1, 3) := by decide +kernel
theorem dX11_move_101 : decode cX11_move 101 = .ok (.goto (-99), 3) := by decide +kernel
theorem dX11_move_104 : decode cX11_move 104 = .ok (.iconst 0, 1) := by decide +kernel
theorem dX11_move_105 : decode cX11_move 105 = .ok (.istore_n 1, 1) := by decide +kernel
theorem dX11_move_106 : decode cX11_move 106 = .ok (.iload_n 1, 1) := by decide +kernel
theorem dX11_move_107 : decode cX11_move 107 = .ok (.aload_n 0, 1) := by decide +kernel
theorem dX11_move_108 : decode cX11_move 108 = .ok (.getfield 158, 3) := by decide +kernel
theorem dX11_move_111 : decode cX11_move 111 = .ok (.if_icmp .ge 38, 3) := by decide +kernel
theorem dX11_move_114 : decode cX11_move 114 = .ok (.aload_n 0, 1) := by decide +kernel
theorem dX11_move_115 : decode cX11_move 115 = .ok (.getfield 50, 3) := by decide +kernel
theorem dX11_move_118 : decode cX11_move 118 = .ok (.iload_n 1, 1) := by decide +kernel
theorem dX11_move_119 : decode cX11_move 119 = .ok (.iaload, 1) := by decide +kernel
theorem dX11_move_120 : decode cX11_move 120 = .ok (.bipush 6, 2) := by decide +kernel
theorem dX11_move_122 : decode cX11_move 122 = .ok (.if_icmp .ne 21, 3) := by decide +kernel
theorem dX11_move_125 : decode cX11_move 125 = .ok (.aload_n 0, 1) := by decide +kernel
theorem dX11_move_126 : decode cX11_move 126 = .ok (.getfield 56, 3) := by decide +kernel
theorem dX11_move_129 : decode cX11_move 129 = .ok (.iload_n 1, 1) := by decide +kernel
theorem dX11_move_130 : decode cX11_move 130 = .ok (.iaload, 1) := by decide +kernel
theorem dX11_move_131 : decode cX11_move 131 = .ok (.aload_n 0, 1) := by decide +kernel
theorem dX11_move_132 : decode cX11_move 132 = .ok (.getfield 170, 3) := by decide +kernel
theorem dX11_move_135 : decode cX11_move 135 = .ok (.if_icmp .ne 8, 3) := by decide +kernel
theorem dX11_move_138 : decode cX11_move 138 = .ok (.aload_n 0, 1) := by decide +kernel
theorem dX11_move_139 : decode cX11_move 139 = .ok (.iload_n 1, 1) := by decide +kernel
theorem dX11_move_140 : decode cX11_move 140 = .ok (.invokevirtual 223, 3) := by decide +kernel
theorem dX11_move_143 : decode cX11_move 143 = .ok (.iinc 1 1, 3) := by decide +kernel
theorem dX11_move_146 : decode cX11_move 146 = .ok (.goto (-40), 3) := by decide +kernel
theorem dX11_move_149 : decode cX11_move 149 = .ok (.return_, 1) := by decide +kernel
theorem dX11_settle_0 : decode cX11_settle 0 = .ok (.aload_n 0, 1) := by decide +kernel
theorem dX11_settle_1 : decode cX11_settle 1 = .ok (.getfield 68, 3) := by decide +kernel
theorem dX11_settle_4 : decode cX11_settle 4 = .ok (.iload_n 1, 1) := by decide +kernel
theorem dX11_settle_5 : decode cX11_settle 5 = .ok (.iaload, 1) := by decide +kernel
theorem dX11_settle_6 : decode cX11_settle 6 = .ok (.iconst 1, 1) := by decide +kernel
theorem dX11_settle_7 : decode cX11_settle 7 = .ok (.if_icmp .ne 149, 3) := by decide +kernel
theorem dX11_settle_10 : decode cX11_settle 10 = .ok (.aload_n 0, 1) := by decide +kernel
theorem dX11_settle_11 : decode cX11_settle 11 = .ok (.iload_n 1, 1) := by decide +kernel
theorem dX11_settle_12 : decode cX11_settle 12 = .ok (.invokevirtual 201, 3) := by decide +kernel
theorem dX11_settle_15 : decode cX11_settle 15 = .ok (.aload_n 0, 1) := by decide +kernel
theorem dX11_settle_16 : decode cX11_settle 16 = .ok (.getfield 71, 3) := by decide +kernel
theorem dX11_settle_19 : decode cX11_settle 19 = .ok (.iload_n 1, 1) := by decide +kernel
theorem dX11_settle_20 : decode cX11_settle 20 = .ok (.iaload, 1) := by decide +kernel
theorem dX11_settle_21 : decode cX11_settle 21 = .ok (.isub, 1) := by decide +kernel
theorem dX11_settle_22 : decode cX11_settle 22 = .ok (.istore_n 2, 1) := by decide +kernel
theorem dX11_settle_23 : decode cX11_settle 23 = .ok (.iconst 0, 1) := by decide +kernel
theorem dX11_settle_24 : decode cX11_settle 24 = .ok (.istore_n 3, 1) := by decide +kernel
theorem dX11_settle_25 : decode cX11_settle 25 = .ok (.iload_n 3, 1) := by decide +kernel
theorem dX11_settle_26 : decode cX11_settle 26 = .ok (.bipush 6, 2) := by decide +kernel
theorem dX11_settle_28 : decode cX11_settle 28 = .ok (.if_icmp .ge 29, 3) := by decide +kernel
theorem dX11_settle_31 : decode cX11_settle 31 = .ok (.aload_n 0, 1) := by decide +kernel
theorem dX11_settle_32 : decode cX11_settle 32 = .ok (.getfield 80, 3) := by decide +kernel
theorem dX11_settle_35 : decode cX11_settle 35 = .ok (.iload_n 3, 1) := by decide +kernel
theorem dX11_settle_36 : decode cX11_settle 36 = .ok (.dup2, 1) := by decide +kernel
theorem dX11_settle_37 : decode cX11_settle 37 = .ok (.iaload, 1) := by decide +kernel
theorem dX11_settle_38 : decode cX11_settle 38 = .ok (.aload_n 0, 1) := by decide +kernel
theorem dX11_settle_39 : decode cX11_settle 39 = .ok (.getfield 77, 3) := by decide +kernel
theorem dX11_settle_42 : decode cX11_settle 42 = .ok (.bipush 6, 2) := by decide +kernel
theorem dX11_settle_44 : decode cX11_settle 44 = .ok (.iload_n 1, 1) := by decide +kernel
theorem dX11_settle_45 : decode cX11_settle 45 = .ok (.imul, 1) := by decide +kernel
theorem dX11_settle_46 : decode cX11_settle 46 = .ok (.iload_n 3, 1) := by decide +kernel
theorem dX11_settle_47 : decode cX11_settle 47 = .ok (.iadd, 1) := by decide +kernel
theorem dX11_settle_48 : decode cX11_settle 48 = .ok (.iaload, 1) := by decide +kernel
theorem dX11_settle_49 : decode cX11_settle 49 = .ok (.iadd, 1) := by decide +kernel
theorem dX11_settle_50 : decode cX11_settle 50 = .ok (.iastore, 1) := by decide +kernel
theorem dX11_settle_51 : decode cX11_settle 51 = .ok (.iinc 3 1, 3) := by decide +kernel
theorem dX11_settle_54 : decode cX11_settle 54 = .ok (.goto (-29), 3) := by decide +kernel
theorem dX11_settle_57 : decode cX11_settle 57 = .ok (.aload_n 0, 1) := by decide +kernel
theorem dX11_settle_58 : decode cX11_settle 58 = .ok (.iload_n 2, 1) := by decide +kernel
theorem dX11_settle_59 : decode cX11_settle 59 = .ok (.invokevirtual 210, 3) := by decide +kernel
theorem dX11_settle_62 : decode cX11_settle 62 = .ok (.iconst 0, 1) := by decide +kernel
theorem dX11_settle_63 : decode cX11_settle 63 = .ok (.istore_n 3, 1) := by decide +kernel
theorem dX11_settle_64 : decode cX11_settle 64 = .ok (.iload_n 3, 1) := by decide +kernel
theorem dX11_settle_65 : decode cX11_settle 65 = .ok (.bipush 6, 2) := by decide +kernel
theorem dX11_settle_67 : decode cX11_settle 67 = .ok (.if_icmp .ge 69, 3) := by decide +kernel
theorem dX11_settle_70 : decode cX11_settle 70 = .ok (.aload_n 0, 1) := by decide +kernel
theorem dX11_settle_71 : decode cX11_settle 71 = .ok (.getfield 77, 3) := by decide +kernel
theorem dX11_settle_74 : decode cX11_settle 74 = .ok (.bipush 6, 2) := by decide +kernel
theorem dX11_settle_76 : decode cX11_settle 76 = .ok (.iload_n 1, 1) := by decide +kernel
theorem dX11_settle_77 : decode cX11_settle 77 = .ok (.imul, 1) := by decide +kernel
theorem dX11_settle_78 : decode cX11_settle 78 = .ok (.iload_n 3, 1) := by decide +kernel
theorem dX11_settle_79 : decode cX11_settle 79 = .ok (.iadd, 1) := by decide +kernel
theorem dX11_settle_80 : decode cX11_settle 80 = .ok (.aload_n 0, 1) := by decide +kernel
theorem dX11_settle_81 : decode cX11_settle 81 = .ok (.getfield 204, 3) := by decide +kernel
theorem dX11_settle_84 : decode cX11_settle 84 = .ok (.bipush (-9), 2) := by decide +kernel
theorem dX11_settle_86 : decode cX11_settle 86 = .ok (.if_icmp .ne 17, 3) := by decide +kernel
theorem dX11_settle_89 : decode cX11_settle 89 = .ok (.aload_n 0, 1) := by decide +kernel
theorem dX11_settle_90 : decode cX11_settle 90 = .ok (.getfield 77, 3) := by decide +kernel
theorem dX11_settle_93 : decode cX11_settle 93 = .ok (.bipush 6, 2) := by decide +kernel
theorem dX11_settle_95 : decode cX11_settle 95 = .ok (.iload_n 1, 1) := by decide +kernel
theorem dX11_settle_96 : decode cX11_settle 96 = .ok (.imul, 1) := by decide +kernel
theorem dX11_settle_97 : decode cX11_settle 97 = .ok (.iload_n 3, 1) := by decide +kernel
theorem dX11_settle_98 : decode cX11_settle 98 = .ok (.iadd, 1) := by decide +kernel
theorem dX11_settle_99 : decode cX11_settle 99 = .ok (.iaload, 1) := by decide +kernel
theorem dX11_settle_100 : decode cX11_settle 100 = .ok (.goto 9, 3) := by decide +kernel
theorem dX11_settle_103 : decode cX11_settle 103 = .ok (.aload_n 0, 1) := by decide +kernel
theorem dX11_settle_104 : decode cX11_settle 104 = .ok (.getfield 119, 3) := by decide +kernel
theorem dX11_settle_107 : decode cX11_settle 107 = .ok (.iload_n 3, 1) := by decide +kernel
theorem dX11_settle_108 : decode cX11_settle 108 = .ok (.iaload, 1) := by decide +kernel
theorem dX11_settle_109 : decode cX11_settle 109 = .ok (.iastore, 1) := by decide +kernel
theorem dX11_settle_110 : decode cX11_settle 110 = .ok (.aload_n 0, 1) := by decide +kernel
theorem dX11_settle_111 : decode cX11_settle 111 = .ok (.getfield 80, 3) := by decide +kernel
theorem dX11_settle_114 : decode cX11_settle 114 = .ok (.iload_n 3, 1) := by decide +kernel
theorem dX11_settle_115 : decode cX11_settle 115 = .ok (.dup2, 1) := by decide +kernel
theorem dX11_settle_116 : decode cX11_settle 116 = .ok (.iaload, 1) := by decide +kernel
theorem dX11_settle_117 : decode cX11_settle 117 = .ok (.aload_n 0, 1) := by decide +kernel
theorem dX11_settle_118 : decode cX11_settle 118 = .ok (.getfield 77, 3) := by decide +kernel
theorem dX11_settle_121 : decode cX11_settle 121 = .ok (.bipush 6, 2) := by decide +kernel
theorem dX11_settle_123 : decode cX11_settle 123 = .ok (.iload_n 1, 1) := by decide +kernel
theorem dX11_settle_124 : decode cX11_settle 124 = .ok (.imul, 1) := by decide +kernel
theorem dX11_settle_125 : decode cX11_settle 125 = .ok (.iload_n 3, 1) := by decide +kernel
theorem dX11_settle_126 : decode cX11_settle 126 = .ok (.iadd, 1) := by decide +kernel
theorem dX11_settle_127 : decode cX11_settle 127 = .ok (.iaload, 1) := by decide +kernel
theorem dX11_settle_128 : decode cX11_settle 128 = .ok (.isub, 1) := by decide +kernel
theorem dX11_settle_129 : decode cX11_settle 129 = .ok (.iastore, 1) := by decide +kernel
theorem dX11_settle_130 : decode cX11_settle 130 = .ok (.iinc 3 1, 3) := by decide +kernel
theorem dX11_settle_133 : decode cX11_settle 133 = .ok (.goto (-69), 3) := by decide +kernel
theorem dX11_settle_136 : decode cX11_settle 136 = .ok (.aload_n 0, 1) := by decide +kernel
theorem dX11_settle_137 : decode cX11_settle 137 = .ok (.getfield 68, 3) := by decide +kernel
theorem dX11_settle_140 : decode cX11_settle 140 = .ok (.iload_n 1, 1) := by decide +kernel
theorem dX11_settle_141 : decode cX11_settle 141 = .ok (.aload_n 0, 1) := by decide +kernel
theorem dX11_settle_142 : decode cX11_settle 142 = .ok (.getfield 204, 3) := by decide +kernel
theorem dX11_settle_145 : decode cX11_settle 145 = .ok (.bipush (-9), 2) := by decide +kernel
theorem dX11_settle_147 : decode cX11_settle 147 = .ok (.if_icmp .ne 7, 3) := by decide +kernel
theorem dX11_settle_150 : decode cX11_settle 150 = .ok (.iconst 3, 1) := by decide +kernel
theorem dX11_settle_151 : decode cX11_settle 151 = .ok (.goto 4, 3) := by decide +kernel
theorem dX11_settle_154 : decode cX11_settle 154 = .ok (.iconst 2, 1) := by decide +kernel
theorem dX11_settle_155 : decode cX11_settle 155 = .ok (.iastore, 1) := by decide +kernel
theorem dX11_settle_156 : decode cX11_settle 156 = .ok (.aload_n 0, 1) := by decide +kernel
theorem dX11_settle_157 : decode cX11_settle 157 = .ok (.iload_n 1, 1) := by decide +kernel
theorem dX11_settle_158 : decode cX11_settle 158 = .ok (.iconst 0, 1) := by decide +kernel
theorem dX11_settle_159 : decode cX11_settle 159 = .ok (.iconst 0, 1) := by decide +kernel
theorem dX11_settle_160 : decode cX11_settle 160 = .ok (.aload_n 0, 1) := by decide +kernel
theorem dX11_settle_161 : decode cX11_settle 161 = .ok (.iconst 0, 1) := by decide +kernel
theorem dX11_settle_162 : decode cX11_settle 162 = .ok (.aload_n 0, 1) := by decide +kernel
theorem dX11_settle_163 : decode cX11_settle 163 = .ok (.getfield 47, 3) := by decide +kernel
theorem dX11_settle_166 : decode cX11_settle 166 = .ok (.iload_n 1, 1) := by decide +kernel
theorem dX11_settle_167 : decode cX11_settle 167 = .ok (.iaload, 1) := by decide +kernel
theorem dX11_settle_168 : decode cX11_settle 168 = .ok (.invokevirtual 226, 3) := by decide +kernel
theorem dX11_settle_171 : decode cX11_settle 171 = .ok (.invokevirtual 183, 3) := by decide +kernel
theorem dX11_settle_174 : decode cX11_settle 174 = .ok (.return_, 1) := by decide +kernel
theorem dX11_serve_0 : decode cX11_serve 0 = .ok (.iconst 0, 1) := by decide +kernel
theorem dX11_serve_1 : decode cX11_serve 1 = .ok (.istore_n 1, 1) := by decide +kernel
theorem dX11_serve_2 : decode cX11_serve 2 = .ok (.iload_n 1, 1) := by decide +kernel
theorem dX11_serve_3 : decode cX11_serve 3 = .ok (.aload_n 0, 1) := by decide +kernel
theorem dX11_serve_4 : decode cX11_serve 4 = .ok (.getfield 161, 3) := by decide +kernel
theorem dX11_serve_7 : decode cX11_serve 7 = .ok (.if_icmp .ge 59, 3) := by decide +kernel
theorem dX11_serve_10 : decode cX11_serve 10 = .ok (.aload_n 0, 1) := by decide +kernel
theorem dX11_serve_11 : decode cX11_serve 11 = .ok (.getfield 101, 3) := by decide +kernel
theorem dX11_serve_14 : decode cX11_serve 14 = .ok (.iload_n 1, 1) := by decide +kernel
theorem dX11_serve_15 : decode cX11_serve 15 = .ok (.iaload, 1) := by decide +kernel
theorem dX11_serve_16 : decode cX11_serve 16 = .ok (.bipush (-9), 2) := by decide +kernel
theorem dX11_serve_18 : decode cX11_serve 18 = .ok (.if_icmp .eq 42, 3) := by decide +kernel
theorem dX11_serve_21 : decode cX11_serve 21 = .ok (.aload_n 0, 1) := by decide +kernel
theorem dX11_serve_22 : decode cX11_serve 22 = .ok (.getfield 104, 3) := by decide +kernel
theorem dX11_serve_25 : decode cX11_serve 25 = .ok (.iload_n 1, 1) := by decide +kernel
theorem dX11_serve_26 : decode cX11_serve 26 = .ok (.dup2, 1) := by decide +kernel
theorem dX11_serve_27 : decode cX11_serve 27 = .ok (.iaload, 1) := by decide +kernel
theorem dX11_serve_28 : decode cX11_serve 28 = .ok (.iconst 1, 1) := by decide +kernel
theorem dX11_serve_29 : decode cX11_serve 29 = .ok (.isub, 1) := by decide +kernel
theorem dX11_serve_30 : decode cX11_serve 30 = .ok (.iastore, 1) := by decide +kernel
theorem dX11_serve_31 : decode cX11_serve 31 = .ok (.aload_n 0, 1) := by decide +kernel
theorem dX11_serve_32 : decode cX11_serve 32 = .ok (.getfield 104, 3) := by decide +kernel
theorem dX11_serve_35 : decode cX11_serve 35 = .ok (.iload_n 1, 1) := by decide +kernel
theorem dX11_serve_36 : decode cX11_serve 36 = .ok (.iaload, 1) := by decide +kernel
theorem dX11_serve_37 : decode cX11_serve 37 = .ok (.ifCond .ne 23, 3) := by decide +kernel
theorem dX11_serve_40 : decode cX11_serve 40 = .ok (.aload_n 0, 1) := by decide +kernel
theorem dX11_serve_41 : decode cX11_serve 41 = .ok (.getfield 101, 3) := by decide +kernel
theorem dX11_serve_44 : decode cX11_serve 44 = .ok (.iload_n 1, 1) := by decide +kernel
theorem dX11_serve_45 : decode cX11_serve 45 = .ok (.iaload, 1) := by decide +kernel
theorem dX11_serve_46 : decode cX11_serve 46 = .ok (.istore_n 2, 1) := by decide +kernel
theorem dX11_serve_47 : decode cX11_serve 47 = .ok (.aload_n 0, 1) := by decide +kernel
theorem dX11_serve_48 : decode cX11_serve 48 = .ok (.getfield 101, 3) := by decide +kernel
theorem dX11_serve_51 : decode cX11_serve 51 = .ok (.iload_n 1, 1) := by decide +kernel
theorem dX11_serve_52 : decode cX11_serve 52 = .ok (.bipush (-9), 2) := by decide +kernel
theorem dX11_serve_54 : decode cX11_serve 54 = .ok (.iastore, 1) := by decide +kernel
theorem dX11_serve_55 : decode cX11_serve 55 = .ok (.aload_n 0, 1) := by decide +kernel
theorem dX11_serve_56 : decode cX11_serve 56 = .ok (.iload_n 2, 1) := by decide +kernel
theorem dX11_serve_57 : decode cX11_serve 57 = .ok (.invokevirtual 242, 3) := by decide +kernel
theorem dX11_serve_60 : decode cX11_serve 60 = .ok (.iinc 1 1, 3) := by decide +kernel
theorem dX11_serve_63 : decode cX11_serve 63 = .ok (.goto (-61), 3) := by decide +kernel
theorem dX11_serve_66 : decode cX11_serve 66 = .ok (.return_, 1) := by decide +kernel
theorem dX11_bring_0 : decode cX11_bring 0 = .ok (.iconst 0, 1) := by decide +kernel
theorem dX11_bring_1 : decode cX11_bring 1 = .ok (.istore_n 1, 1) := by decide +kernel
theorem dX11_bring_2 : decode cX11_bring 2 = .ok (.iconst 0, 1) := by decide +kernel
theorem dX11_bring_3 : decode cX11_bring 3 = .ok (.istore_n 2, 1) := by decide +kernel
theorem dX11_bring_4 : decode cX11_bring 4 = .ok (.iload_n 2, 1) := by decide +kernel
theorem dX11_bring_5 : decode cX11_bring 5 = .ok (.aload_n 0, 1) := by decide +kernel
theorem dX11_bring_6 : decode cX11_bring 6 = .ok (.getfield 167, 3) := by decide +kernel
theorem dX11_bring_9 : decode cX11_bring 9 = .ok (.if_icmp .ge 84, 3) := by decide +kernel
theorem dX11_bring_12 : decode cX11_bring 12 = .ok (.aload_n 0, 1) := by decide +kernel
theorem dX11_bring_13 : decode cX11_bring 13 = .ok (.getfield 113, 3) := by decide +kernel
theorem dX11_bring_16 : decode cX11_bring 16 = .ok (.iload_n 2, 1) := by decide +kernel
theorem dX11_bring_17 : decode cX11_bring 17 = .ok (.iaload, 1) := by decide +kernel
theorem dX11_bring_18 : decode cX11_bring 18 = .ok (.aload_n 0, 1) := by decide +kernel
theorem dX11_bring_19 : decode cX11_bring 19 = .ok (.getfield 170, 3) := by decide +kernel
theorem dX11_bring_22 : decode cX11_bring 22 = .ok (.if_icmp .ne 26, 3) := by decide +kernel
theorem dX11_bring_25 : decode cX11_bring 25 = .ok (.aload_n 0, 1) := by decide +kernel
theorem dX11_bring_26 : decode cX11_bring 26 = .ok (.getfield 80, 3) := by decide +kernel
theorem dX11_bring_29 : decode cX11_bring 29 = .ok (.aload_n 0, 1) := by decide +kernel
theorem dX11_bring_30 : decode cX11_bring 30 = .ok (.getfield 107, 3) := by decide +kernel
theorem dX11_bring_33 : decode cX11_bring 33 = .ok (.iload_n 2, 1) := by decide +kernel
theorem dX11_bring_34 : decode cX11_bring 34 = .ok (.iaload, 1) := by decide +kernel
theorem dX11_bring_35 : decode cX11_bring 35 = .ok (.dup2, 1) := by decide +kernel
theorem dX11_bring_36 : decode cX11_bring 36 = .ok (.iaload, 1) := by decide +kernel
theorem dX11_bring_37 : decode cX11_bring 37 = .ok (.aload_n 0, 1) := by decide +kernel
theorem dX11_bring_38 : decode cX11_bring 38 = .ok (.getfield 110, 3) := by decide +kernel
theorem dX11_bring_41 : decode cX11_bring 41 = .ok (.iload_n 2, 1) := by decide +kernel
theorem dX11_bring_42 : decode cX11_bring 42 = .ok (.iaload, 1) := by decide +kernel
theorem dX11_bring_43 : decode cX11_bring 43 = .ok (.iadd, 1) := by decide +kernel
theorem dX11_bring_44 : decode cX11_bring 44 = .ok (.iastore, 1) := by decide +kernel
theorem dX11_bring_45 : decode cX11_bring 45 = .ok (.goto 42, 3) := by decide +kernel
theorem dX11_bring_48 : decode cX11_bring 48 = .ok (.aload_n 0, 1) := by decide +kernel
theorem dX11_bring_49 : decode cX11_bring 49 = .ok (.getfield 107, 3) := by decide +kernel
theorem dX11_bring_52 : decode cX11_bring 52 = .ok (.iload_n 1, 1) := by decide +kernel
theorem dX11_bring_53 : decode cX11_bring 53 = .ok (.aload_n 0, 1) := by decide +kernel
theorem dX11_bring_54 : decode cX11_bring 54 = .ok (.getfield 107, 3) := by decide +kernel
theorem dX11_bring_57 : decode cX11_bring 57 = .ok (.iload_n 2, 1) := by decide +kernel
theorem dX11_bring_58 : decode cX11_bring 58 = .ok (.iaload, 1) := by decide +kernel
theorem dX11_bring_59 : decode cX11_bring 59 = .ok (.iastore, 1) := by decide +kernel
theorem dX11_bring_60 : decode cX11_bring 60 = .ok (.aload_n 0, 1) := by decide +kernel
theorem dX11_bring_61 : decode cX11_bring 61 = .ok (.getfield 110, 3) := by decide +kernel
theorem dX11_bring_64 : decode cX11_bring 64 = .ok (.iload_n 1, 1) := by decide +kernel
theorem dX11_bring_65 : decode cX11_bring 65 = .ok (.aload_n 0, 1) := by decide +kernel
theorem dX11_bring_66 : decode cX11_bring 66 = .ok (.getfield 110, 3) := by decide +kernel
theorem dX11_bring_69 : decode cX11_bring 69 = .ok (.iload_n 2, 1) := by decide +kernel
theorem dX11_bring_70 : decode cX11_bring 70 = .ok (.iaload, 1) := by decide +kernel
theorem dX11_bring_71 : decode cX11_bring 71 = .ok (.iastore, 1) := by decide +kernel
theorem dX11_bring_72 : decode cX11_bring 72 = .ok (.aload_n 0, 1) := by decide +kernel
theorem dX11_bring_73 : decode cX11_bring 73 = .ok (.getfield 113, 3) := by decide +kernel
theorem dX11_bring_76 : decode cX11_bring 76 = .ok (.iload_n 1, 1) := by decide +kernel
theorem dX11_bring_77 : decode cX11_bring 77 = .ok (.aload_n 0, 1) := by decide +kernel
theorem dX11_bring_78 : decode cX11_bring 78 = .ok (.getfield 113, 3) := by decide +kernel
theorem dX11_bring_81 : decode cX11_bring 81 = .ok (.iload_n 2, 1) := by decide +kernel
theorem dX11_bring_82 : decode cX11_bring 82 = .ok (.iaload, 1) := by decide +kernel
theorem dX11_bring_83 : decode cX11_bring 83 = .ok (.iastore, 1) := by decide +kernel
theorem dX11_bring_84 : decode cX11_bring 84 = .ok (.iinc 1 1, 3) := by decide +kernel
theorem dX11_bring_87 : decode cX11_bring 87 = .ok (.iinc 2 1, 3) := by decide +kernel
theorem dX11_bring_90 : decode cX11_bring 90 = .ok (.goto (-86), 3) := by decide +kernel
theorem dX11_bring_93 : decode cX11_bring 93 = .ok (.aload_n 0, 1) := by decide +kernel
theorem dX11_bring_94 : decode cX11_bring 94 = .ok (.iload_n 1, 1) := by decide +kernel
theorem dX11_bring_95 : decode cX11_bring 95 = .ok (.putfield 167, 3) := by decide +kernel
theorem dX11_bring_98 : decode cX11_bring 98 = .ok (.return_, 1) := by decide +kernel
theorem dX11_sentOf_0 : decode cX11_sentOf 0 = .ok (.aload_n 0, 1) := by decide +kernel
theorem dX11_sentOf_1 : decode cX11_sentOf 1 = .ok (.getfield 68, 3) := by decide +kernel
theorem dX11_sentOf_4 : decode cX11_sentOf 4 = .ok (.iload_n 1, 1) := by decide +kernel
theorem dX11_sentOf_5 : decode cX11_sentOf 5 = .ok (.iaload, 1) := by decide +kernel
theorem dX11_sentOf_6 : decode cX11_sentOf 6 = .ok (.ifCond .ne 7, 3) := by decide +kernel
theorem dX11_sentOf_9 : decode cX11_sentOf 9 = .ok (.iconst 0, 1) := by decide +kernel
theorem dX11_sentOf_10 : decode cX11_sentOf 10 = .ok (.goto 9, 3) := by decide +kernel
theorem dX11_sentOf_13 : decode cX11_sentOf 13 = .ok (.aload_n 0, 1) := by decide +kernel
theorem dX11_sentOf_14 : decode cX11_sentOf 14 = .ok (.getfield 74, 3) := by decide +kernel
theorem dX11_sentOf_17 : decode cX11_sentOf 17 = .ok (.iload_n 1, 1) := by decide +kernel
theorem dX11_sentOf_18 : decode cX11_sentOf 18 = .ok (.iaload, 1) := by decide +kernel
theorem dX11_sentOf_19 : decode cX11_sentOf 19 = .ok (.ireturn, 1) := by decide +kernel
theorem dX11_isAhead_0 : decode cX11_isAhead 0 = .ok (.iload_n 3, 1) := by decide +kernel
theorem dX11_isAhead_1 : decode cX11_isAhead 1 = .ok (.ifCond .ne 19, 3) := by decide +kernel
theorem dX11_isAhead_4 : decode cX11_isAhead 4 = .ok (.aload_n 0, 1) := by decide +kernel
theorem dX11_isAhead_5 : decode cX11_isAhead 5 = .ok (.getfield 56, 3) := by decide +kernel
theorem dX11_isAhead_8 : decode cX11_isAhead 8 = .ok (.iload_n 1, 1) := by decide +kernel
theorem dX11_isAhead_9 : decode cX11_isAhead 9 = .ok (.iaload, 1) := by decide +kernel
theorem dX11_isAhead_10 : decode cX11_isAhead 10 = .ok (.aload_n 0, 1) := by decide +kernel
theorem dX11_isAhead_11 : decode cX11_isAhead 11 = .ok (.getfield 56, 3) := by decide +kernel
theorem dX11_isAhead_14 : decode cX11_isAhead 14 = .ok (.iload_n 2, 1) := by decide +kernel
theorem dX11_isAhead_15 : decode cX11_isAhead 15 = .ok (.iaload, 1) := by decide +kernel
theorem dX11_isAhead_16 : decode cX11_isAhead 16 = .ok (.isub, 1) := by decide +kernel
theorem dX11_isAhead_17 : decode cX11_isAhead 17 = .ok (.goto 35, 3) := by decide +kernel
theorem dX11_isAhead_20 : decode cX11_isAhead 20 = .ok (.iload_n 3, 1) := by decide +kernel
theorem dX11_isAhead_21 : decode cX11_isAhead 21 = .ok (.iconst 1, 1) := by decide +kernel
theorem dX11_isAhead_22 : decode cX11_isAhead 22 = .ok (.if_icmp .ne 17, 3) := by decide +kernel
theorem dX11_isAhead_25 : decode cX11_isAhead 25 = .ok (.aload_n 0, 1) := by decide +kernel
theorem dX11_isAhead_26 : decode cX11_isAhead 26 = .ok (.iload_n 1, 1) := by decide +kernel
theorem dX11_isAhead_27 : decode cX11_isAhead 27 = .ok (.invokevirtual 245, 3) := by decide +kernel
theorem dX11_isAhead_30 : decode cX11_isAhead 30 = .ok (.aload_n 0, 1) := by decide +kernel
theorem dX11_isAhead_31 : decode cX11_isAhead 31 = .ok (.iload_n 2, 1) := by decide +kernel
theorem dX11_isAhead_32 : decode cX11_isAhead 32 = .ok (.invokevirtual 245, 3) := by decide +kernel
theorem dX11_isAhead_35 : decode cX11_isAhead 35 = .ok (.isub, 1) := by decide +kernel
theorem dX11_isAhead_36 : decode cX11_isAhead 36 = .ok (.goto 16, 3) := by decide +kernel
theorem dX11_isAhead_39 : decode cX11_isAhead 39 = .ok (.aload_n 0, 1) := by decide +kernel
theorem dX11_isAhead_40 : decode cX11_isAhead 40 = .ok (.getfield 47, 3) := by decide +kernel
theorem dX11_isAhead_43 : decode cX11_isAhead 43 = .ok (.iload_n 1, 1) := by decide +kernel
theorem dX11_isAhead_44 : decode cX11_isAhead 44 = .ok (.iaload, 1) := by decide +kernel
theorem dX11_isAhead_45 : decode cX11_isAhead 45 = .ok (.aload_n 0, 1) := by decide +kernel
theorem dX11_isAhead_46 : decode cX11_isAhead 46 = .ok (.getfield 47, 3) := by decide +kernel
theorem dX11_isAhead_49 : decode cX11_isAhead 49 = .ok (.iload_n 2, 1) := by decide +kernel
theorem dX11_isAhead_50 : decode cX11_isAhead 50 = .ok (.iaload, 1) := by decide +kernel
theorem dX11_isAhead_51 : decode cX11_isAhead 51 = .ok (.isub, 1) := by decide +kernel
theorem dX11_isAhead_52 : decode cX11_isAhead 52 = .ok (.istore 4, 2) := by decide +kernel
theorem dX11_isAhead_54 : decode cX11_isAhead 54 = .ok (.iload 4, 2) := by decide +kernel
theorem dX11_isAhead_56 : decode cX11_isAhead 56 = .ok (.ifCond .ne 23, 3) := by decide +kernel
theorem dX11_isAhead_59 : decode cX11_isAhead 59 = .ok (.iload_n 3, 1) := by decide +kernel
theorem dX11_isAhead_60 : decode cX11_isAhead 60 = .ok (.iconst 2, 1) := by decide +kernel
theorem dX11_isAhead_61 : decode cX11_isAhead 61 = .ok (.if_icmp .ne 18, 3) := by decide +kernel
theorem dX11_isAhead_64 : decode cX11_isAhead 64 = .ok (.aload_n 0, 1) := by decide +kernel
theorem dX11_isAhead_65 : decode cX11_isAhead 65 = .ok (.getfield 56, 3) := by decide +kernel
theorem dX11_isAhead_68 : decode cX11_isAhead 68 = .ok (.iload_n 1, 1) := by decide +kernel
theorem dX11_isAhead_69 : decode cX11_isAhead 69 = .ok (.iaload, 1) := by decide +kernel
theorem dX11_isAhead_70 : decode cX11_isAhead 70 = .ok (.aload_n 0, 1) := by decide +kernel
theorem dX11_isAhead_71 : decode cX11_isAhead 71 = .ok (.getfield 56, 3) := by decide +kernel
theorem dX11_isAhead_74 : decode cX11_isAhead 74 = .ok (.iload_n 2, 1) := by decide +kernel
theorem dX11_isAhead_75 : decode cX11_isAhead 75 = .ok (.iaload, 1) := by decide +kernel
theorem dX11_isAhead_76 : decode cX11_isAhead 76 = .ok (.isub, 1) := by decide +kernel
theorem dX11_isAhead_77 : decode cX11_isAhead 77 = .ok (.istore 4, 2) := by decide +kernel
theorem dX11_isAhead_79 : decode cX11_isAhead 79 = .ok (.iload 4, 2) := by decide +kernel
theorem dX11_isAhead_81 : decode cX11_isAhead 81 = .ok (.ifCond .lt 13, 3) := by decide +kernel
theorem dX11_isAhead_84 : decode cX11_isAhead 84 = .ok (.iload 4, 2) := by decide +kernel
theorem dX11_isAhead_86 : decode cX11_isAhead 86 = .ok (.ifCond .ne 12, 3) := by decide +kernel
theorem dX11_isAhead_89 : decode cX11_isAhead 89 = .ok (.iload_n 1, 1) := by decide +kernel
theorem dX11_isAhead_90 : decode cX11_isAhead 90 = .ok (.iload_n 2, 1) := by decide +kernel
theorem dX11_isAhead_91 : decode cX11_isAhead 91 = .ok (.if_icmp .ge 7, 3) := by decide +kernel
theorem dX11_isAhead_94 : decode cX11_isAhead 94 = .ok (.iconst 1, 1) := by decide +kernel
theorem dX11_isAhead_95 : decode cX11_isAhead 95 = .ok (.goto 4, 3) := by decide +kernel
theorem dX11_isAhead_98 : decode cX11_isAhead 98 = .ok (.iconst 0, 1) := by decide +kernel
theorem dX11_isAhead_99 : decode cX11_isAhead 99 = .ok (.ireturn, 1) := by decide +kernel
theorem dX11_layRow_0 : decode cX11_layRow 0 = .ok (.aload_n 0, 1) := by decide +kernel
theorem dX11_layRow_1 : decode cX11_layRow 1 = .ok (.iconst 0, 1) := by decide +kernel
theorem dX11_layRow_2 : decode cX11_layRow 2 = .ok (.putfield 248, 3) := by decide +kernel
theorem dX11_layRow_5 : decode cX11_layRow 5 = .ok (.iconst 0, 1) := by decide +kernel
theorem dX11_layRow_6 : decode cX11_layRow 6 = .ok (.istore_n 2, 1) := by decide +kernel
theorem dX11_layRow_7 : decode cX11_layRow 7 = .ok (.iload_n 2, 1) := by decide +kernel
theorem dX11_layRow_8 : decode cX11_layRow 8 = .ok (.aload_n 0, 1) := by decide +kernel
theorem dX11_layRow_9 : decode cX11_layRow 9 = .ok (.getfield 158, 3) := by decide +kernel
theorem dX11_layRow_12 : decode cX11_layRow 12 = .ok (.if_icmp .ge 82, 3) := by decide +kernel
theorem dX11_layRow_15 : decode cX11_layRow 15 = .ok (.aload_n 0, 1) := by decide +kernel
theorem dX11_layRow_16 : decode cX11_layRow 16 = .ok (.getfield 50, 3) := by decide +kernel
theorem dX11_layRow_19 : decode cX11_layRow 19 = .ok (.iload_n 2, 1) := by decide +kernel
theorem dX11_layRow_20 : decode cX11_layRow 20 = .ok (.iaload, 1) := by decide +kernel
theorem dX11_layRow_21 : decode cX11_layRow 21 = .ok (.iconst 3, 1) := by decide +kernel
theorem dX11_layRow_22 : decode cX11_layRow 22 = .ok (.if_icmp .ne 66, 3) := by decide +kernel
theorem dX11_layRow_25 : decode cX11_layRow 25 = .ok (.aload_n 0, 1) := by decide +kernel
theorem dX11_layRow_26 : decode cX11_layRow 26 = .ok (.getfield 248, 3) := by decide +kernel
theorem dX11_layRow_29 : decode cX11_layRow 29 = .ok (.istore_n 3, 1) := by decide +kernel
theorem dX11_layRow_30 : decode cX11_layRow 30 = .ok (.iload_n 3, 1) := by decide +kernel
theorem dX11_layRow_31 : decode cX11_layRow 31 = .ok (.ifCond .le 40, 3) := by decide +kernel
theorem dX11_layRow_34 : decode cX11_layRow 34 = .ok (.aload_n 0, 1) := by decide +kernel
theorem dX11_layRow_35 : decode cX11_layRow 35 = .ok (.iload_n 2, 1) := by decide +kernel
theorem dX11_layRow_36 : decode cX11_layRow 36 = .ok (.aload_n 0, 1) := by decide +kernel
theorem dX11_layRow_37 : decode cX11_layRow 37 = .ok (.getfield 131, 3) := by decide +kernel
theorem dX11_layRow_40 : decode cX11_layRow 40 = .ok (.iload_n 3, 1) := by decide +kernel
theorem dX11_layRow_41 : decode cX11_layRow 41 = .ok (.iconst 1, 1) := by decide +kernel
theorem dX11_layRow_42 : decode cX11_layRow 42 = .ok (.isub, 1) := by decide +kernel
theorem dX11_layRow_43 : decode cX11_layRow 43 = .ok (.iaload, 1) := by decide +kernel
theorem dX11_layRow_44 : decode cX11_layRow 44 = .ok (.iload_n 1, 1) := by decide +kernel
theorem dX11_layRow_45 : decode cX11_layRow 45 = .ok (.invokevirtual 251, 3) := by decide +kernel
theorem dX11_layRow_48 : decode cX11_layRow 48 = .ok (.ifCond .eq 23, 3) := by decide +kernel
theorem dX11_layRow_51 : decode cX11_layRow 51 = .ok (.aload_n 0, 1) := by decide +kernel
theorem dX11_layRow_52 : decode cX11_layRow 52 = .ok (.getfield 131, 3) := by decide +kernel
theorem dX11_layRow_55 : decode cX11_layRow 55 = .ok (.iload_n 3, 1) := by decide +kernel
theorem dX11_layRow_56 : decode cX11_layRow 56 = .ok (.aload_n 0, 1) := by decide +kernel
theorem dX11_layRow_57 : decode cX11_layRow 57 = .ok (.getfield 131, 3) := by decide +kernel
theorem dX11_layRow_60 : decode cX11_layRow 60 = .ok (.iload_n 3, 1) := by decide +kernel
theorem dX11_layRow_61 : decode cX11_layRow 61 = .ok (.iconst 1, 1) := by decide +kernel
theorem dX11_layRow_62 : decode cX11_layRow 62 = .ok (.isub, 1) := by decide +kernel
theorem dX11_layRow_63 : decode cX11_layRow 63 = .ok (.iaload, 1) := by decide +kernel
theorem dX11_layRow_64 : decode cX11_layRow 64 = .ok (.iastore, 1) := by decide +kernel
theorem dX11_layRow_65 : decode cX11_layRow 65 = .ok (.iinc 3 (-1), 3) := by decide +kernel
theorem dX11_layRow_68 : decode cX11_layRow 68 = .ok (.goto (-38), 3) := by decide +kernel
theorem dX11_layRow_71 : decode cX11_layRow 71 = .ok (.aload_n 0, 1) := by decide +kernel
theorem dX11_layRow_72 : decode cX11_layRow 72 = .ok (.getfield 131, 3) := by decide +kernel
theorem dX11_layRow_75 : decode cX11_layRow 75 = .ok (.iload_n 3, 1) := by decide +kernel
theorem dX11_layRow_76 : decode cX11_layRow 76 = .ok (.iload_n 2, 1) := by decide +kernel
theorem dX11_layRow_77 : decode cX11_layRow 77 = .ok (.iastore, 1) := by decide +kernel
theorem dX11_layRow_78 : decode cX11_layRow 78 = .ok (.aload_n 0, 1) := by decide +kernel
theorem dX11_layRow_79 : decode cX11_layRow 79 = .ok (.dup, 1) := by decide +kernel
theorem dX11_layRow_80 : decode cX11_layRow 80 = .ok (.getfield 248, 3) := by decide +kernel
theorem dX11_layRow_83 : decode cX11_layRow 83 = .ok (.iconst 1, 1) := by decide +kernel
theorem dX11_layRow_84 : decode cX11_layRow 84 = .ok (.iadd, 1) := by decide +kernel
theorem dX11_layRow_85 : decode cX11_layRow 85 = .ok (.putfield 248, 3) := by decide +kernel
theorem dX11_layRow_88 : decode cX11_layRow 88 = .ok (.iinc 2 1, 3) := by decide +kernel
theorem dX11_layRow_91 : decode cX11_layRow 91 = .ok (.goto (-84), 3) := by decide +kernel
theorem dX11_layRow_94 : decode cX11_layRow 94 = .ok (.return_, 1) := by decide +kernel
theorem dX11_takeOn_0 : decode cX11_takeOn 0 = .ok (.iconst 0, 1) := by decide +kernel
theorem dX11_takeOn_1 : decode cX11_takeOn 1 = .ok (.istore_n 1, 1) := by decide +kernel
theorem dX11_takeOn_2 : decode cX11_takeOn 2 = .ok (.iload_n 1, 1) := by decide +kernel
theorem dX11_takeOn_3 : decode cX11_takeOn 3 = .ok (.aload_n 0, 1) := by decide +kernel
theorem dX11_takeOn_4 : decode cX11_takeOn 4 = .ok (.getfield 161, 3) := by decide +kernel
theorem dX11_takeOn_7 : decode cX11_takeOn 7 = .ok (.if_icmp .ge 71, 3) := by decide +kernel
theorem dX11_takeOn_10 : decode cX11_takeOn 10 = .ok (.aload_n 0, 1) := by decide +kernel
theorem dX11_takeOn_11 : decode cX11_takeOn 11 = .ok (.getfield 101, 3) := by decide +kernel
theorem dX11_takeOn_14 : decode cX11_takeOn 14 = .ok (.iload_n 1, 1) := by decide +kernel
theorem dX11_takeOn_15 : decode cX11_takeOn 15 = .ok (.iaload, 1) := by decide +kernel
theorem dX11_takeOn_16 : decode cX11_takeOn 16 = .ok (.bipush (-9), 2) := by decide +kernel
theorem dX11_takeOn_18 : decode cX11_takeOn 18 = .ok (.if_icmp .ne 54, 3) := by decide +kernel
theorem dX11_takeOn_21 : decode cX11_takeOn 21 = .ok (.aload_n 0, 1) := by decide +kernel
theorem dX11_takeOn_22 : decode cX11_takeOn 22 = .ok (.aload_n 0, 1) := by decide +kernel
theorem dX11_takeOn_23 : decode cX11_takeOn 23 = .ok (.getfield 164, 3) := by decide +kernel
theorem dX11_takeOn_26 : decode cX11_takeOn 26 = .ok (.invokevirtual 254, 3) := by decide +kernel
theorem dX11_takeOn_29 : decode cX11_takeOn 29 = .ok (.aload_n 0, 1) := by decide +kernel
theorem dX11_takeOn_30 : decode cX11_takeOn 30 = .ok (.getfield 248, 3) := by decide +kernel
theorem dX11_takeOn_33 : decode cX11_takeOn 33 = .ok (.ifCond .le 39, 3) := by decide +kernel
theorem dX11_takeOn_36 : decode cX11_takeOn 36 = .ok (.aload_n 0, 1) := by decide +kernel
theorem dX11_takeOn_37 : decode cX11_takeOn 37 = .ok (.getfield 101, 3) := by decide +kernel
theorem dX11_takeOn_40 : decode cX11_takeOn 40 = .ok (.iload_n 1, 1) := by decide +kernel
theorem dX11_takeOn_41 : decode cX11_takeOn 41 = .ok (.aload_n 0, 1) := by decide +kernel
theorem dX11_takeOn_42 : decode cX11_takeOn 42 = .ok (.getfield 131, 3) := by decide +kernel
theorem dX11_takeOn_45 : decode cX11_takeOn 45 = .ok (.iconst 0, 1) := by decide +kernel
theorem dX11_takeOn_46 : decode cX11_takeOn 46 = .ok (.iaload, 1) := by decide +kernel
theorem dX11_takeOn_47 : decode cX11_takeOn 47 = .ok (.iastore, 1) := by decide +kernel
theorem dX11_takeOn_48 : decode cX11_takeOn 48 = .ok (.aload_n 0, 1) := by decide +kernel
theorem dX11_takeOn_49 : decode cX11_takeOn 49 = .ok (.getfield 104, 3) := by decide +kernel
theorem dX11_takeOn_52 : decode cX11_takeOn 52 = .ok (.iload_n 1, 1) := by decide +kernel
theorem dX11_takeOn_53 : decode cX11_takeOn 53 = .ok (.aload_n 0, 1) := by decide +kernel
theorem dX11_takeOn_54 : decode cX11_takeOn 54 = .ok (.getfield 98, 3) := by decide +kernel
theorem dX11_takeOn_57 : decode cX11_takeOn 57 = .ok (.iload_n 1, 1) := by decide +kernel
theorem dX11_takeOn_58 : decode cX11_takeOn 58 = .ok (.iaload, 1) := by decide +kernel
theorem dX11_takeOn_59 : decode cX11_takeOn 59 = .ok (.iastore, 1) := by decide +kernel
theorem dX11_takeOn_60 : decode cX11_takeOn 60 = .ok (.aload_n 0, 1) := by decide +kernel
theorem dX11_takeOn_61 : decode cX11_takeOn 61 = .ok (.getfield 50, 3) := by decide +kernel
theorem dX11_takeOn_64 : decode cX11_takeOn 64 = .ok (.aload_n 0, 1) := by decide +kernel
theorem dX11_takeOn_65 : decode cX11_takeOn 65 = .ok (.getfield 131, 3) := by decide +kernel
theorem dX11_takeOn_68 : decode cX11_takeOn 68 = .ok (.iconst 0, 1) := by decide +kernel
theorem dX11_takeOn_69 : decode cX11_takeOn 69 = .ok (.iaload, 1) := by decide +kernel
theorem dX11_takeOn_70 : decode cX11_takeOn 70 = .ok (.iconst 4, 1) := by decide +kernel
theorem dX11_takeOn_71 : decode cX11_takeOn 71 = .ok (.iastore, 1) := by decide +kernel
theorem dX11_takeOn_72 : decode cX11_takeOn 72 = .ok (.iinc 1 1, 3) := by decide +kernel
theorem dX11_takeOn_75 : decode cX11_takeOn 75 = .ok (.goto (-73), 3) := by decide +kernel
theorem dX11_takeOn_78 : decode cX11_takeOn 78 = .ok (.return_, 1) := by decide +kernel
theorem dX11_isEarlier_0 : decode cX11_isEarlier 0 = .ok (.iload_n 2, 1) := by decide +kernel
theorem dX11_isEarlier_1 : decode cX11_isEarlier 1 = .ok (.bipush (-9), 2) := by decide +kernel
theorem dX11_isEarlier_3 : decode cX11_isEarlier 3 = .ok (.if_icmp .eq 38, 3) := by decide +kernel
theorem dX11_isEarlier_6 : decode cX11_isEarlier 6 = .ok (.aload_n 0, 1) := by decide +kernel
theorem dX11_isEarlier_7 : decode cX11_isEarlier 7 = .ok (.getfield 56, 3) := by decide +kernel
theorem dX11_isEarlier_10 : decode cX11_isEarlier 10 = .ok (.iload_n 1, 1) := by decide +kernel
theorem dX11_isEarlier_11 : decode cX11_isEarlier 11 = .ok (.iaload, 1) := by decide +kernel
theorem dX11_isEarlier_12 : decode cX11_isEarlier 12 = .ok (.aload_n 0, 1) := by decide +kernel
theorem dX11_isEarlier_13 : decode cX11_isEarlier 13 = .ok (.getfield 56, 3) := by decide +kernel
theorem dX11_isEarlier_16 : decode cX11_isEarlier 16 = .ok (.iload_n 2, 1) := by decide +kernel
theorem dX11_isEarlier_17 : decode cX11_isEarlier 17 = .ok (.iaload, 1) := by decide +kernel
theorem dX11_isEarlier_18 : decode cX11_isEarlier 18 = .ok (.if_icmp .lt 23, 3) := by decide +kernel
theorem dX11_isEarlier_21 : decode cX11_isEarlier 21 = .ok (.aload_n 0, 1) := by decide +kernel
theorem dX11_isEarlier_22 : decode cX11_isEarlier 22 = .ok (.getfield 56, 3) := by decide +kernel
theorem dX11_isEarlier_25 : decode cX11_isEarlier 25 = .ok (.iload_n 1, 1) := by decide +kernel
theorem dX11_isEarlier_26 : decode cX11_isEarlier 26 = .ok (.iaload, 1) := by decide +kernel
theorem dX11_isEarlier_27 : decode cX11_isEarlier 27 = .ok (.aload_n 0, 1) := by decide +kernel
theorem dX11_isEarlier_28 : decode cX11_isEarlier 28 = .ok (.getfield 56, 3) := by decide +kernel
theorem dX11_isEarlier_31 : decode cX11_isEarlier 31 = .ok (.iload_n 2, 1) := by decide +kernel
theorem dX11_isEarlier_32 : decode cX11_isEarlier 32 = .ok (.iaload, 1) := by decide +kernel
theorem dX11_isEarlier_33 : decode cX11_isEarlier 33 = .ok (.if_icmp .ne 12, 3) := by decide +kernel
theorem dX11_isEarlier_36 : decode cX11_isEarlier 36 = .ok (.iload_n 1, 1) := by decide +kernel
theorem dX11_isEarlier_37 : decode cX11_isEarlier 37 = .ok (.iload_n 2, 1) := by decide +kernel
theorem dX11_isEarlier_38 : decode cX11_isEarlier 38 = .ok (.if_icmp .ge 7, 3) := by decide +kernel
theorem dX11_isEarlier_41 : decode cX11_isEarlier 41 = .ok (.iconst 1, 1) := by decide +kernel
theorem dX11_isEarlier_42 : decode cX11_isEarlier 42 = .ok (.goto 4, 3) := by decide +kernel
theorem dX11_isEarlier_45 : decode cX11_isEarlier 45 = .ok (.iconst 0, 1) := by decide +kernel
theorem dX11_isEarlier_46 : decode cX11_isEarlier 46 = .ok (.ireturn, 1) := by decide +kernel
theorem dX11_waitsUp_0 : decode cX11_waitsUp 0 = .ok (.aload_n 0, 1) := by decide +kernel
theorem dX11_waitsUp_1 : decode cX11_waitsUp 1 = .ok (.getfield 50, 3) := by decide +kernel
theorem dX11_waitsUp_4 : decode cX11_waitsUp 4 = .ok (.iload_n 1, 1) := by decide +kernel
theorem dX11_waitsUp_5 : decode cX11_waitsUp 5 = .ok (.iaload, 1) := by decide +kernel
theorem dX11_waitsUp_6 : decode cX11_waitsUp 6 = .ok (.iconst 1, 1) := by decide +kernel
theorem dX11_waitsUp_7 : decode cX11_waitsUp 7 = .ok (.if_icmp .ne 42, 3) := by decide +kernel
theorem dX11_waitsUp_10 : decode cX11_waitsUp 10 = .ok (.aload_n 0, 1) := by decide +kernel
theorem dX11_waitsUp_11 : decode cX11_waitsUp 11 = .ok (.getfield 53, 3) := by decide +kernel
theorem dX11_waitsUp_14 : decode cX11_waitsUp 14 = .ok (.iload_n 1, 1) := by decide +kernel
theorem dX11_waitsUp_15 : decode cX11_waitsUp 15 = .ok (.iaload, 1) := by decide +kernel
theorem dX11_waitsUp_16 : decode cX11_waitsUp 16 = .ok (.iload_n 2, 1) := by decide +kernel
theorem dX11_waitsUp_17 : decode cX11_waitsUp 17 = .ok (.if_icmp .ne 32, 3) := by decide +kernel
theorem dX11_waitsUp_20 : decode cX11_waitsUp 20 = .ok (.aload_n 0, 1) := by decide +kernel
theorem dX11_waitsUp_21 : decode cX11_waitsUp 21 = .ok (.getfield 59, 3) := by decide +kernel
theorem dX11_waitsUp_24 : decode cX11_waitsUp 24 = .ok (.iload_n 1, 1) := by decide +kernel
theorem dX11_waitsUp_25 : decode cX11_waitsUp 25 = .ok (.baload, 1) := by decide +kernel
theorem dX11_waitsUp_26 : decode cX11_waitsUp 26 = .ok (.ifCond .eq 23, 3) := by decide +kernel
theorem dX11_waitsUp_29 : decode cX11_waitsUp 29 = .ok (.iload_n 3, 1) := by decide +kernel
theorem dX11_waitsUp_30 : decode cX11_waitsUp 30 = .ok (.bipush (-9), 2) := by decide +kernel
theorem dX11_waitsUp_32 : decode cX11_waitsUp 32 = .ok (.if_icmp .eq 13, 3) := by decide +kernel
theorem dX11_waitsUp_35 : decode cX11_waitsUp 35 = .ok (.aload_n 0, 1) := by decide +kernel
theorem dX11_waitsUp_36 : decode cX11_waitsUp 36 = .ok (.getfield 65, 3) := by decide +kernel
theorem dX11_waitsUp_39 : decode cX11_waitsUp 39 = .ok (.iload_n 1, 1) := by decide +kernel
theorem dX11_waitsUp_40 : decode cX11_waitsUp 40 = .ok (.iaload, 1) := by decide +kernel
theorem dX11_waitsUp_41 : decode cX11_waitsUp 41 = .ok (.iload_n 3, 1) := by decide +kernel
theorem dX11_waitsUp_42 : decode cX11_waitsUp 42 = .ok (.if_icmp .ne 7, 3) := by decide +kernel
theorem dX11_waitsUp_45 : decode cX11_waitsUp 45 = .ok (.iconst 1, 1) := by decide +kernel
theorem dX11_waitsUp_46 : decode cX11_waitsUp 46 = .ok (.goto 4, 3) := by decide +kernel
theorem dX11_waitsUp_49 : decode cX11_waitsUp 49 = .ok (.iconst 0, 1) := by decide +kernel
theorem dX11_waitsUp_50 : decode cX11_waitsUp 50 = .ok (.ireturn, 1) := by decide +kernel
theorem dX11_firstUp_0 : decode cX11_firstUp 0 = .ok (.bipush (-9), 2) := by decide +kernel
theorem dX11_firstUp_2 : decode cX11_firstUp 2 = .ok (.istore_n 3, 1) := by decide +kernel
theorem dX11_firstUp_3 : decode cX11_firstUp 3 = .ok (.iconst 0, 1) := by decide +kernel
theorem dX11_firstUp_4 : decode cX11_firstUp 4 = .ok (.istore 4, 2) := by decide +kernel
theorem dX11_firstUp_6 : decode cX11_firstUp 6 = .ok (.iload 4, 2) := by decide +kernel
theorem dX11_firstUp_8 : decode cX11_firstUp 8 = .ok (.aload_n 0, 1) := by decide +kernel
theorem dX11_firstUp_9 : decode cX11_firstUp 9 = .ok (.getfield 158, 3) := by decide +kernel
theorem dX11_firstUp_12 : decode cX11_firstUp 12 = .ok (.if_icmp .ge 37, 3) := by decide +kernel
theorem dX11_firstUp_15 : decode cX11_firstUp 15 = .ok (.aload_n 0, 1) := by decide +kernel
theorem dX11_firstUp_16 : decode cX11_firstUp 16 = .ok (.iload 4, 2) := by decide +kernel
theorem dX11_firstUp_18 : decode cX11_firstUp 18 = .ok (.iload_n 1, 1) := by decide +kernel
theorem dX11_firstUp_19 : decode cX11_firstUp 19 = .ok (.iload_n 2, 1) := by decide +kernel
theorem dX11_firstUp_20 : decode cX11_firstUp 20 = .ok (.invokevirtual 257, 3) := by decide +kernel
theorem dX11_firstUp_23 : decode cX11_firstUp 23 = .ok (.ifCond .eq 18, 3) := by decide +kernel
theorem dX11_firstUp_26 : decode cX11_firstUp 26 = .ok (.aload_n 0, 1) := by decide +kernel
theorem dX11_firstUp_27 : decode cX11_firstUp 27 = .ok (.iload 4, 2) := by decide +kernel
theorem dX11_firstUp_29 : decode cX11_firstUp 29 = .ok (.iload_n 3, 1) := by decide +kernel
theorem dX11_firstUp_30 : decode cX11_firstUp 30 = .ok (.invokevirtual 260, 3) := by decide +kernel
theorem dX11_firstUp_33 : decode cX11_firstUp 33 = .ok (.ifCond .eq 8, 3) := by decide +kernel
theorem dX11_firstUp_36 : decode cX11_firstUp 36 = .ok (.iload 4, 2) := by decide +kernel
theorem dX11_firstUp_38 : decode cX11_firstUp 38 = .ok (.goto 4, 3) := by decide +kernel
theorem dX11_firstUp_41 : decode cX11_firstUp 41 = .ok (.iload_n 3, 1) := by decide +kernel
theorem dX11_firstUp_42 : decode cX11_firstUp 42 = .ok (.istore_n 3, 1) := by decide +kernel
theorem dX11_firstUp_43 : decode cX11_firstUp 43 = .ok (.iinc 4 1, 3) := by decide +kernel
theorem dX11_firstUp_46 : decode cX11_firstUp 46 = .ok (.goto (-40), 3) := by decide +kernel
theorem dX11_firstUp_49 : decode cX11_firstUp 49 = .ok (.iload_n 3, 1) := by decide +kernel
theorem dX11_firstUp_50 : decode cX11_firstUp 50 = .ok (.ireturn, 1) := by decide +kernel
theorem dX11_upOf_0 : decode cX11_upOf 0 = .ok (.aload_n 0, 1) := by decide +kernel
theorem dX11_upOf_1 : decode cX11_upOf 1 = .ok (.getfield 13, 3) := by decide +kernel
theorem dX11_upOf_4 : decode cX11_upOf 4 = .ok (.iload_n 1, 1) := by decide +kernel
theorem dX11_upOf_5 : decode cX11_upOf 5 = .ok (.iaload, 1) := by decide +kernel
theorem dX11_upOf_6 : decode cX11_upOf 6 = .ok (.iconst 2, 1) := by decide +kernel
theorem dX11_upOf_7 : decode cX11_upOf 7 = .ok (.if_icmp .eq 12, 3) := by decide +kernel
theorem dX11_upOf_10 : decode cX11_upOf 10 = .ok (.aload_n 0, 1) := by decide +kernel
theorem dX11_upOf_11 : decode cX11_upOf 11 = .ok (.getfield 29, 3) := by decide +kernel
theorem dX11_upOf_14 : decode cX11_upOf 14 = .ok (.iload_n 1, 1) := by decide +kernel
theorem dX11_upOf_15 : decode cX11_upOf 15 = .ok (.iaload, 1) := by decide +kernel
theorem dX11_upOf_16 : decode cX11_upOf 16 = .ok (.ifCond .ne 11, 3) := by decide +kernel
theorem dX11_upOf_19 : decode cX11_upOf 19 = .ok (.aload_n 0, 1) := by decide +kernel
theorem dX11_upOf_20 : decode cX11_upOf 20 = .ok (.iload_n 1, 1) := by decide +kernel
theorem dX11_upOf_21 : decode cX11_upOf 21 = .ok (.bipush (-9), 2) := by decide +kernel
theorem dX11_upOf_23 : decode cX11_upOf 23 = .ok (.invokevirtual 263, 3) := by decide +kernel
theorem dX11_upOf_26 : decode cX11_upOf 26 = .ok (.ireturn, 1) := by decide +kernel
theorem dX11_upOf_27 : decode cX11_upOf 27 = .ok (.aload_n 0, 1) := by decide +kernel
theorem dX11_upOf_28 : decode cX11_upOf 28 = .ok (.getfield 29, 3) := by decide +kernel
theorem dX11_upOf_31 : decode cX11_upOf 31 = .ok (.iload_n 1, 1) := by decide +kernel
theorem dX11_upOf_32 : decode cX11_upOf 32 = .ok (.iaload, 1) := by decide +kernel
theorem dX11_upOf_33 : decode cX11_upOf 33 = .ok (.iconst 2, 1) := by decide +kernel
theorem dX11_upOf_34 : decode cX11_upOf 34 = .ok (.if_icmp .ne 23, 3) := by decide +kernel
theorem dX11_upOf_37 : decode cX11_upOf 37 = .ok (.aload_n 0, 1) := by decide +kernel
theorem dX11_upOf_38 : decode cX11_upOf 38 = .ok (.getfield 41, 3) := by decide +kernel
theorem dX11_upOf_41 : decode cX11_upOf 41 = .ok (.iload_n 1, 1) := by decide +kernel
theorem dX11_upOf_42 : decode cX11_upOf 42 = .ok (.iaload, 1) := by decide +kernel
theorem dX11_upOf_43 : decode cX11_upOf 43 = .ok (.bipush (-9), 2) := by decide +kernel
theorem dX11_upOf_45 : decode cX11_upOf 45 = .ok (.if_icmp .eq 12, 3) := by decide +kernel
theorem dX11_upOf_48 : decode cX11_upOf 48 = .ok (.aload_n 0, 1) := by decide +kernel
theorem dX11_upOf_49 : decode cX11_upOf 49 = .ok (.getfield 41, 3) := by decide +kernel
theorem dX11_upOf_52 : decode cX11_upOf 52 = .ok (.iload_n 1, 1) := by decide +kernel
theorem dX11_upOf_53 : decode cX11_upOf 53 = .ok (.iaload, 1) := by decide +kernel
theorem dX11_upOf_54 : decode cX11_upOf 54 = .ok (.goto 4, 3) := by decide +kernel
theorem dX11_upOf_57 : decode cX11_upOf 57 = .ok (.iconst 0, 1) := by decide +kernel
theorem dX11_upOf_58 : decode cX11_upOf 58 = .ok (.istore_n 2, 1) := by decide +kernel
theorem dX11_upOf_59 : decode cX11_upOf 59 = .ok (.iconst 0, 1) := by decide +kernel
theorem dX11_upOf_60 : decode cX11_upOf 60 = .ok (.istore_n 3, 1) := by decide +kernel
theorem dX11_upOf_61 : decode cX11_upOf 61 = .ok (.iload_n 3, 1) := by decide +kernel
theorem dX11_upOf_62 : decode cX11_upOf 62 = .ok (.aload_n 0, 1) := by decide +kernel
theorem dX11_upOf_63 : decode cX11_upOf 63 = .ok (.getfield 143, 3) := by decide +kernel
theorem dX11_upOf_66 : decode cX11_upOf 66 = .ok (.if_icmp .ge 60, 3) := by decide +kernel
theorem dX11_upOf_69 : decode cX11_upOf 69 = .ok (.iload_n 2, 1) := by decide +kernel
theorem dX11_upOf_70 : decode cX11_upOf 70 = .ok (.iconst 1, 1) := by decide +kernel
theorem dX11_upOf_71 : decode cX11_upOf 71 = .ok (.iadd, 1) := by decide +kernel
theorem dX11_upOf_72 : decode cX11_upOf 72 = .ok (.aload_n 0, 1) := by decide +kernel
theorem dX11_upOf_73 : decode cX11_upOf 73 = .ok (.getfield 143, 3) := by decide +kernel
theorem dX11_upOf_76 : decode cX11_upOf 76 = .ok (.if_icmp .lt 7, 3) := by decide +kernel
theorem dX11_upOf_79 : decode cX11_upOf 79 = .ok (.iconst 1, 1) := by decide +kernel
theorem dX11_upOf_80 : decode cX11_upOf 80 = .ok (.goto 6, 3) := by decide +kernel
theorem dX11_upOf_83 : decode cX11_upOf 83 = .ok (.iload_n 2, 1) := by decide +kernel
theorem dX11_upOf_84 : decode cX11_upOf 84 = .ok (.iconst 1, 1) := by decide +kernel
theorem dX11_upOf_85 : decode cX11_upOf 85 = .ok (.iadd, 1) := by decide +kernel
theorem dX11_upOf_86 : decode cX11_upOf 86 = .ok (.istore_n 2, 1) := by decide +kernel
theorem dX11_upOf_87 : decode cX11_upOf 87 = .ok (.aload_n 0, 1) := by decide +kernel
theorem dX11_upOf_88 : decode cX11_upOf 88 = .ok (.getfield 7, 3) := by decide +kernel
theorem dX11_upOf_91 : decode cX11_upOf 91 = .ok (.iload_n 2, 1) := by decide +kernel
theorem dX11_upOf_92 : decode cX11_upOf 92 = .ok (.iaload, 1) := by decide +kernel
theorem dX11_upOf_93 : decode cX11_upOf 93 = .ok (.iload_n 1, 1) := by decide +kernel
theorem dX11_upOf_94 : decode cX11_upOf 94 = .ok (.if_icmp .ne 12, 3) := by decide +kernel
theorem dX11_upOf_97 : decode cX11_upOf 97 = .ok (.aload_n 0, 1) := by decide +kernel
theorem dX11_upOf_98 : decode cX11_upOf 98 = .ok (.iload_n 1, 1) := by decide +kernel
theorem dX11_upOf_99 : decode cX11_upOf 99 = .ok (.iload_n 2, 1) := by decide +kernel
theorem dX11_upOf_100 : decode cX11_upOf 100 = .ok (.invokevirtual 263, 3) := by decide +kernel
theorem dX11_upOf_103 : decode cX11_upOf 103 = .ok (.goto 5, 3) := by decide +kernel
theorem dX11_upOf_106 : decode cX11_upOf 106 = .ok (.bipush (-9), 2) := by decide +kernel
theorem dX11_upOf_108 : decode cX11_upOf 108 = .ok (.istore 4, 2) := by decide +kernel
theorem dX11_upOf_110 : decode cX11_upOf 110 = .ok (.iload 4, 2) := by decide +kernel
theorem dX11_upOf_112 : decode cX11_upOf 112 = .ok (.bipush (-9), 2) := by decide +kernel
theorem dX11_upOf_114 : decode cX11_upOf 114 = .ok (.if_icmp .eq 6, 3) := by decide +kernel
theorem dX11_upOf_117 : decode cX11_upOf 117 = .ok (.iload 4, 2) := by decide +kernel
theorem dX11_upOf_119 : decode cX11_upOf 119 = .ok (.ireturn, 1) := by decide +kernel
theorem dX11_upOf_120 : decode cX11_upOf 120 = .ok (.iinc 3 1, 3) := by decide +kernel
theorem dX11_upOf_123 : decode cX11_upOf 123 = .ok (.goto (-62), 3) := by decide +kernel
theorem dX11_upOf_126 : decode cX11_upOf 126 = .ok (.bipush (-9), 2) := by decide +kernel
theorem dX11_upOf_128 : decode cX11_upOf 128 = .ok (.ireturn, 1) := by decide +kernel
theorem dX11_downOf_0 : decode cX11_downOf 0 = .ok (.bipush (-9), 2) := by decide +kernel
theorem dX11_downOf_2 : decode cX11_downOf 2 = .ok (.istore_n 2, 1) := by decide +kernel
theorem dX11_downOf_3 : decode cX11_downOf 3 = .ok (.iconst 0, 1) := by decide +kernel
theorem dX11_downOf_4 : decode cX11_downOf 4 = .ok (.istore_n 3, 1) := by decide +kernel
theorem dX11_downOf_5 : decode cX11_downOf 5 = .ok (.iload_n 3, 1) := by decide +kernel
theorem dX11_downOf_6 : decode cX11_downOf 6 = .ok (.aload_n 0, 1) := by decide +kernel
theorem dX11_downOf_7 : decode cX11_downOf 7 = .ok (.getfield 158, 3) := by decide +kernel
theorem dX11_downOf_10 : decode cX11_downOf 10 = .ok (.if_icmp .ge 80, 3) := by decide +kernel
theorem dX11_downOf_13 : decode cX11_downOf 13 = .ok (.aload_n 0, 1) := by decide +kernel
theorem dX11_downOf_14 : decode cX11_downOf 14 = .ok (.getfield 50, 3) := by decide +kernel
theorem dX11_downOf_17 : decode cX11_downOf 17 = .ok (.iload_n 3, 1) := by decide +kernel
theorem dX11_downOf_18 : decode cX11_downOf 18 = .ok (.iaload, 1) := by decide +kernel
theorem dX11_downOf_19 : decode cX11_downOf 19 = .ok (.iconst 1, 1) := by decide +kernel
theorem dX11_downOf_20 : decode cX11_downOf 20 = .ok (.if_icmp .ne 41, 3) := by decide +kernel
theorem dX11_downOf_23 : decode cX11_downOf 23 = .ok (.aload_n 0, 1) := by decide +kernel
theorem dX11_downOf_24 : decode cX11_downOf 24 = .ok (.getfield 53, 3) := by decide +kernel
theorem dX11_downOf_27 : decode cX11_downOf 27 = .ok (.iload_n 3, 1) := by decide +kernel
theorem dX11_downOf_28 : decode cX11_downOf 28 = .ok (.iaload, 1) := by decide +kernel
theorem dX11_downOf_29 : decode cX11_downOf 29 = .ok (.aload_n 0, 1) := by decide +kernel
theorem dX11_downOf_30 : decode cX11_downOf 30 = .ok (.getfield 7, 3) := by decide +kernel
theorem dX11_downOf_33 : decode cX11_downOf 33 = .ok (.iload_n 1, 1) := by decide +kernel
theorem dX11_downOf_34 : decode cX11_downOf 34 = .ok (.iaload, 1) := by decide +kernel
theorem dX11_downOf_35 : decode cX11_downOf 35 = .ok (.if_icmp .ne 26, 3) := by decide +kernel
theorem dX11_downOf_38 : decode cX11_downOf 38 = .ok (.aload_n 0, 1) := by decide +kernel
theorem dX11_downOf_39 : decode cX11_downOf 39 = .ok (.getfield 59, 3) := by decide +kernel
theorem dX11_downOf_42 : decode cX11_downOf 42 = .ok (.iload_n 3, 1) := by decide +kernel
theorem dX11_downOf_43 : decode cX11_downOf 43 = .ok (.baload, 1) := by decide +kernel
theorem dX11_downOf_44 : decode cX11_downOf 44 = .ok (.ifCond .ne 17, 3) := by decide +kernel
theorem dX11_downOf_47 : decode cX11_downOf 47 = .ok (.aload_n 0, 1) := by decide +kernel
theorem dX11_downOf_48 : decode cX11_downOf 48 = .ok (.getfield 62, 3) := by decide +kernel
theorem dX11_downOf_51 : decode cX11_downOf 51 = .ok (.iload_n 3, 1) := by decide +kernel
theorem dX11_downOf_52 : decode cX11_downOf 52 = .ok (.iaload, 1) := by decide +kernel
theorem dX11_downOf_53 : decode cX11_downOf 53 = .ok (.iload_n 1, 1) := by decide +kernel
theorem dX11_downOf_54 : decode cX11_downOf 54 = .ok (.if_icmp .ne 7, 3) := by decide +kernel
theorem dX11_downOf_57 : decode cX11_downOf 57 = .ok (.iconst 1, 1) := by decide +kernel
theorem dX11_downOf_58 : decode cX11_downOf 58 = .ok (.goto 4, 3) := by decide +kernel
theorem dX11_downOf_61 : decode cX11_downOf 61 = .ok (.iconst 0, 1) := by decide +kernel
theorem dX11_downOf_62 : decode cX11_downOf 62 = .ok (.istore 4, 2) := by decide +kernel
theorem dX11_downOf_64 : decode cX11_downOf 64 = .ok (.iload 4, 2) := by decide +kernel
theorem dX11_downOf_66 : decode cX11_downOf 66 = .ok (.ifCond .eq 16, 3) := by decide +kernel
theorem dX11_downOf_69 : decode cX11_downOf 69 = .ok (.aload_n 0, 1) := by decide +kernel
theorem dX11_downOf_70 : decode cX11_downOf 70 = .ok (.iload_n 3, 1) := by decide +kernel
theorem dX11_downOf_71 : decode cX11_downOf 71 = .ok (.iload_n 2, 1) := by decide +kernel
theorem dX11_downOf_72 : decode cX11_downOf 72 = .ok (.invokevirtual 260, 3) := by decide +kernel
theorem dX11_downOf_75 : decode cX11_downOf 75 = .ok (.ifCond .eq 7, 3) := by decide +kernel
theorem dX11_downOf_78 : decode cX11_downOf 78 = .ok (.iload_n 3, 1) := by decide +kernel
theorem dX11_downOf_79 : decode cX11_downOf 79 = .ok (.goto 4, 3) := by decide +kernel
theorem dX11_downOf_82 : decode cX11_downOf 82 = .ok (.iload_n 2, 1) := by decide +kernel
theorem dX11_downOf_83 : decode cX11_downOf 83 = .ok (.istore_n 2, 1) := by decide +kernel
theorem dX11_downOf_84 : decode cX11_downOf 84 = .ok (.iinc 3 1, 3) := by decide +kernel
theorem dX11_downOf_87 : decode cX11_downOf 87 = .ok (.goto (-82), 3) := by decide +kernel
theorem dX11_downOf_90 : decode cX11_downOf 90 = .ok (.iload_n 2, 1) := by decide +kernel
theorem dX11_downOf_91 : decode cX11_downOf 91 = .ok (.ireturn, 1) := by decide +kernel
theorem dX11_onMany_0 : decode cX11_onMany 0 = .ok (.iconst 0, 1) := by decide +kernel
theorem dX11_onMany_1 : decode cX11_onMany 1 = .ok (.istore_n 3, 1) := by decide +kernel
theorem dX11_onMany_2 : decode cX11_onMany 2 = .ok (.iconst 0, 1) := by decide +kernel
theorem dX11_onMany_3 : decode cX11_onMany 3 = .ok (.istore 4, 2) := by decide +kernel
theorem dX11_onMany_5 : decode cX11_onMany 5 = .ok (.iload 4, 2) := by decide +kernel
theorem dX11_onMany_7 : decode cX11_onMany 7 = .ok (.aload_n 0, 1) := by decide +kernel
theorem dX11_onMany_8 : decode cX11_onMany 8 = .ok (.getfield 158, 3) := by decide +kernel
theorem dX11_onMany_11 : decode cX11_onMany 11 = .ok (.if_icmp .ge 50, 3) := by decide +kernel
theorem dX11_onMany_14 : decode cX11_onMany 14 = .ok (.iload_n 3, 1) := by decide +kernel
theorem dX11_onMany_15 : decode cX11_onMany 15 = .ok (.aload_n 0, 1) := by decide +kernel
theorem dX11_onMany_16 : decode cX11_onMany 16 = .ok (.getfield 50, 3) := by decide +kernel
theorem dX11_onMany_19 : decode cX11_onMany 19 = .ok (.iload 4, 2) := by decide +kernel
theorem dX11_onMany_21 : decode cX11_onMany 21 = .ok (.iaload, 1) := by decide +kernel
theorem dX11_onMany_22 : decode cX11_onMany 22 = .ok (.iconst 2, 1) := by decide +kernel
theorem dX11_onMany_23 : decode cX11_onMany 23 = .ok (.if_icmp .ne 29, 3) := by decide +kernel
theorem dX11_onMany_26 : decode cX11_onMany 26 = .ok (.aload_n 0, 1) := by decide +kernel
theorem dX11_onMany_27 : decode cX11_onMany 27 = .ok (.getfield 53, 3) := by decide +kernel
theorem dX11_onMany_30 : decode cX11_onMany 30 = .ok (.iload 4, 2) := by decide +kernel
theorem dX11_onMany_32 : decode cX11_onMany 32 = .ok (.iaload, 1) := by decide +kernel
theorem dX11_onMany_33 : decode cX11_onMany 33 = .ok (.iload_n 1, 1) := by decide +kernel
theorem dX11_onMany_34 : decode cX11_onMany 34 = .ok (.if_icmp .ne 18, 3) := by decide +kernel
theorem dX11_onMany_37 : decode cX11_onMany 37 = .ok (.aload_n 0, 1) := by decide +kernel
theorem dX11_onMany_38 : decode cX11_onMany 38 = .ok (.getfield 59, 3) := by decide +kernel
theorem dX11_onMany_41 : decode cX11_onMany 41 = .ok (.iload 4, 2) := by decide +kernel
theorem dX11_onMany_43 : decode cX11_onMany 43 = .ok (.baload, 1) := by decide +kernel
theorem dX11_onMany_44 : decode cX11_onMany 44 = .ok (.iload_n 2, 1) := by decide +kernel
theorem dX11_onMany_45 : decode cX11_onMany 45 = .ok (.if_icmp .ne 7, 3) := by decide +kernel
theorem dX11_onMany_48 : decode cX11_onMany 48 = .ok (.iconst 1, 1) := by decide +kernel
theorem dX11_onMany_49 : decode cX11_onMany 49 = .ok (.goto 4, 3) := by decide +kernel
theorem dX11_onMany_52 : decode cX11_onMany 52 = .ok (.iconst 0, 1) := by decide +kernel
theorem dX11_onMany_53 : decode cX11_onMany 53 = .ok (.iadd, 1) := by decide +kernel
theorem dX11_onMany_54 : decode cX11_onMany 54 = .ok (.istore_n 3, 1) := by decide +kernel
theorem dX11_onMany_55 : decode cX11_onMany 55 = .ok (.iinc 4 1, 3) := by decide +kernel
theorem dX11_onMany_58 : decode cX11_onMany 58 = .ok (.goto (-53), 3) := by decide +kernel
theorem dX11_onMany_61 : decode cX11_onMany 61 = .ok (.iload_n 3, 1) := by decide +kernel
theorem dX11_onMany_62 : decode cX11_onMany 62 = .ok (.ireturn, 1) := by decide +kernel
theorem dX11_isClear_0 : decode cX11_isClear 0 = .ok (.aload_n 0, 1) := by decide +kernel
theorem dX11_isClear_1 : decode cX11_isClear 1 = .ok (.getfield 44, 3) := by decide +kernel
theorem dX11_isClear_4 : decode cX11_isClear 4 = .ok (.iconst 2, 1) := by decide +kernel
theorem dX11_isClear_5 : decode cX11_isClear 5 = .ok (.iload_n 1, 1) := by decide +kernel
theorem dX11_isClear_6 : decode cX11_isClear 6 = .ok (.imul, 1) := by decide +kernel
theorem dX11_isClear_7 : decode cX11_isClear 7 = .ok (.iload_n 2, 1) := by decide +kernel
theorem dX11_isClear_8 : decode cX11_isClear 8 = .ok (.ifCond .eq 7, 3) := by decide +kernel
theorem dX11_isClear_11 : decode cX11_isClear 11 = .ok (.iconst 1, 1) := by decide +kernel
theorem dX11_isClear_12 : decode cX11_isClear 12 = .ok (.goto 4, 3) := by decide +kernel
theorem dX11_isClear_15 : decode cX11_isClear 15 = .ok (.iconst 0, 1) := by decide +kernel
theorem dX11_isClear_16 : decode cX11_isClear 16 = .ok (.iadd, 1) := by decide +kernel
theorem dX11_isClear_17 : decode cX11_isClear 17 = .ok (.iaload, 1) := by decide +kernel
theorem dX11_isClear_18 : decode cX11_isClear 18 = .ok (.istore_n 3, 1) := by decide +kernel
theorem dX11_isClear_19 : decode cX11_isClear 19 = .ok (.iload_n 3, 1) := by decide +kernel
theorem dX11_isClear_20 : decode cX11_isClear 20 = .ok (.bipush (-9), 2) := by decide +kernel
theorem dX11_isClear_22 : decode cX11_isClear 22 = .ok (.if_icmp .eq 18, 3) := by decide +kernel
theorem dX11_isClear_25 : decode cX11_isClear 25 = .ok (.aload_n 0, 1) := by decide +kernel
theorem dX11_isClear_26 : decode cX11_isClear 26 = .ok (.getfield 170, 3) := by decide +kernel
theorem dX11_isClear_29 : decode cX11_isClear 29 = .ok (.iload_n 3, 1) := by decide +kernel
theorem dX11_isClear_30 : decode cX11_isClear 30 = .ok (.isub, 1) := by decide +kernel
theorem dX11_isClear_31 : decode cX11_isClear 31 = .ok (.aload_n 0, 1) := by decide +kernel
theorem dX11_isClear_32 : decode cX11_isClear 32 = .ok (.getfield 19, 3) := by decide +kernel
theorem dX11_isClear_35 : decode cX11_isClear 35 = .ok (.iload_n 1, 1) := by decide +kernel
theorem dX11_isClear_36 : decode cX11_isClear 36 = .ok (.iaload, 1) := by decide +kernel
theorem dX11_isClear_37 : decode cX11_isClear 37 = .ok (.if_icmp .lt 7, 3) := by decide +kernel
theorem dX11_isClear_40 : decode cX11_isClear 40 = .ok (.iconst 1, 1) := by decide +kernel
theorem dX11_isClear_41 : decode cX11_isClear 41 = .ok (.goto 4, 3) := by decide +kernel
theorem dX11_isClear_44 : decode cX11_isClear 44 = .ok (.iconst 0, 1) := by decide +kernel
theorem dX11_isClear_45 : decode cX11_isClear 45 = .ok (.ireturn, 1) := by decide +kernel
theorem dX11_isNear_0 : decode cX11_isNear 0 = .ok (.iconst 0, 1) := by decide +kernel
theorem dX11_isNear_1 : decode cX11_isNear 1 = .ok (.istore_n 3, 1) := by decide +kernel
theorem dX11_isNear_2 : decode cX11_isNear 2 = .ok (.iconst 0, 1) := by decide +kernel
theorem dX11_isNear_3 : decode cX11_isNear 3 = .ok (.istore 4, 2) := by decide +kernel
theorem dX11_isNear_5 : decode cX11_isNear 5 = .ok (.iload 4, 2) := by decide +kernel
theorem dX11_isNear_7 : decode cX11_isNear 7 = .ok (.aload_n 0, 1) := by decide +kernel
theorem dX11_isNear_8 : decode cX11_isNear 8 = .ok (.getfield 158, 3) := by decide +kernel
theorem dX11_isNear_11 : decode cX11_isNear 11 = .ok (.if_icmp .ge 68, 3) := by decide +kernel
theorem dX11_isNear_14 : decode cX11_isNear 14 = .ok (.iload_n 3, 1) := by decide +kernel
theorem dX11_isNear_15 : decode cX11_isNear 15 = .ok (.ifCond .ne 52, 3) := by decide +kernel
theorem dX11_isNear_18 : decode cX11_isNear 18 = .ok (.aload_n 0, 1) := by decide +kernel
theorem dX11_isNear_19 : decode cX11_isNear 19 = .ok (.getfield 50, 3) := by decide +kernel
theorem dX11_isNear_22 : decode cX11_isNear 22 = .ok (.iload 4, 2) := by decide +kernel
theorem dX11_isNear_24 : decode cX11_isNear 24 = .ok (.iaload, 1) := by decide +kernel
theorem dX11_isNear_25 : decode cX11_isNear 25 = .ok (.iconst 2, 1) := by decide +kernel
theorem dX11_isNear_26 : decode cX11_isNear 26 = .ok (.if_icmp .ne 45, 3) := by decide +kernel
theorem dX11_isNear_29 : decode cX11_isNear 29 = .ok (.aload_n 0, 1) := by decide +kernel
theorem dX11_isNear_30 : decode cX11_isNear 30 = .ok (.getfield 53, 3) := by decide +kernel
theorem dX11_isNear_33 : decode cX11_isNear 33 = .ok (.iload 4, 2) := by decide +kernel
theorem dX11_isNear_35 : decode cX11_isNear 35 = .ok (.iaload, 1) := by decide +kernel
theorem dX11_isNear_36 : decode cX11_isNear 36 = .ok (.iload_n 1, 1) := by decide +kernel
theorem dX11_isNear_37 : decode cX11_isNear 37 = .ok (.if_icmp .ne 34, 3) := by decide +kernel
theorem dX11_isNear_40 : decode cX11_isNear 40 = .ok (.aload_n 0, 1) := by decide +kernel
theorem dX11_isNear_41 : decode cX11_isNear 41 = .ok (.getfield 59, 3) := by decide +kernel
theorem dX11_isNear_44 : decode cX11_isNear 44 = .ok (.iload 4, 2) := by decide +kernel
theorem dX11_isNear_46 : decode cX11_isNear 46 = .ok (.baload, 1) := by decide +kernel
theorem dX11_isNear_47 : decode cX11_isNear 47 = .ok (.iload_n 2, 1) := by decide +kernel
theorem dX11_isNear_48 : decode cX11_isNear 48 = .ok (.if_icmp .ne 23, 3) := by decide +kernel
theorem dX11_isNear_51 : decode cX11_isNear 51 = .ok (.aload_n 0, 1) := by decide +kernel
theorem dX11_isNear_52 : decode cX11_isNear 52 = .ok (.getfield 116, 3) := by decide +kernel
theorem dX11_isNear_55 : decode cX11_isNear 55 = .ok (.iload 4, 2) := by decide +kernel
theorem dX11_isNear_57 : decode cX11_isNear 57 = .ok (.iaload, 1) := by decide +kernel
theorem dX11_isNear_58 : decode cX11_isNear 58 = .ok (.aload_n 0, 1) := by decide +kernel
theorem dX11_isNear_59 : decode cX11_isNear 59 = .ok (.getfield 19, 3) := by decide +kernel
theorem dX11_isNear_62 : decode cX11_isNear 62 = .ok (.iload_n 1, 1) := by decide +kernel
theorem dX11_isNear_63 : decode cX11_isNear 63 = .ok (.iaload, 1) := by decide +kernel
theorem dX11_isNear_64 : decode cX11_isNear 64 = .ok (.if_icmp .ge 7, 3) := by decide +kernel
theorem dX11_isNear_67 : decode cX11_isNear 67 = .ok (.iconst 1, 1) := by decide +kernel
theorem dX11_isNear_68 : decode cX11_isNear 68 = .ok (.goto 4, 3) := by decide +kernel
theorem dX11_isNear_71 : decode cX11_isNear 71 = .ok (.iconst 0, 1) := by decide +kernel
theorem dX11_isNear_72 : decode cX11_isNear 72 = .ok (.istore_n 3, 1) := by decide +kernel
theorem dX11_isNear_73 : decode cX11_isNear 73 = .ok (.iinc 4 1, 3) := by decide +kernel
theorem dX11_isNear_76 : decode cX11_isNear 76 = .ok (.goto (-71), 3) := by decide +kernel
theorem dX11_isNear_79 : decode cX11_isNear 79 = .ok (.iload_n 3, 1) := by decide +kernel
theorem dX11_isNear_80 : decode cX11_isNear 80 = .ok (.ireturn, 1) := by decide +kernel
theorem dX11_letOn_0 : decode cX11_letOn 0 = .ok (.iload_n 3, 1) := by decide +kernel
theorem dX11_letOn_1 : decode cX11_letOn 1 = .ok (.ifCond .eq 25, 3) := by decide +kernel
theorem dX11_letOn_4 : decode cX11_letOn 4 = .ok (.aload_n 0, 1) := by decide +kernel
theorem dX11_letOn_5 : decode cX11_letOn 5 = .ok (.getfield 13, 3) := by decide +kernel
theorem dX11_letOn_8 : decode cX11_letOn 8 = .ok (.iload_n 2, 1) := by decide +kernel
theorem dX11_letOn_9 : decode cX11_letOn 9 = .ok (.iaload, 1) := by decide +kernel
theorem dX11_letOn_10 : decode cX11_letOn 10 = .ok (.iconst 1, 1) := by decide +kernel
theorem dX11_letOn_11 : decode cX11_letOn 11 = .ok (.if_icmp .ne 15, 3) := by decide +kernel
theorem dX11_letOn_14 : decode cX11_letOn 14 = .ok (.aload_n 0, 1) := by decide +kernel
theorem dX11_letOn_15 : decode cX11_letOn 15 = .ok (.getfield 41, 3) := by decide +kernel
theorem dX11_letOn_18 : decode cX11_letOn 18 = .ok (.iload_n 2, 1) := by decide +kernel
theorem dX11_letOn_19 : decode cX11_letOn 19 = .ok (.aload_n 0, 1) := by decide +kernel
theorem dX11_letOn_20 : decode cX11_letOn 20 = .ok (.getfield 65, 3) := by decide +kernel
theorem dX11_letOn_23 : decode cX11_letOn 23 = .ok (.iload_n 1, 1) := by decide +kernel
theorem dX11_letOn_24 : decode cX11_letOn 24 = .ok (.iaload, 1) := by decide +kernel
theorem dX11_letOn_25 : decode cX11_letOn 25 = .ok (.iastore, 1) := by decide +kernel
theorem dX11_letOn_26 : decode cX11_letOn 26 = .ok (.aload_n 0, 1) := by decide +kernel
theorem dX11_letOn_27 : decode cX11_letOn 27 = .ok (.getfield 50, 3) := by decide +kernel
theorem dX11_letOn_30 : decode cX11_letOn 30 = .ok (.iload_n 1, 1) := by decide +kernel
theorem dX11_letOn_31 : decode cX11_letOn 31 = .ok (.iconst 2, 1) := by decide +kernel
theorem dX11_letOn_32 : decode cX11_letOn 32 = .ok (.iastore, 1) := by decide +kernel
theorem dX11_letOn_33 : decode cX11_letOn 33 = .ok (.aload_n 0, 1) := by decide +kernel
theorem dX11_letOn_34 : decode cX11_letOn 34 = .ok (.getfield 53, 3) := by decide +kernel
theorem dX11_letOn_37 : decode cX11_letOn 37 = .ok (.iload_n 1, 1) := by decide +kernel
theorem dX11_letOn_38 : decode cX11_letOn 38 = .ok (.iload_n 2, 1) := by decide +kernel
theorem dX11_letOn_39 : decode cX11_letOn 39 = .ok (.iastore, 1) := by decide +kernel
theorem dX11_letOn_40 : decode cX11_letOn 40 = .ok (.aload_n 0, 1) := by decide +kernel
theorem dX11_letOn_41 : decode cX11_letOn 41 = .ok (.getfield 116, 3) := by decide +kernel
theorem dX11_letOn_44 : decode cX11_letOn 44 = .ok (.iload_n 1, 1) := by decide +kernel
theorem dX11_letOn_45 : decode cX11_letOn 45 = .ok (.iconst 0, 1) := by decide +kernel
theorem dX11_letOn_46 : decode cX11_letOn 46 = .ok (.iastore, 1) := by decide +kernel
theorem dX11_letOn_47 : decode cX11_letOn 47 = .ok (.aload_n 0, 1) := by decide +kernel
theorem dX11_letOn_48 : decode cX11_letOn 48 = .ok (.getfield 59, 3) := by decide +kernel
theorem dX11_letOn_51 : decode cX11_letOn 51 = .ok (.iload_n 1, 1) := by decide +kernel
theorem dX11_letOn_52 : decode cX11_letOn 52 = .ok (.iload_n 3, 1) := by decide +kernel
theorem dX11_letOn_53 : decode cX11_letOn 53 = .ok (.bastore, 1) := by decide +kernel
theorem dX11_letOn_54 : decode cX11_letOn 54 = .ok (.aload_n 0, 1) := by decide +kernel
theorem dX11_letOn_55 : decode cX11_letOn 55 = .ok (.getfield 44, 3) := by decide +kernel
theorem dX11_letOn_58 : decode cX11_letOn 58 = .ok (.iconst 2, 1) := by decide +kernel
theorem dX11_letOn_59 : decode cX11_letOn 59 = .ok (.iload_n 2, 1) := by decide +kernel
theorem dX11_letOn_60 : decode cX11_letOn 60 = .ok (.imul, 1) := by decide +kernel
theorem dX11_letOn_61 : decode cX11_letOn 61 = .ok (.iload_n 3, 1) := by decide +kernel
theorem dX11_letOn_62 : decode cX11_letOn 62 = .ok (.ifCond .eq 7, 3) := by decide +kernel
theorem dX11_letOn_65 : decode cX11_letOn 65 = .ok (.iconst 1, 1) := by decide +kernel
theorem dX11_letOn_66 : decode cX11_letOn 66 = .ok (.goto 4, 3) := by decide +kernel
theorem dX11_letOn_69 : decode cX11_letOn 69 = .ok (.iconst 0, 1) := by decide +kernel
theorem dX11_letOn_70 : decode cX11_letOn 70 = .ok (.iadd, 1) := by decide +kernel
theorem dX11_letOn_71 : decode cX11_letOn 71 = .ok (.aload_n 0, 1) := by decide +kernel
theorem dX11_letOn_72 : decode cX11_letOn 72 = .ok (.getfield 170, 3) := by decide +kernel
theorem dX11_letOn_75 : decode cX11_letOn 75 = .ok (.iastore, 1) := by decide +kernel
theorem dX11_letOn_76 : decode cX11_letOn 76 = .ok (.return_, 1) := by decide +kernel
theorem dX11_letAll_0 : decode cX11_letAll 0 = .ok (.iconst 1, 1) := by decide +kernel
theorem dX11_letAll_1 : decode cX11_letAll 1 = .ok (.istore_n 1, 1) := by decide +kernel
theorem dX11_letAll_2 : decode cX11_letAll 2 = .ok (.iload_n 1, 1) := by decide +kernel
theorem dX11_letAll_3 : decode cX11_letAll 3 = .ok (.aload_n 0, 1) := by decide +kernel
theorem dX11_letAll_4 : decode cX11_letAll 4 = .ok (.getfield 143, 3) := by decide +kernel
theorem dX11_letAll_7 : decode cX11_letAll 7 = .ok (.if_icmp .ge 262, 3) := by decide +kernel
theorem dX11_letAll_10 : decode cX11_letAll 10 = .ok (.aload_n 0, 1) := by decide +kernel
theorem dX11_letAll_11 : decode cX11_letAll 11 = .ok (.getfield 26, 3) := by decide +kernel
theorem dX11_letAll_14 : decode cX11_letAll 14 = .ok (.iload_n 1, 1) := by decide +kernel
theorem dX11_letAll_15 : decode cX11_letAll 15 = .ok (.baload, 1) := by decide +kernel
theorem dX11_letAll_16 : decode cX11_letAll 16 = .ok (.ifCond .ne 12, 3) := by decide +kernel
theorem dX11_letAll_19 : decode cX11_letAll 19 = .ok (.aload_n 0, 1) := by decide +kernel
theorem dX11_letAll_20 : decode cX11_letAll 20 = .ok (.iload_n 1, 1) := by decide +kernel
theorem dX11_letAll_21 : decode cX11_letAll 21 = .ok (.iconst 1, 1) := by decide +kernel
theorem dX11_letAll_22 : decode cX11_letAll 22 = .ok (.invokevirtual 266, 3) := by decide +kernel
theorem dX11_letAll_25 : decode cX11_letAll 25 = .ok (.ifCond .eq 8, 3) := by decide +kernel
theorem dX11_letAll_28 : decode cX11_letAll 28 = .ok (.bipush (-9), 2) := by decide +kernel
theorem dX11_letAll_30 : decode cX11_letAll 30 = .ok (.goto 8, 3) := by decide +kernel
theorem dX11_letAll_33 : decode cX11_letAll 33 = .ok (.aload_n 0, 1) := by decide +kernel
theorem dX11_letAll_34 : decode cX11_letAll 34 = .ok (.iload_n 1, 1) := by decide +kernel
theorem dX11_letAll_35 : decode cX11_letAll 35 = .ok (.invokevirtual 270, 3) := by decide +kernel
theorem dX11_letAll_38 : decode cX11_letAll 38 = .ok (.istore_n 2, 1) := by decide +kernel
theorem dX11_letAll_39 : decode cX11_letAll 39 = .ok (.aload_n 0, 1) := by decide +kernel
theorem dX11_letAll_40 : decode cX11_letAll 40 = .ok (.getfield 26, 3) := by decide +kernel
theorem dX11_letAll_43 : decode cX11_letAll 43 = .ok (.iload_n 1, 1) := by decide +kernel
theorem dX11_letAll_44 : decode cX11_letAll 44 = .ok (.baload, 1) := by decide +kernel
theorem dX11_letAll_45 : decode cX11_letAll 45 = .ok (.ifCond .ne 12, 3) := by decide +kernel
theorem dX11_letAll_48 : decode cX11_letAll 48 = .ok (.aload_n 0, 1) := by decide +kernel
theorem dX11_letAll_49 : decode cX11_letAll 49 = .ok (.iload_n 1, 1) := by decide +kernel
theorem dX11_letAll_50 : decode cX11_letAll 50 = .ok (.iconst 0, 1) := by decide +kernel
theorem dX11_letAll_51 : decode cX11_letAll 51 = .ok (.invokevirtual 266, 3) := by decide +kernel
theorem dX11_letAll_54 : decode cX11_letAll 54 = .ok (.ifCond .eq 8, 3) := by decide +kernel
theorem dX11_letAll_57 : decode cX11_letAll 57 = .ok (.bipush (-9), 2) := by decide +kernel
theorem dX11_letAll_59 : decode cX11_letAll 59 = .ok (.goto 8, 3) := by decide +kernel
theorem dX11_letAll_62 : decode cX11_letAll 62 = .ok (.aload_n 0, 1) := by decide +kernel
theorem dX11_letAll_63 : decode cX11_letAll 63 = .ok (.iload_n 1, 1) := by decide +kernel
theorem dX11_letAll_64 : decode cX11_letAll 64 = .ok (.invokevirtual 273, 3) := by decide +kernel
theorem dX11_letAll_67 : decode cX11_letAll 67 = .ok (.istore_n 3, 1) := by decide +kernel
theorem dX11_letAll_68 : decode cX11_letAll 68 = .ok (.aload_n 0, 1) := by decide +kernel
theorem dX11_letAll_69 : decode cX11_letAll 69 = .ok (.getfield 22, 3) := by decide +kernel
theorem dX11_letAll_72 : decode cX11_letAll 72 = .ok (.iload_n 1, 1) := by decide +kernel
theorem dX11_letAll_73 : decode cX11_letAll 73 = .ok (.baload, 1) := by decide +kernel
theorem dX11_letAll_74 : decode cX11_letAll 74 = .ok (.ifCond .eq 38, 3) := by decide +kernel
theorem dX11_letAll_77 : decode cX11_letAll 77 = .ok (.aload_n 0, 1) := by decide +kernel
theorem dX11_letAll_78 : decode cX11_letAll 78 = .ok (.iload_n 1, 1) := by decide +kernel
theorem dX11_letAll_79 : decode cX11_letAll 79 = .ok (.iconst 1, 1) := by decide +kernel
theorem dX11_letAll_80 : decode cX11_letAll 80 = .ok (.invokevirtual 276, 3) := by decide +kernel
theorem dX11_letAll_83 : decode cX11_letAll 83 = .ok (.ifCond .eq 7, 3) := by decide +kernel
theorem dX11_letAll_86 : decode cX11_letAll 86 = .ok (.iload_n 2, 1) := by decide +kernel
theorem dX11_letAll_87 : decode cX11_letAll 87 = .ok (.goto 5, 3) := by decide +kernel
theorem dX11_letAll_90 : decode cX11_letAll 90 = .ok (.bipush (-9), 2) := by decide +kernel
theorem dX11_letAll_92 : decode cX11_letAll 92 = .ok (.istore_n 2, 1) := by decide +kernel
theorem dX11_letAll_93 : decode cX11_letAll 93 = .ok (.aload_n 0, 1) := by decide +kernel
theorem dX11_letAll_94 : decode cX11_letAll 94 = .ok (.iload_n 1, 1) := by decide +kernel
theorem dX11_letAll_95 : decode cX11_letAll 95 = .ok (.iconst 0, 1) := by decide +kernel
theorem dX11_letAll_96 : decode cX11_letAll 96 = .ok (.invokevirtual 276, 3) := by decide +kernel
theorem dX11_letAll_99 : decode cX11_letAll 99 = .ok (.ifCond .eq 7, 3) := by decide +kernel
theorem dX11_letAll_102 : decode cX11_letAll 102 = .ok (.iload_n 3, 1) := by decide +kernel
theorem dX11_letAll_103 : decode cX11_letAll 103 = .ok (.goto 5, 3) := by decide +kernel
theorem dX11_letAll_106 : decode cX11_letAll 106 = .ok (.bipush (-9), 2) := by decide +kernel
theorem dX11_letAll_108 : decode cX11_letAll 108 = .ok (.istore_n 3, 1) := by decide +kernel
theorem dX11_letAll_109 : decode cX11_letAll 109 = .ok (.goto 128, 3) := by decide +kernel
theorem dX11_letAll_112 : decode cX11_letAll 112 = .ok (.aload_n 0, 1) := by decide +kernel
theorem dX11_letAll_113 : decode cX11_letAll 113 = .ok (.iload_n 1, 1) := by decide +kernel
theorem dX11_letAll_114 : decode cX11_letAll 114 = .ok (.iconst 1, 1) := by decide +kernel
theorem dX11_letAll_115 : decode cX11_letAll 115 = .ok (.invokevirtual 276, 3) := by decide +kernel
theorem dX11_letAll_118 : decode cX11_letAll 118 = .ok (.ifCond .eq 16, 3) := by decide +kernel
theorem dX11_letAll_121 : decode cX11_letAll 121 = .ok (.aload_n 0, 1) := by decide +kernel
theorem dX11_letAll_122 : decode cX11_letAll 122 = .ok (.iload_n 1, 1) := by decide +kernel
theorem dX11_letAll_123 : decode cX11_letAll 123 = .ok (.iconst 0, 1) := by decide +kernel
theorem dX11_letAll_124 : decode cX11_letAll 124 = .ok (.invokevirtual 276, 3) := by decide +kernel
theorem dX11_letAll_127 : decode cX11_letAll 127 = .ok (.ifCond .eq 7, 3) := by decide +kernel
theorem dX11_letAll_130 : decode cX11_letAll 130 = .ok (.iconst 1, 1) := by decide +kernel
theorem dX11_letAll_131 : decode cX11_letAll 131 = .ok (.goto 4, 3) := by decide +kernel
theorem dX11_letAll_134 : decode cX11_letAll 134 = .ok (.iconst 0, 1) := by decide +kernel
theorem dX11_letAll_135 : decode cX11_letAll 135 = .ok (.istore 4, 2) := by decide +kernel
theorem dX11_letAll_137 : decode cX11_letAll 137 = .ok (.iload 4, 2) := by decide +kernel
theorem dX11_letAll_139 : decode cX11_letAll 139 = .ok (.ifCond .eq 16, 3) := by decide +kernel
theorem dX11_letAll_142 : decode cX11_letAll 142 = .ok (.aload_n 0, 1) := by decide +kernel
theorem dX11_letAll_143 : decode cX11_letAll 143 = .ok (.iload_n 1, 1) := by decide +kernel
theorem dX11_letAll_144 : decode cX11_letAll 144 = .ok (.iconst 0, 1) := by decide +kernel
theorem dX11_letAll_145 : decode cX11_letAll 145 = .ok (.invokevirtual 279, 3) := by decide +kernel
theorem dX11_letAll_148 : decode cX11_letAll 148 = .ok (.ifCond .ne 7, 3) := by decide +kernel
theorem dX11_letAll_151 : decode cX11_letAll 151 = .ok (.iload_n 2, 1) := by decide +kernel
theorem dX11_letAll_152 : decode cX11_letAll 152 = .ok (.goto 5, 3) := by decide +kernel
theorem dX11_letAll_155 : decode cX11_letAll 155 = .ok (.bipush (-9), 2) := by decide +kernel
theorem dX11_letAll_157 : decode cX11_letAll 157 = .ok (.istore_n 2, 1) := by decide +kernel
theorem dX11_letAll_158 : decode cX11_letAll 158 = .ok (.iload 4, 2) := by decide +kernel
theorem dX11_letAll_160 : decode cX11_letAll 160 = .ok (.ifCond .eq 16, 3) := by decide +kernel
theorem dX11_letAll_163 : decode cX11_letAll 163 = .ok (.aload_n 0, 1) := by decide +kernel
theorem dX11_letAll_164 : decode cX11_letAll 164 = .ok (.iload_n 1, 1) := by decide +kernel
theorem dX11_letAll_165 : decode cX11_letAll 165 = .ok (.iconst 1, 1) := by decide +kernel
theorem dX11_letAll_166 : decode cX11_letAll 166 = .ok (.invokevirtual 279, 3) := by decide +kernel
theorem dX11_letAll_169 : decode cX11_letAll 169 = .ok (.ifCond .ne 7, 3) := by decide +kernel
theorem dX11_letAll_172 : decode cX11_letAll 172 = .ok (.iload_n 3, 1) := by decide +kernel
theorem dX11_letAll_173 : decode cX11_letAll 173 = .ok (.goto 5, 3) := by decide +kernel
theorem dX11_letAll_176 : decode cX11_letAll 176 = .ok (.bipush (-9), 2) := by decide +kernel
theorem dX11_letAll_178 : decode cX11_letAll 178 = .ok (.istore_n 3, 1) := by decide +kernel
theorem dX11_letAll_179 : decode cX11_letAll 179 = .ok (.iload_n 2, 1) := by decide +kernel
theorem dX11_letAll_180 : decode cX11_letAll 180 = .ok (.bipush (-9), 2) := by decide +kernel
theorem dX11_letAll_182 : decode cX11_letAll 182 = .ok (.if_icmp .eq 55, 3) := by decide +kernel
theorem dX11_letAll_185 : decode cX11_letAll 185 = .ok (.iload_n 3, 1) := by decide +kernel
theorem dX11_letAll_186 : decode cX11_letAll 186 = .ok (.bipush (-9), 2) := by decide +kernel
theorem dX11_letAll_188 : decode cX11_letAll 188 = .ok (.if_icmp .eq 49, 3) := by decide +kernel
theorem dX11_letAll_191 : decode cX11_letAll 191 = .ok (.aload_n 0, 1) := by decide +kernel
theorem dX11_letAll_192 : decode cX11_letAll 192 = .ok (.getfield 56, 3) := by decide +kernel
theorem dX11_letAll_195 : decode cX11_letAll 195 = .ok (.iload_n 2, 1) := by decide +kernel
theorem dX11_letAll_196 : decode cX11_letAll 196 = .ok (.iaload, 1) := by decide +kernel
theorem dX11_letAll_197 : decode cX11_letAll 197 = .ok (.aload_n 0, 1) := by decide +kernel
theorem dX11_letAll_198 : decode cX11_letAll 198 = .ok (.getfield 56, 3) := by decide +kernel
theorem dX11_letAll_201 : decode cX11_letAll 201 = .ok (.iload_n 3, 1) := by decide +kernel
theorem dX11_letAll_202 : decode cX11_letAll 202 = .ok (.iaload, 1) := by decide +kernel
theorem dX11_letAll_203 : decode cX11_letAll 203 = .ok (.if_icmp .gt 7, 3) := by decide +kernel
theorem dX11_letAll_206 : decode cX11_letAll 206 = .ok (.iconst 1, 1) := by decide +kernel
theorem dX11_letAll_207 : decode cX11_letAll 207 = .ok (.goto 4, 3) := by decide +kernel
theorem dX11_letAll_210 : decode cX11_letAll 210 = .ok (.iconst 0, 1) := by decide +kernel
theorem dX11_letAll_211 : decode cX11_letAll 211 = .ok (.istore 5, 2) := by decide +kernel
theorem dX11_letAll_213 : decode cX11_letAll 213 = .ok (.iload 5, 2) := by decide +kernel
theorem dX11_letAll_215 : decode cX11_letAll 215 = .ok (.ifCond .eq 8, 3) := by decide +kernel
theorem dX11_letAll_218 : decode cX11_letAll 218 = .ok (.bipush (-9), 2) := by decide +kernel
theorem dX11_letAll_220 : decode cX11_letAll 220 = .ok (.goto 4, 3) := by decide +kernel
theorem dX11_letAll_223 : decode cX11_letAll 223 = .ok (.iload_n 3, 1) := by decide +kernel
theorem dX11_letAll_224 : decode cX11_letAll 224 = .ok (.istore_n 3, 1) := by decide +kernel
theorem dX11_letAll_225 : decode cX11_letAll 225 = .ok (.iload 5, 2) := by decide +kernel
theorem dX11_letAll_227 : decode cX11_letAll 227 = .ok (.ifCond .eq 7, 3) := by decide +kernel
theorem dX11_letAll_230 : decode cX11_letAll 230 = .ok (.iload_n 2, 1) := by decide +kernel
theorem dX11_letAll_231 : decode cX11_letAll 231 = .ok (.goto 5, 3) := by decide +kernel
theorem dX11_letAll_234 : decode cX11_letAll 234 = .ok (.bipush (-9), 2) := by decide +kernel
theorem dX11_letAll_236 : decode cX11_letAll 236 = .ok (.istore_n 2, 1) := by decide +kernel
theorem dX11_letAll_237 : decode cX11_letAll 237 = .ok (.iload_n 2, 1) := by decide +kernel
theorem dX11_letAll_238 : decode cX11_letAll 238 = .ok (.bipush (-9), 2) := by decide +kernel
theorem dX11_letAll_240 : decode cX11_letAll 240 = .ok (.if_icmp .eq 10, 3) := by decide +kernel
theorem dX11_letAll_243 : decode cX11_letAll 243 = .ok (.aload_n 0, 1) := by decide +kernel
theorem dX11_letAll_244 : decode cX11_letAll 244 = .ok (.iload_n 2, 1) := by decide +kernel
theorem dX11_letAll_245 : decode cX11_letAll 245 = .ok (.iload_n 1, 1) := by decide +kernel
theorem dX11_letAll_246 : decode cX11_letAll 246 = .ok (.iconst 1, 1) := by decide +kernel
theorem dX11_letAll_247 : decode cX11_letAll 247 = .ok (.invokevirtual 283, 3) := by decide +kernel
theorem dX11_letAll_250 : decode cX11_letAll 250 = .ok (.iload_n 3, 1) := by decide +kernel
theorem dX11_letAll_251 : decode cX11_letAll 251 = .ok (.bipush (-9), 2) := by decide +kernel
theorem dX11_letAll_253 : decode cX11_letAll 253 = .ok (.if_icmp .eq 10, 3) := by decide +kernel
theorem dX11_letAll_256 : decode cX11_letAll 256 = .ok (.aload_n 0, 1) := by decide +kernel
theorem dX11_letAll_257 : decode cX11_letAll 257 = .ok (.iload_n 3, 1) := by decide +kernel
theorem dX11_letAll_258 : decode cX11_letAll 258 = .ok (.iload_n 1, 1) := by decide +kernel
theorem dX11_letAll_259 : decode cX11_letAll 259 = .ok (.iconst 0, 1) := by decide +kernel
theorem dX11_letAll_260 : decode cX11_letAll 260 = .ok (.invokevirtual 283, 3) := by decide +kernel
theorem dX11_letAll_263 : decode cX11_letAll 263 = .ok (.iinc 1 1, 3) := by decide +kernel
theorem dX11_letAll_266 : decode cX11_letAll 266 = .ok (.goto (-264), 3) := by decide +kernel
theorem dX11_letAll_269 : decode cX11_letAll 269 = .ok (.return_, 1) := by decide +kernel
theorem dX11_tick_0 : decode cX11_tick 0 = .ok (.iload_n 1, 1) := by decide +kernel
theorem dX11_tick_1 : decode cX11_tick 1 = .ok (.iconst 1, 1) := by decide +kernel
theorem dX11_tick_2 : decode cX11_tick 2 = .ok (.sipush 200, 3) := by decide +kernel
theorem dX11_tick_5 : decode cX11_tick 5 = .ok (.invokestatic 147, 3) := by decide +kernel
theorem dX11_tick_8 : decode cX11_tick 8 = .ok (.ifCond .ne 6, 3) := by decide +kernel
theorem dX11_tick_11 : decode cX11_tick 11 = .ok (.bipush (-2), 2) := by decide +kernel
theorem dX11_tick_13 : decode cX11_tick 13 = .ok (.ireturn, 1) := by decide +kernel
theorem dX11_tick_14 : decode cX11_tick 14 = .ok (.aload_n 0, 1) := by decide +kernel
theorem dX11_tick_15 : decode cX11_tick 15 = .ok (.getfield 170, 3) := by decide +kernel
theorem dX11_tick_18 : decode cX11_tick 18 = .ok (.iload_n 1, 1) := by decide +kernel
theorem dX11_tick_19 : decode cX11_tick 19 = .ok (.iadd, 1) := by decide +kernel
theorem dX11_tick_20 : decode cX11_tick 20 = .ok (.sipush 20000, 3) := by decide +kernel
theorem dX11_tick_23 : decode cX11_tick 23 = .ok (.if_icmp .le 6, 3) := by decide +kernel
theorem dX11_tick_26 : decode cX11_tick 26 = .ok (.bipush (-4), 2) := by decide +kernel
theorem dX11_tick_28 : decode cX11_tick 28 = .ok (.ireturn, 1) := by decide +kernel
theorem dX11_tick_29 : decode cX11_tick 29 = .ok (.iconst 0, 1) := by decide +kernel
theorem dX11_tick_30 : decode cX11_tick 30 = .ok (.istore_n 2, 1) := by decide +kernel
theorem dX11_tick_31 : decode cX11_tick 31 = .ok (.iload_n 2, 1) := by decide +kernel
theorem dX11_tick_32 : decode cX11_tick 32 = .ok (.iload_n 1, 1) := by decide +kernel
theorem dX11_tick_33 : decode cX11_tick 33 = .ok (.if_icmp .ge 39, 3) := by decide +kernel
theorem dX11_tick_36 : decode cX11_tick 36 = .ok (.aload_n 0, 1) := by decide +kernel
theorem dX11_tick_37 : decode cX11_tick 37 = .ok (.dup, 1) := by decide +kernel
theorem dX11_tick_38 : decode cX11_tick 38 = .ok (.getfield 170, 3) := by decide +kernel
theorem dX11_tick_41 : decode cX11_tick 41 = .ok (.iconst 1, 1) := by decide +kernel
theorem dX11_tick_42 : decode cX11_tick 42 = .ok (.iadd, 1) := by decide +kernel
theorem dX11_tick_43 : decode cX11_tick 43 = .ok (.putfield 170, 3) := by decide +kernel
theorem dX11_tick_46 : decode cX11_tick 46 = .ok (.aload_n 0, 1) := by decide +kernel
theorem dX11_tick_47 : decode cX11_tick 47 = .ok (.invokevirtual 287, 3) := by decide +kernel
theorem dX11_tick_50 : decode cX11_tick 50 = .ok (.aload_n 0, 1) := by decide +kernel
theorem dX11_tick_51 : decode cX11_tick 51 = .ok (.invokevirtual 290, 3) := by decide +kernel
theorem dX11_tick_54 : decode cX11_tick 54 = .ok (.aload_n 0, 1) := by decide +kernel
theorem dX11_tick_55 : decode cX11_tick 55 = .ok (.invokevirtual 293, 3) := by decide +kernel
theorem dX11_tick_58 : decode cX11_tick 58 = .ok (.aload_n 0, 1) := by decide +kernel
theorem dX11_tick_59 : decode cX11_tick 59 = .ok (.invokevirtual 296, 3) := by decide +kernel
theorem dX11_tick_62 : decode cX11_tick 62 = .ok (.aload_n 0, 1) := by decide +kernel
theorem dX11_tick_63 : decode cX11_tick 63 = .ok (.invokevirtual 299, 3) := by decide +kernel
theorem dX11_tick_66 : decode cX11_tick 66 = .ok (.iinc 2 1, 3) := by decide +kernel
theorem dX11_tick_69 : decode cX11_tick 69 = .ok (.goto (-38), 3) := by decide +kernel
theorem dX11_tick_72 : decode cX11_tick 72 = .ok (.aload_n 0, 1) := by decide +kernel
theorem dX11_tick_73 : decode cX11_tick 73 = .ok (.getfield 170, 3) := by decide +kernel
theorem dX11_tick_76 : decode cX11_tick 76 = .ok (.ireturn, 1) := by decide +kernel
theorem dX11_row_0 : decode cX11_row 0 = .ok (.aload_n 0, 1) := by decide +kernel
theorem dX11_row_1 : decode cX11_row 1 = .ok (.aload_n 0, 1) := by decide +kernel
theorem dX11_row_2 : decode cX11_row 2 = .ok (.getfield 164, 3) := by decide +kernel
theorem dX11_row_5 : decode cX11_row 5 = .ok (.invokevirtual 254, 3) := by decide +kernel
theorem dX11_row_8 : decode cX11_row 8 = .ok (.iload_n 1, 1) := by decide +kernel
theorem dX11_row_9 : decode cX11_row 9 = .ok (.iconst 0, 1) := by decide +kernel
theorem dX11_row_10 : decode cX11_row 10 = .ok (.aload_n 0, 1) := by decide +kernel
theorem dX11_row_11 : decode cX11_row 11 = .ok (.getfield 248, 3) := by decide +kernel
theorem dX11_row_14 : decode cX11_row 14 = .ok (.iconst 1, 1) := by decide +kernel
theorem dX11_row_15 : decode cX11_row 15 = .ok (.isub, 1) := by decide +kernel
theorem dX11_row_16 : decode cX11_row 16 = .ok (.invokestatic 147, 3) := by decide +kernel
theorem dX11_row_19 : decode cX11_row 19 = .ok (.ifCond .eq 12, 3) := by decide +kernel
theorem dX11_row_22 : decode cX11_row 22 = .ok (.aload_n 0, 1) := by decide +kernel
theorem dX11_row_23 : decode cX11_row 23 = .ok (.getfield 131, 3) := by decide +kernel
theorem dX11_row_26 : decode cX11_row 26 = .ok (.iload_n 1, 1) := by decide +kernel
theorem dX11_row_27 : decode cX11_row 27 = .ok (.iaload, 1) := by decide +kernel
theorem dX11_row_28 : decode cX11_row 28 = .ok (.goto 5, 3) := by decide +kernel
theorem dX11_row_31 : decode cX11_row 31 = .ok (.bipush (-9), 2) := by decide +kernel
theorem dX11_row_33 : decode cX11_row 33 = .ok (.ireturn, 1) := by decide +kernel
theorem dX11_clerkAt_0 : decode cX11_clerkAt 0 = .ok (.iload_n 1, 1) := by decide +kernel
theorem dX11_clerkAt_1 : decode cX11_clerkAt 1 = .ok (.iconst 0, 1) := by decide +kernel
theorem dX11_clerkAt_2 : decode cX11_clerkAt 2 = .ok (.aload_n 0, 1) := by decide +kernel
theorem dX11_clerkAt_3 : decode cX11_clerkAt 3 = .ok (.getfield 161, 3) := by decide +kernel
theorem dX11_clerkAt_6 : decode cX11_clerkAt 6 = .ok (.iconst 1, 1) := by decide +kernel
theorem dX11_clerkAt_7 : decode cX11_clerkAt 7 = .ok (.isub, 1) := by decide +kernel
theorem dX11_clerkAt_8 : decode cX11_clerkAt 8 = .ok (.invokestatic 147, 3) := by decide +kernel
theorem dX11_clerkAt_11 : decode cX11_clerkAt 11 = .ok (.ifCond .ne 5, 3) := by decide +kernel
theorem dX11_clerkAt_14 : decode cX11_clerkAt 14 = .ok (.iconst (-1), 1) := by decide +kernel
theorem dX11_clerkAt_15 : decode cX11_clerkAt 15 = .ok (.ireturn, 1) := by decide +kernel
theorem dX11_clerkAt_16 : decode cX11_clerkAt 16 = .ok (.iload_n 2, 1) := by decide +kernel
theorem dX11_clerkAt_17 : decode cX11_clerkAt 17 = .ok (.ifCond .ne 12, 3) := by decide +kernel
theorem dX11_clerkAt_20 : decode cX11_clerkAt 20 = .ok (.aload_n 0, 1) := by decide +kernel
theorem dX11_clerkAt_21 : decode cX11_clerkAt 21 = .ok (.getfield 101, 3) := by decide +kernel
theorem dX11_clerkAt_24 : decode cX11_clerkAt 24 = .ok (.iload_n 1, 1) := by decide +kernel
theorem dX11_clerkAt_25 : decode cX11_clerkAt 25 = .ok (.iaload, 1) := by decide +kernel
theorem dX11_clerkAt_26 : decode cX11_clerkAt 26 = .ok (.goto 48, 3) := by decide +kernel
theorem dX11_clerkAt_29 : decode cX11_clerkAt 29 = .ok (.iload_n 2, 1) := by decide +kernel
theorem dX11_clerkAt_30 : decode cX11_clerkAt 30 = .ok (.iconst 1, 1) := by decide +kernel
theorem dX11_clerkAt_31 : decode cX11_clerkAt 31 = .ok (.if_icmp .ne 27, 3) := by decide +kernel
theorem dX11_clerkAt_34 : decode cX11_clerkAt 34 = .ok (.aload_n 0, 1) := by decide +kernel
theorem dX11_clerkAt_35 : decode cX11_clerkAt 35 = .ok (.getfield 101, 3) := by decide +kernel
theorem dX11_clerkAt_38 : decode cX11_clerkAt 38 = .ok (.iload_n 1, 1) := by decide +kernel
theorem dX11_clerkAt_39 : decode cX11_clerkAt 39 = .ok (.iaload, 1) := by decide +kernel
theorem dX11_clerkAt_40 : decode cX11_clerkAt 40 = .ok (.bipush (-9), 2) := by decide +kernel
theorem dX11_clerkAt_42 : decode cX11_clerkAt 42 = .ok (.if_icmp .ne 7, 3) := by decide +kernel
theorem dX11_clerkAt_45 : decode cX11_clerkAt 45 = .ok (.iconst 0, 1) := by decide +kernel
theorem dX11_clerkAt_46 : decode cX11_clerkAt 46 = .ok (.goto 28, 3) := by decide +kernel
theorem dX11_clerkAt_49 : decode cX11_clerkAt 49 = .ok (.aload_n 0, 1) := by decide +kernel
theorem dX11_clerkAt_50 : decode cX11_clerkAt 50 = .ok (.getfield 104, 3) := by decide +kernel
theorem dX11_clerkAt_53 : decode cX11_clerkAt 53 = .ok (.iload_n 1, 1) := by decide +kernel
theorem dX11_clerkAt_54 : decode cX11_clerkAt 54 = .ok (.iaload, 1) := by decide +kernel
theorem dX11_clerkAt_55 : decode cX11_clerkAt 55 = .ok (.goto 19, 3) := by decide +kernel
theorem dX11_clerkAt_58 : decode cX11_clerkAt 58 = .ok (.iload_n 2, 1) := by decide +kernel
theorem dX11_clerkAt_59 : decode cX11_clerkAt 59 = .ok (.iconst 2, 1) := by decide +kernel
theorem dX11_clerkAt_60 : decode cX11_clerkAt 60 = .ok (.if_icmp .ne 12, 3) := by decide +kernel
theorem dX11_clerkAt_63 : decode cX11_clerkAt 63 = .ok (.aload_n 0, 1) := by decide +kernel
theorem dX11_clerkAt_64 : decode cX11_clerkAt 64 = .ok (.getfield 98, 3) := by decide +kernel
theorem dX11_clerkAt_67 : decode cX11_clerkAt 67 = .ok (.iload_n 1, 1) := by decide +kernel
theorem dX11_clerkAt_68 : decode cX11_clerkAt 68 = .ok (.iaload, 1) := by decide +kernel
theorem dX11_clerkAt_69 : decode cX11_clerkAt 69 = .ok (.goto 5, 3) := by decide +kernel
theorem dX11_clerkAt_72 : decode cX11_clerkAt 72 = .ok (.bipush (-2), 2) := by decide +kernel
theorem dX11_clerkAt_74 : decode cX11_clerkAt 74 = .ok (.ireturn, 1) := by decide +kernel
theorem dX11_on_0 : decode cX11_on 0 = .ok (.aload_n 0, 1) := by decide +kernel
theorem dX11_on_1 : decode cX11_on 1 = .ok (.iload_n 1, 1) := by decide +kernel
theorem dX11_on_2 : decode cX11_on 2 = .ok (.invokevirtual 155, 3) := by decide +kernel
theorem dX11_on_5 : decode cX11_on 5 = .ok (.ifCond .eq 12, 3) := by decide +kernel
theorem dX11_on_8 : decode cX11_on 8 = .ok (.aload_n 0, 1) := by decide +kernel
theorem dX11_on_9 : decode cX11_on 9 = .ok (.iload_n 1, 1) := by decide +kernel
theorem dX11_on_10 : decode cX11_on 10 = .ok (.iload_n 2, 1) := by decide +kernel
theorem dX11_on_11 : decode cX11_on 11 = .ok (.invokevirtual 279, 3) := by decide +kernel
theorem dX11_on_14 : decode cX11_on 14 = .ok (.goto 4, 3) := by decide +kernel
theorem dX11_on_17 : decode cX11_on 17 = .ok (.iconst (-1), 1) := by decide +kernel
theorem dX11_on_18 : decode cX11_on 18 = .ok (.ireturn, 1) := by decide +kernel
theorem dX11_waits_0 : decode cX11_waits 0 = .ok (.aload_n 0, 1) := by decide +kernel
theorem dX11_waits_1 : decode cX11_waits 1 = .ok (.iload_n 1, 1) := by decide +kernel
theorem dX11_waits_2 : decode cX11_waits 2 = .ok (.invokevirtual 151, 3) := by decide +kernel
theorem dX11_waits_5 : decode cX11_waits 5 = .ok (.ifCond .ne 5, 3) := by decide +kernel
theorem dX11_waits_8 : decode cX11_waits 8 = .ok (.iconst (-1), 1) := by decide +kernel
theorem dX11_waits_9 : decode cX11_waits 9 = .ok (.ireturn, 1) := by decide +kernel
theorem dX11_waits_10 : decode cX11_waits 10 = .ok (.aload_n 0, 1) := by decide +kernel
theorem dX11_waits_11 : decode cX11_waits 11 = .ok (.getfield 13, 3) := by decide +kernel
theorem dX11_waits_14 : decode cX11_waits 14 = .ok (.iload_n 1, 1) := by decide +kernel
theorem dX11_waits_15 : decode cX11_waits 15 = .ok (.iaload, 1) := by decide +kernel
theorem dX11_waits_16 : decode cX11_waits 16 = .ok (.iconst 2, 1) := by decide +kernel
theorem dX11_waits_17 : decode cX11_waits 17 = .ok (.if_icmp .eq 6, 3) := by decide +kernel
theorem dX11_waits_20 : decode cX11_waits 20 = .ok (.bipush (-3), 2) := by decide +kernel
theorem dX11_waits_22 : decode cX11_waits 22 = .ok (.ireturn, 1) := by decide +kernel
theorem dX11_waits_23 : decode cX11_waits 23 = .ok (.iload_n 2, 1) := by decide +kernel
theorem dX11_waits_24 : decode cX11_waits 24 = .ok (.tableswitch 85 0 4 #[36, 43, 50, 71, 78], 36) := by decide +kernel
theorem dX11_waits_60 : decode cX11_waits 60 = .ok (.aload_n 0, 1) := by decide +kernel
theorem dX11_waits_61 : decode cX11_waits 61 = .ok (.getfield 83, 3) := by decide +kernel
theorem dX11_waits_64 : decode cX11_waits 64 = .ok (.iload_n 1, 1) := by decide +kernel
theorem dX11_waits_65 : decode cX11_waits 65 = .ok (.iaload, 1) := by decide +kernel
theorem dX11_waits_66 : decode cX11_waits 66 = .ok (.ireturn, 1) := by decide +kernel
theorem dX11_waits_67 : decode cX11_waits 67 = .ok (.aload_n 0, 1) := by decide +kernel
theorem dX11_waits_68 : decode cX11_waits 68 = .ok (.getfield 86, 3) := by decide +kernel
theorem dX11_waits_71 : decode cX11_waits 71 = .ok (.iload_n 1, 1) := by decide +kernel
theorem dX11_waits_72 : decode cX11_waits 72 = .ok (.iaload, 1) := by decide +kernel
theorem dX11_waits_73 : decode cX11_waits 73 = .ok (.ireturn, 1) := by decide +kernel
theorem dX11_waits_74 : decode cX11_waits 74 = .ok (.aload_n 0, 1) := by decide +kernel
theorem dX11_waits_75 : decode cX11_waits 75 = .ok (.getfield 83, 3) := by decide +kernel
theorem dX11_waits_78 : decode cX11_waits 78 = .ok (.iload_n 1, 1) := by decide +kernel
theorem dX11_waits_79 : decode cX11_waits 79 = .ok (.iaload, 1) := by decide +kernel
theorem dX11_waits_80 : decode cX11_waits 80 = .ok (.ifCond .ne 8, 3) := by decide +kernel
theorem dX11_waits_83 : decode cX11_waits 83 = .ok (.bipush (-9), 2) := by decide +kernel
theorem dX11_waits_85 : decode cX11_waits 85 = .ok (.goto 9, 3) := by decide +kernel
theorem dX11_waits_88 : decode cX11_waits 88 = .ok (.aload_n 0, 1) := by decide +kernel
theorem dX11_waits_89 : decode cX11_waits 89 = .ok (.getfield 89, 3) := by decide +kernel
theorem dX11_waits_92 : decode cX11_waits 92 = .ok (.iload_n 1, 1) := by decide +kernel
theorem dX11_waits_93 : decode cX11_waits 93 = .ok (.iaload, 1) := by decide +kernel
theorem dX11_waits_94 : decode cX11_waits 94 = .ok (.ireturn, 1) := by decide +kernel
theorem dX11_waits_95 : decode cX11_waits 95 = .ok (.aload_n 0, 1) := by decide +kernel
theorem dX11_waits_96 : decode cX11_waits 96 = .ok (.getfield 92, 3) := by decide +kernel
theorem dX11_waits_99 : decode cX11_waits 99 = .ok (.iload_n 1, 1) := by decide +kernel
theorem dX11_waits_100 : decode cX11_waits 100 = .ok (.iaload, 1) := by decide +kernel
theorem dX11_waits_101 : decode cX11_waits 101 = .ok (.ireturn, 1) := by decide +kernel
theorem dX11_waits_102 : decode cX11_waits 102 = .ok (.aload_n 0, 1) := by decide +kernel
theorem dX11_waits_103 : decode cX11_waits 103 = .ok (.getfield 95, 3) := by decide +kernel
theorem dX11_waits_106 : decode cX11_waits 106 = .ok (.iload_n 1, 1) := by decide +kernel
theorem dX11_waits_107 : decode cX11_waits 107 = .ok (.iaload, 1) := by decide +kernel
theorem dX11_waits_108 : decode cX11_waits 108 = .ok (.ireturn, 1) := by decide +kernel
theorem dX11_waits_109 : decode cX11_waits 109 = .ok (.bipush (-2), 2) := by decide +kernel
theorem dX11_waits_111 : decode cX11_waits 111 = .ok (.ireturn, 1) := by decide +kernel
theorem dX11_measure_0 : decode cX11_measure 0 = .ok (.iconst 0, 1) := by decide +kernel
theorem dX11_measure_1 : decode cX11_measure 1 = .ok (.istore_n 1, 1) := by decide +kernel
theorem dX11_measure_2 : decode cX11_measure 2 = .ok (.iload_n 1, 1) := by decide +kernel
theorem dX11_measure_3 : decode cX11_measure 3 = .ok (.aload_n 0, 1) := by decide +kernel
theorem dX11_measure_4 : decode cX11_measure 4 = .ok (.getfield 161, 3) := by decide +kernel
theorem dX11_measure_7 : decode cX11_measure 7 = .ok (.if_icmp .ge 36, 3) := by decide +kernel
theorem dX11_measure_10 : decode cX11_measure 10 = .ok (.aload_n 0, 1) := by decide +kernel
theorem dX11_measure_11 : decode cX11_measure 11 = .ok (.getfield 134, 3) := by decide +kernel
theorem dX11_measure_14 : decode cX11_measure 14 = .ok (.iload_n 1, 1) := by decide +kernel
theorem dX11_measure_15 : decode cX11_measure 15 = .ok (.aload_n 0, 1) := by decide +kernel
theorem dX11_measure_16 : decode cX11_measure 16 = .ok (.getfield 101, 3) := by decide +kernel
theorem dX11_measure_19 : decode cX11_measure 19 = .ok (.iload_n 1, 1) := by decide +kernel
theorem dX11_measure_20 : decode cX11_measure 20 = .ok (.iaload, 1) := by decide +kernel
theorem dX11_measure_21 : decode cX11_measure 21 = .ok (.bipush (-9), 2) := by decide +kernel
theorem dX11_measure_23 : decode cX11_measure 23 = .ok (.if_icmp .ne 7, 3) := by decide +kernel
theorem dX11_measure_26 : decode cX11_measure 26 = .ok (.iconst 0, 1) := by decide +kernel
theorem dX11_measure_27 : decode cX11_measure 27 = .ok (.goto 9, 3) := by decide +kernel
theorem dX11_measure_30 : decode cX11_measure 30 = .ok (.aload_n 0, 1) := by decide +kernel
theorem dX11_measure_31 : decode cX11_measure 31 = .ok (.getfield 104, 3) := by decide +kernel
theorem dX11_measure_34 : decode cX11_measure 34 = .ok (.iload_n 1, 1) := by decide +kernel
theorem dX11_measure_35 : decode cX11_measure 35 = .ok (.iaload, 1) := by decide +kernel
theorem dX11_measure_36 : decode cX11_measure 36 = .ok (.iastore, 1) := by decide +kernel
theorem dX11_measure_37 : decode cX11_measure 37 = .ok (.iinc 1 1, 3) := by decide +kernel
theorem dX11_measure_40 : decode cX11_measure 40 = .ok (.goto (-38), 3) := by decide +kernel
theorem dX11_measure_43 : decode cX11_measure 43 = .ok (.aload_n 0, 1) := by decide +kernel
theorem dX11_measure_44 : decode cX11_measure 44 = .ok (.iconst (-1), 1) := by decide +kernel
theorem dX11_measure_45 : decode cX11_measure 45 = .ok (.putfield 302, 3) := by decide +kernel
theorem dX11_measure_48 : decode cX11_measure 48 = .ok (.aload_n 0, 1) := by decide +kernel
theorem dX11_measure_49 : decode cX11_measure 49 = .ok (.iconst 0, 1) := by decide +kernel
theorem dX11_measure_50 : decode cX11_measure 50 = .ok (.putfield 305, 3) := by decide +kernel
theorem dX11_measure_53 : decode cX11_measure 53 = .ok (.iconst 0, 1) := by decide +kernel
theorem dX11_measure_54 : decode cX11_measure 54 = .ok (.istore_n 1, 1) := by decide +kernel
theorem dX11_measure_55 : decode cX11_measure 55 = .ok (.iload_n 1, 1) := by decide +kernel
theorem dX11_measure_56 : decode cX11_measure 56 = .ok (.aload_n 0, 1) := by decide +kernel
theorem dX11_measure_57 : decode cX11_measure 57 = .ok (.getfield 248, 3) := by decide +kernel
theorem dX11_measure_60 : decode cX11_measure 60 = .ok (.if_icmp .ge 116, 3) := by decide +kernel
theorem dX11_measure_63 : decode cX11_measure 63 = .ok (.iconst 0, 1) := by decide +kernel
theorem dX11_measure_64 : decode cX11_measure 64 = .ok (.istore_n 2, 1) := by decide +kernel
theorem dX11_measure_65 : decode cX11_measure 65 = .ok (.iconst 1, 1) := by decide +kernel
theorem dX11_measure_66 : decode cX11_measure 66 = .ok (.istore_n 3, 1) := by decide +kernel
theorem dX11_measure_67 : decode cX11_measure 67 = .ok (.iload_n 3, 1) := by decide +kernel
theorem dX11_measure_68 : decode cX11_measure 68 = .ok (.aload_n 0, 1) := by decide +kernel
theorem dX11_measure_69 : decode cX11_measure 69 = .ok (.getfield 161, 3) := by decide +kernel
theorem dX11_measure_72 : decode cX11_measure 72 = .ok (.if_icmp .ge 30, 3) := by decide +kernel
theorem dX11_measure_75 : decode cX11_measure 75 = .ok (.aload_n 0, 1) := by decide +kernel
theorem dX11_measure_76 : decode cX11_measure 76 = .ok (.getfield 134, 3) := by decide +kernel
theorem dX11_measure_79 : decode cX11_measure 79 = .ok (.iload_n 3, 1) := by decide +kernel
theorem dX11_measure_80 : decode cX11_measure 80 = .ok (.iaload, 1) := by decide +kernel
theorem dX11_measure_81 : decode cX11_measure 81 = .ok (.aload_n 0, 1) := by decide +kernel
theorem dX11_measure_82 : decode cX11_measure 82 = .ok (.getfield 134, 3) := by decide +kernel
theorem dX11_measure_85 : decode cX11_measure 85 = .ok (.iload_n 2, 1) := by decide +kernel
theorem dX11_measure_86 : decode cX11_measure 86 = .ok (.iaload, 1) := by decide +kernel
theorem dX11_measure_87 : decode cX11_measure 87 = .ok (.if_icmp .ge 7, 3) := by decide +kernel
theorem dX11_measure_90 : decode cX11_measure 90 = .ok (.iload_n 3, 1) := by decide +kernel
theorem dX11_measure_91 : decode cX11_measure 91 = .ok (.goto 4, 3) := by decide +kernel
theorem dX11_measure_94 : decode cX11_measure 94 = .ok (.iload_n 2, 1) := by decide +kernel
theorem dX11_measure_95 : decode cX11_measure 95 = .ok (.istore_n 2, 1) := by decide +kernel
theorem dX11_measure_96 : decode cX11_measure 96 = .ok (.iinc 3 1, 3) := by decide +kernel
theorem dX11_measure_99 : decode cX11_measure 99 = .ok (.goto (-32), 3) := by decide +kernel
theorem dX11_measure_102 : decode cX11_measure 102 = .ok (.aload_n 0, 1) := by decide +kernel
theorem dX11_measure_103 : decode cX11_measure 103 = .ok (.getfield 134, 3) := by decide +kernel
theorem dX11_measure_106 : decode cX11_measure 106 = .ok (.iload_n 2, 1) := by decide +kernel
theorem dX11_measure_107 : decode cX11_measure 107 = .ok (.dup2, 1) := by decide +kernel
theorem dX11_measure_108 : decode cX11_measure 108 = .ok (.iaload, 1) := by decide +kernel
theorem dX11_measure_109 : decode cX11_measure 109 = .ok (.aload_n 0, 1) := by decide +kernel
theorem dX11_measure_110 : decode cX11_measure 110 = .ok (.getfield 98, 3) := by decide +kernel
theorem dX11_measure_113 : decode cX11_measure 113 = .ok (.iload_n 2, 1) := by decide +kernel
theorem dX11_measure_114 : decode cX11_measure 114 = .ok (.iaload, 1) := by decide +kernel
theorem dX11_measure_115 : decode cX11_measure 115 = .ok (.iadd, 1) := by decide +kernel
theorem dX11_measure_116 : decode cX11_measure 116 = .ok (.iastore, 1) := by decide +kernel
theorem dX11_measure_117 : decode cX11_measure 117 = .ok (.aload_n 0, 1) := by decide +kernel
theorem dX11_measure_118 : decode cX11_measure 118 = .ok (.getfield 170, 3) := by decide +kernel
theorem dX11_measure_121 : decode cX11_measure 121 = .ok (.aload_n 0, 1) := by decide +kernel
theorem dX11_measure_122 : decode cX11_measure 122 = .ok (.getfield 134, 3) := by decide +kernel
theorem dX11_measure_125 : decode cX11_measure 125 = .ok (.iload_n 2, 1) := by decide +kernel
theorem dX11_measure_126 : decode cX11_measure 126 = .ok (.iaload, 1) := by decide +kernel
theorem dX11_measure_127 : decode cX11_measure 127 = .ok (.iadd, 1) := by decide +kernel
theorem dX11_measure_128 : decode cX11_measure 128 = .ok (.aload_n 0, 1) := by decide +kernel
theorem dX11_measure_129 : decode cX11_measure 129 = .ok (.aload_n 0, 1) := by decide +kernel
theorem dX11_measure_130 : decode cX11_measure 130 = .ok (.getfield 131, 3) := by decide +kernel
theorem dX11_measure_133 : decode cX11_measure 133 = .ok (.iload_n 1, 1) := by decide +kernel
theorem dX11_measure_134 : decode cX11_measure 134 = .ok (.iaload, 1) := by decide +kernel
theorem dX11_measure_135 : decode cX11_measure 135 = .ok (.invokevirtual 245, 3) := by decide +kernel
theorem dX11_measure_138 : decode cX11_measure 138 = .ok (.isub, 1) := by decide +kernel
theorem dX11_measure_139 : decode cX11_measure 139 = .ok (.istore_n 3, 1) := by decide +kernel
theorem dX11_measure_140 : decode cX11_measure 140 = .ok (.aload_n 0, 1) := by decide +kernel
theorem dX11_measure_141 : decode cX11_measure 141 = .ok (.iload_n 3, 1) := by decide +kernel
theorem dX11_measure_142 : decode cX11_measure 142 = .ok (.aload_n 0, 1) := by decide +kernel
theorem dX11_measure_143 : decode cX11_measure 143 = .ok (.getfield 302, 3) := by decide +kernel
theorem dX11_measure_146 : decode cX11_measure 146 = .ok (.if_icmp .le 7, 3) := by decide +kernel
theorem dX11_measure_149 : decode cX11_measure 149 = .ok (.iload_n 3, 1) := by decide +kernel
theorem dX11_measure_150 : decode cX11_measure 150 = .ok (.goto 7, 3) := by decide +kernel
theorem dX11_measure_153 : decode cX11_measure 153 = .ok (.aload_n 0, 1) := by decide +kernel
theorem dX11_measure_154 : decode cX11_measure 154 = .ok (.getfield 302, 3) := by decide +kernel
theorem dX11_measure_157 : decode cX11_measure 157 = .ok (.putfield 302, 3) := by decide +kernel
theorem dX11_measure_160 : decode cX11_measure 160 = .ok (.aload_n 0, 1) := by decide +kernel
theorem dX11_measure_161 : decode cX11_measure 161 = .ok (.dup, 1) := by decide +kernel
theorem dX11_measure_162 : decode cX11_measure 162 = .ok (.getfield 305, 3) := by decide +kernel
theorem dX11_measure_165 : decode cX11_measure 165 = .ok (.iload_n 3, 1) := by decide +kernel
theorem dX11_measure_166 : decode cX11_measure 166 = .ok (.iadd, 1) := by decide +kernel
theorem dX11_measure_167 : decode cX11_measure 167 = .ok (.putfield 305, 3) := by decide +kernel
theorem dX11_measure_170 : decode cX11_measure 170 = .ok (.iinc 1 1, 3) := by decide +kernel
theorem dX11_measure_173 : decode cX11_measure 173 = .ok (.goto (-118), 3) := by decide +kernel
theorem dX11_measure_176 : decode cX11_measure 176 = .ok (.return_, 1) := by decide +kernel
theorem dX11_nextLine_0 : decode cX11_nextLine 0 = .ok (.aload_n 0, 1) := by decide +kernel
theorem dX11_nextLine_1 : decode cX11_nextLine 1 = .ok (.getfield 248, 3) := by decide +kernel
theorem dX11_nextLine_4 : decode cX11_nextLine 4 = .ok (.iconst 2, 1) := by decide +kernel
theorem dX11_nextLine_5 : decode cX11_nextLine 5 = .ok (.isub, 1) := by decide +kernel
theorem dX11_nextLine_6 : decode cX11_nextLine 6 = .ok (.istore_n 1, 1) := by decide +kernel
theorem dX11_nextLine_7 : decode cX11_nextLine 7 = .ok (.iload_n 1, 1) := by decide +kernel
theorem dX11_nextLine_8 : decode cX11_nextLine 8 = .ok (.ifCond .lt 26, 3) := by decide +kernel
theorem dX11_nextLine_11 : decode cX11_nextLine 11 = .ok (.aload_n 0, 1) := by decide +kernel
theorem dX11_nextLine_12 : decode cX11_nextLine 12 = .ok (.getfield 131, 3) := by decide +kernel
theorem dX11_nextLine_15 : decode cX11_nextLine 15 = .ok (.iload_n 1, 1) := by decide +kernel
theorem dX11_nextLine_16 : decode cX11_nextLine 16 = .ok (.iaload, 1) := by decide +kernel
theorem dX11_nextLine_17 : decode cX11_nextLine 17 = .ok (.aload_n 0, 1) := by decide +kernel
theorem dX11_nextLine_18 : decode cX11_nextLine 18 = .ok (.getfield 131, 3) := by decide +kernel
theorem dX11_nextLine_21 : decode cX11_nextLine 21 = .ok (.iload_n 1, 1) := by decide +kernel
theorem dX11_nextLine_22 : decode cX11_nextLine 22 = .ok (.iconst 1, 1) := by decide +kernel
theorem dX11_nextLine_23 : decode cX11_nextLine 23 = .ok (.iadd, 1) := by decide +kernel
theorem dX11_nextLine_24 : decode cX11_nextLine 24 = .ok (.iaload, 1) := by decide +kernel
theorem dX11_nextLine_25 : decode cX11_nextLine 25 = .ok (.if_icmp .le 9, 3) := by decide +kernel
theorem dX11_nextLine_28 : decode cX11_nextLine 28 = .ok (.iinc 1 (-1), 3) := by decide +kernel
theorem dX11_nextLine_31 : decode cX11_nextLine 31 = .ok (.goto (-24), 3) := by decide +kernel
theorem dX11_nextLine_34 : decode cX11_nextLine 34 = .ok (.iload_n 1, 1) := by decide +kernel
theorem dX11_nextLine_35 : decode cX11_nextLine 35 = .ok (.ifCond .ge 5, 3) := by decide +kernel
theorem dX11_nextLine_38 : decode cX11_nextLine 38 = .ok (.iconst 0, 1) := by decide +kernel
theorem dX11_nextLine_39 : decode cX11_nextLine 39 = .ok (.ireturn, 1) := by decide +kernel
theorem dX11_nextLine_40 : decode cX11_nextLine 40 = .ok (.aload_n 0, 1) := by decide +kernel
theorem dX11_nextLine_41 : decode cX11_nextLine 41 = .ok (.getfield 248, 3) := by decide +kernel
theorem dX11_nextLine_44 : decode cX11_nextLine 44 = .ok (.iconst 1, 1) := by decide +kernel
theorem dX11_nextLine_45 : decode cX11_nextLine 45 = .ok (.isub, 1) := by decide +kernel
theorem dX11_nextLine_46 : decode cX11_nextLine 46 = .ok (.istore_n 2, 1) := by decide +kernel
theorem dX11_nextLine_47 : decode cX11_nextLine 47 = .ok (.aload_n 0, 1) := by decide +kernel
theorem dX11_nextLine_48 : decode cX11_nextLine 48 = .ok (.getfield 131, 3) := by decide +kernel
theorem dX11_nextLine_51 : decode cX11_nextLine 51 = .ok (.iload_n 2, 1) := by decide +kernel
theorem dX11_nextLine_52 : decode cX11_nextLine 52 = .ok (.iaload, 1) := by decide +kernel
theorem dX11_nextLine_53 : decode cX11_nextLine 53 = .ok (.aload_n 0, 1) := by decide +kernel
theorem dX11_nextLine_54 : decode cX11_nextLine 54 = .ok (.getfield 131, 3) := by decide +kernel
theorem dX11_nextLine_57 : decode cX11_nextLine 57 = .ok (.iload_n 1, 1) := by decide +kernel
theorem dX11_nextLine_58 : decode cX11_nextLine 58 = .ok (.iaload, 1) := by decide +kernel
theorem dX11_nextLine_59 : decode cX11_nextLine 59 = .ok (.if_icmp .ge 9, 3) := by decide +kernel
theorem dX11_nextLine_62 : decode cX11_nextLine 62 = .ok (.iinc 2 (-1), 3) := by decide +kernel
theorem dX11_nextLine_65 : decode cX11_nextLine 65 = .ok (.goto (-18), 3) := by decide +kernel
theorem dX11_nextLine_68 : decode cX11_nextLine 68 = .ok (.aload_n 0, 1) := by decide +kernel
theorem dX11_nextLine_69 : decode cX11_nextLine 69 = .ok (.iload_n 1, 1) := by decide +kernel
theorem dX11_nextLine_70 : decode cX11_nextLine 70 = .ok (.iload_n 2, 1) := by decide +kernel
theorem dX11_nextLine_71 : decode cX11_nextLine 71 = .ok (.invokevirtual 308, 3) := by decide +kernel
theorem dX11_nextLine_74 : decode cX11_nextLine 74 = .ok (.iload_n 1, 1) := by decide +kernel
theorem dX11_nextLine_75 : decode cX11_nextLine 75 = .ok (.iconst 1, 1) := by decide +kernel
theorem dX11_nextLine_76 : decode cX11_nextLine 76 = .ok (.iadd, 1) := by decide +kernel
theorem dX11_nextLine_77 : decode cX11_nextLine 77 = .ok (.istore_n 3, 1) := by decide +kernel
theorem dX11_nextLine_78 : decode cX11_nextLine 78 = .ok (.aload_n 0, 1) := by decide +kernel
theorem dX11_nextLine_79 : decode cX11_nextLine 79 = .ok (.getfield 248, 3) := by decide +kernel
theorem dX11_nextLine_82 : decode cX11_nextLine 82 = .ok (.iconst 1, 1) := by decide +kernel
theorem dX11_nextLine_83 : decode cX11_nextLine 83 = .ok (.isub, 1) := by decide +kernel
theorem dX11_nextLine_84 : decode cX11_nextLine 84 = .ok (.istore 4, 2) := by decide +kernel
theorem dX11_nextLine_86 : decode cX11_nextLine 86 = .ok (.iload_n 3, 1) := by decide +kernel
theorem dX11_nextLine_87 : decode cX11_nextLine 87 = .ok (.iload 4, 2) := by decide +kernel
theorem dX11_nextLine_89 : decode cX11_nextLine 89 = .ok (.if_icmp .ge 19, 3) := by decide +kernel
theorem dX11_nextLine_92 : decode cX11_nextLine 92 = .ok (.aload_n 0, 1) := by decide +kernel
theorem dX11_nextLine_93 : decode cX11_nextLine 93 = .ok (.iload_n 3, 1) := by decide +kernel
theorem dX11_nextLine_94 : decode cX11_nextLine 94 = .ok (.iload 4, 2) := by decide +kernel
theorem dX11_nextLine_96 : decode cX11_nextLine 96 = .ok (.invokevirtual 308, 3) := by decide +kernel
theorem dX11_nextLine_99 : decode cX11_nextLine 99 = .ok (.iinc 3 1, 3) := by decide +kernel
theorem dX11_nextLine_102 : decode cX11_nextLine 102 = .ok (.iinc 4 (-1), 3) := by decide +kernel
theorem dX11_nextLine_105 : decode cX11_nextLine 105 = .ok (.goto (-19), 3) := by decide +kernel
theorem dX11_nextLine_108 : decode cX11_nextLine 108 = .ok (.iconst 1, 1) := by decide +kernel
theorem dX11_nextLine_109 : decode cX11_nextLine 109 = .ok (.ireturn, 1) := by decide +kernel
theorem dX11_swap_0 : decode cX11_swap 0 = .ok (.aload_n 0, 1) := by decide +kernel
theorem dX11_swap_1 : decode cX11_swap 1 = .ok (.getfield 131, 3) := by decide +kernel
theorem dX11_swap_4 : decode cX11_swap 4 = .ok (.iload_n 1, 1) := by decide +kernel
theorem dX11_swap_5 : decode cX11_swap 5 = .ok (.iaload, 1) := by decide +kernel
theorem dX11_swap_6 : decode cX11_swap 6 = .ok (.istore_n 3, 1) := by decide +kernel
theorem dX11_swap_7 : decode cX11_swap 7 = .ok (.aload_n 0, 1) := by decide +kernel
theorem dX11_swap_8 : decode cX11_swap 8 = .ok (.getfield 131, 3) := by decide +kernel
theorem dX11_swap_11 : decode cX11_swap 11 = .ok (.iload_n 1, 1) := by decide +kernel
theorem dX11_swap_12 : decode cX11_swap 12 = .ok (.aload_n 0, 1) := by decide +kernel
theorem dX11_swap_13 : decode cX11_swap 13 = .ok (.getfield 131, 3) := by decide +kernel
theorem dX11_swap_16 : decode cX11_swap 16 = .ok (.iload_n 2, 1) := by decide +kernel
theorem dX11_swap_17 : decode cX11_swap 17 = .ok (.iaload, 1) := by decide +kernel
theorem dX11_swap_18 : decode cX11_swap 18 = .ok (.iastore, 1) := by decide +kernel
theorem dX11_swap_19 : decode cX11_swap 19 = .ok (.aload_n 0, 1) := by decide +kernel
theorem dX11_swap_20 : decode cX11_swap 20 = .ok (.getfield 131, 3) := by decide +kernel
theorem dX11_swap_23 : decode cX11_swap 23 = .ok (.iload_n 2, 1) := by decide +kernel
theorem dX11_swap_24 : decode cX11_swap 24 = .ok (.iload_n 3, 1) := by decide +kernel
theorem dX11_swap_25 : decode cX11_swap 25 = .ok (.iastore, 1) := by decide +kernel
theorem dX11_swap_26 : decode cX11_swap 26 = .ok (.return_, 1) := by decide +kernel
theorem dX11_mayOrder_0 : decode cX11_mayOrder 0 = .ok (.aload_n 0, 1) := by decide +kernel
theorem dX11_mayOrder_1 : decode cX11_mayOrder 1 = .ok (.iconst 0, 1) := by decide +kernel
theorem dX11_mayOrder_2 : decode cX11_mayOrder 2 = .ok (.invokevirtual 254, 3) := by decide +kernel
theorem dX11_mayOrder_5 : decode cX11_mayOrder 5 = .ok (.aload_n 0, 1) := by decide +kernel
theorem dX11_mayOrder_6 : decode cX11_mayOrder 6 = .ok (.getfield 248, 3) := by decide +kernel
theorem dX11_mayOrder_9 : decode cX11_mayOrder 9 = .ok (.ifCond .eq 10, 3) := by decide +kernel
theorem dX11_mayOrder_12 : decode cX11_mayOrder 12 = .ok (.aload_n 0, 1) := by decide +kernel
theorem dX11_mayOrder_13 : decode cX11_mayOrder 13 = .ok (.getfield 161, 3) := by decide +kernel
theorem dX11_mayOrder_16 : decode cX11_mayOrder 16 = .ok (.ifCond .ne 8, 3) := by decide +kernel
theorem dX11_mayOrder_19 : decode cX11_mayOrder 19 = .ok (.bipush (-9), 2) := by decide +kernel
theorem dX11_mayOrder_21 : decode cX11_mayOrder 21 = .ok (.goto 18, 3) := by decide +kernel
theorem dX11_mayOrder_24 : decode cX11_mayOrder 24 = .ok (.aload_n 0, 1) := by decide +kernel
theorem dX11_mayOrder_25 : decode cX11_mayOrder 25 = .ok (.getfield 248, 3) := by decide +kernel
theorem dX11_mayOrder_28 : decode cX11_mayOrder 28 = .ok (.bipush 6, 2) := by decide +kernel
theorem dX11_mayOrder_30 : decode cX11_mayOrder 30 = .ok (.if_icmp .le 8, 3) := by decide +kernel
theorem dX11_mayOrder_33 : decode cX11_mayOrder 33 = .ok (.bipush (-3), 2) := by decide +kernel
theorem dX11_mayOrder_35 : decode cX11_mayOrder 35 = .ok (.goto 4, 3) := by decide +kernel
theorem dX11_mayOrder_38 : decode cX11_mayOrder 38 = .ok (.iconst 0, 1) := by decide +kernel
theorem dX11_mayOrder_39 : decode cX11_mayOrder 39 = .ok (.ireturn, 1) := by decide +kernel
theorem dX11_layBest_0 : decode cX11_layBest 0 = .ok (.aload_n 0, 1) := by decide +kernel
theorem dX11_layBest_1 : decode cX11_layBest 1 = .ok (.iconst 0, 1) := by decide +kernel
theorem dX11_layBest_2 : decode cX11_layBest 2 = .ok (.putfield 248, 3) := by decide +kernel
theorem dX11_layBest_5 : decode cX11_layBest 5 = .ok (.iconst 0, 1) := by decide +kernel
theorem dX11_layBest_6 : decode cX11_layBest 6 = .ok (.istore_n 1, 1) := by decide +kernel
theorem dX11_layBest_7 : decode cX11_layBest 7 = .ok (.iload_n 1, 1) := by decide +kernel
theorem dX11_layBest_8 : decode cX11_layBest 8 = .ok (.aload_n 0, 1) := by decide +kernel
theorem dX11_layBest_9 : decode cX11_layBest 9 = .ok (.getfield 158, 3) := by decide +kernel
theorem dX11_layBest_12 : decode cX11_layBest 12 = .ok (.if_icmp .ge 39, 3) := by decide +kernel
theorem dX11_layBest_15 : decode cX11_layBest 15 = .ok (.aload_n 0, 1) := by decide +kernel
theorem dX11_layBest_16 : decode cX11_layBest 16 = .ok (.getfield 50, 3) := by decide +kernel
theorem dX11_layBest_19 : decode cX11_layBest 19 = .ok (.iload_n 1, 1) := by decide +kernel
theorem dX11_layBest_20 : decode cX11_layBest 20 = .ok (.iaload, 1) := by decide +kernel
theorem dX11_layBest_21 : decode cX11_layBest 21 = .ok (.iconst 3, 1) := by decide +kernel
theorem dX11_layBest_22 : decode cX11_layBest 22 = .ok (.if_icmp .ne 23, 3) := by decide +kernel
theorem dX11_layBest_25 : decode cX11_layBest 25 = .ok (.aload_n 0, 1) := by decide +kernel
theorem dX11_layBest_26 : decode cX11_layBest 26 = .ok (.getfield 131, 3) := by decide +kernel
theorem dX11_layBest_29 : decode cX11_layBest 29 = .ok (.aload_n 0, 1) := by decide +kernel
theorem dX11_layBest_30 : decode cX11_layBest 30 = .ok (.getfield 248, 3) := by decide +kernel
theorem dX11_layBest_33 : decode cX11_layBest 33 = .ok (.iload_n 1, 1) := by decide +kernel
theorem dX11_layBest_34 : decode cX11_layBest 34 = .ok (.iastore, 1) := by decide +kernel
theorem dX11_layBest_35 : decode cX11_layBest 35 = .ok (.aload_n 0, 1) := by decide +kernel
theorem dX11_layBest_36 : decode cX11_layBest 36 = .ok (.dup, 1) := by decide +kernel
theorem dX11_layBest_37 : decode cX11_layBest 37 = .ok (.getfield 248, 3) := by decide +kernel
theorem dX11_layBest_40 : decode cX11_layBest 40 = .ok (.iconst 1, 1) := by decide +kernel
theorem dX11_layBest_41 : decode cX11_layBest 41 = .ok (.iadd, 1) := by decide +kernel
theorem dX11_layBest_42 : decode cX11_layBest 42 = .ok (.putfield 248, 3) := by decide +kernel
theorem dX11_layBest_45 : decode cX11_layBest 45 = .ok (.iinc 1 1, 3) := by decide +kernel
theorem dX11_layBest_48 : decode cX11_layBest 48 = .ok (.goto (-41), 3) := by decide +kernel
theorem dX11_layBest_51 : decode cX11_layBest 51 = .ok (.aload_n 0, 1) := by decide +kernel
theorem dX11_layBest_52 : decode cX11_layBest 52 = .ok (.iconst (-1), 1) := by decide +kernel
theorem dX11_layBest_53 : decode cX11_layBest 53 = .ok (.putfield 311, 3) := by decide +kernel
theorem dX11_layBest_56 : decode cX11_layBest 56 = .ok (.iconst 0, 1) := by decide +kernel
theorem dX11_layBest_57 : decode cX11_layBest 57 = .ok (.istore_n 1, 1) := by decide +kernel
theorem dX11_layBest_58 : decode cX11_layBest 58 = .ok (.iconst 1, 1) := by decide +kernel
theorem dX11_layBest_59 : decode cX11_layBest 59 = .ok (.istore_n 2, 1) := by decide +kernel
theorem dX11_layBest_60 : decode cX11_layBest 60 = .ok (.iload_n 2, 1) := by decide +kernel
theorem dX11_layBest_61 : decode cX11_layBest 61 = .ok (.ifCond .eq 93, 3) := by decide +kernel
theorem dX11_layBest_64 : decode cX11_layBest 64 = .ok (.aload_n 0, 1) := by decide +kernel
theorem dX11_layBest_65 : decode cX11_layBest 65 = .ok (.invokevirtual 314, 3) := by decide +kernel
theorem dX11_layBest_68 : decode cX11_layBest 68 = .ok (.aload_n 0, 1) := by decide +kernel
theorem dX11_layBest_69 : decode cX11_layBest 69 = .ok (.getfield 311, 3) := by decide +kernel
theorem dX11_layBest_72 : decode cX11_layBest 72 = .ok (.ifCond .lt 33, 3) := by decide +kernel
theorem dX11_layBest_75 : decode cX11_layBest 75 = .ok (.aload_n 0, 1) := by decide +kernel
theorem dX11_layBest_76 : decode cX11_layBest 76 = .ok (.getfield 302, 3) := by decide +kernel
theorem dX11_layBest_79 : decode cX11_layBest 79 = .ok (.aload_n 0, 1) := by decide +kernel
theorem dX11_layBest_80 : decode cX11_layBest 80 = .ok (.getfield 311, 3) := by decide +kernel
theorem dX11_layBest_83 : decode cX11_layBest 83 = .ok (.if_icmp .lt 22, 3) := by decide +kernel
theorem dX11_layBest_86 : decode cX11_layBest 86 = .ok (.aload_n 0, 1) := by decide +kernel
theorem dX11_layBest_87 : decode cX11_layBest 87 = .ok (.getfield 302, 3) := by decide +kernel
theorem dX11_layBest_90 : decode cX11_layBest 90 = .ok (.aload_n 0, 1) := by decide +kernel
theorem dX11_layBest_91 : decode cX11_layBest 91 = .ok (.getfield 311, 3) := by decide +kernel
theorem dX11_layBest_94 : decode cX11_layBest 94 = .ok (.if_icmp .ne 52, 3) := by decide +kernel
theorem dX11_layBest_97 : decode cX11_layBest 97 = .ok (.aload_n 0, 1) := by decide +kernel
theorem dX11_layBest_98 : decode cX11_layBest 98 = .ok (.getfield 305, 3) := by decide +kernel
theorem dX11_layBest_101 : decode cX11_layBest 101 = .ok (.iload_n 1, 1) := by decide +kernel
theorem dX11_layBest_102 : decode cX11_layBest 102 = .ok (.if_icmp .ge 44, 3) := by decide +kernel
theorem dX11_layBest_105 : decode cX11_layBest 105 = .ok (.aload_n 0, 1) := by decide +kernel
theorem dX11_layBest_106 : decode cX11_layBest 106 = .ok (.aload_n 0, 1) := by decide +kernel
theorem dX11_layBest_107 : decode cX11_layBest 107 = .ok (.getfield 302, 3) := by decide +kernel
theorem dX11_layBest_110 : decode cX11_layBest 110 = .ok (.putfield 311, 3) := by decide +kernel
theorem dX11_layBest_113 : decode cX11_layBest 113 = .ok (.aload_n 0, 1) := by decide +kernel
theorem dX11_layBest_114 : decode cX11_layBest 114 = .ok (.getfield 305, 3) := by decide +kernel
theorem dX11_layBest_117 : decode cX11_layBest 117 = .ok (.istore_n 1, 1) := by decide +kernel
theorem dX11_layBest_118 : decode cX11_layBest 118 = .ok (.iconst 0, 1) := by decide +kernel
theorem dX11_layBest_119 : decode cX11_layBest 119 = .ok (.istore_n 3, 1) := by decide +kernel
theorem dX11_layBest_120 : decode cX11_layBest 120 = .ok (.iload_n 3, 1) := by decide +kernel
theorem dX11_layBest_121 : decode cX11_layBest 121 = .ok (.aload_n 0, 1) := by decide +kernel
theorem dX11_layBest_122 : decode cX11_layBest 122 = .ok (.getfield 248, 3) := by decide +kernel
theorem dX11_layBest_125 : decode cX11_layBest 125 = .ok (.if_icmp .ge 21, 3) := by decide +kernel
theorem dX11_layBest_128 : decode cX11_layBest 128 = .ok (.aload_n 0, 1) := by decide +kernel
theorem dX11_layBest_129 : decode cX11_layBest 129 = .ok (.getfield 137, 3) := by decide +kernel
theorem dX11_layBest_132 : decode cX11_layBest 132 = .ok (.iload_n 3, 1) := by decide +kernel
theorem dX11_layBest_133 : decode cX11_layBest 133 = .ok (.aload_n 0, 1) := by decide +kernel
theorem dX11_layBest_134 : decode cX11_layBest 134 = .ok (.getfield 131, 3) := by decide +kernel
theorem dX11_layBest_137 : decode cX11_layBest 137 = .ok (.iload_n 3, 1) := by decide +kernel
theorem dX11_layBest_138 : decode cX11_layBest 138 = .ok (.iaload, 1) := by decide +kernel
theorem dX11_layBest_139 : decode cX11_layBest 139 = .ok (.iastore, 1) := by decide +kernel
theorem dX11_layBest_140 : decode cX11_layBest 140 = .ok (.iinc 3 1, 3) := by decide +kernel
theorem dX11_layBest_143 : decode cX11_layBest 143 = .ok (.goto (-23), 3) := by decide +kernel
theorem dX11_layBest_146 : decode cX11_layBest 146 = .ok (.aload_n 0, 1) := by decide +kernel
theorem dX11_layBest_147 : decode cX11_layBest 147 = .ok (.invokevirtual 317, 3) := by decide +kernel
theorem dX11_layBest_150 : decode cX11_layBest 150 = .ok (.istore_n 2, 1) := by decide +kernel
theorem dX11_layBest_151 : decode cX11_layBest 151 = .ok (.goto (-91), 3) := by decide +kernel
theorem dX11_layBest_154 : decode cX11_layBest 154 = .ok (.return_, 1) := by decide +kernel
theorem dX11_worst_0 : decode cX11_worst 0 = .ok (.aload_n 0, 1) := by decide +kernel
theorem dX11_worst_1 : decode cX11_worst 1 = .ok (.invokevirtual 321, 3) := by decide +kernel
theorem dX11_worst_4 : decode cX11_worst 4 = .ok (.istore_n 1, 1) := by decide +kernel
theorem dX11_worst_5 : decode cX11_worst 5 = .ok (.iload_n 1, 1) := by decide +kernel
theorem dX11_worst_6 : decode cX11_worst 6 = .ok (.ifCond .ge 5, 3) := by decide +kernel
theorem dX11_worst_9 : decode cX11_worst 9 = .ok (.iload_n 1, 1) := by decide +kernel
theorem dX11_worst_10 : decode cX11_worst 10 = .ok (.ireturn, 1) := by decide +kernel
theorem dX11_worst_11 : decode cX11_worst 11 = .ok (.aload_n 0, 1) := by decide +kernel
theorem dX11_worst_12 : decode cX11_worst 12 = .ok (.invokevirtual 325, 3) := by decide +kernel
theorem dX11_worst_15 : decode cX11_worst 15 = .ok (.aload_n 0, 1) := by decide +kernel
theorem dX11_worst_16 : decode cX11_worst 16 = .ok (.getfield 311, 3) := by decide +kernel
theorem dX11_worst_19 : decode cX11_worst 19 = .ok (.ireturn, 1) := by decide +kernel
theorem dX11_best_0 : decode cX11_best 0 = .ok (.aload_n 0, 1) := by decide +kernel
theorem dX11_best_1 : decode cX11_best 1 = .ok (.invokevirtual 321, 3) := by decide +kernel
theorem dX11_best_4 : decode cX11_best 4 = .ok (.istore_n 2, 1) := by decide +kernel
theorem dX11_best_5 : decode cX11_best 5 = .ok (.iload_n 2, 1) := by decide +kernel
theorem dX11_best_6 : decode cX11_best 6 = .ok (.ifCond .ge 5, 3) := by decide +kernel
theorem dX11_best_9 : decode cX11_best 9 = .ok (.iload_n 2, 1) := by decide +kernel
theorem dX11_best_10 : decode cX11_best 10 = .ok (.ireturn, 1) := by decide +kernel
theorem dX11_best_11 : decode cX11_best 11 = .ok (.aload_n 0, 1) := by decide +kernel
theorem dX11_best_12 : decode cX11_best 12 = .ok (.invokevirtual 325, 3) := by decide +kernel
theorem dX11_best_15 : decode cX11_best 15 = .ok (.iload_n 1, 1) := by decide +kernel
theorem dX11_best_16 : decode cX11_best 16 = .ok (.iconst 0, 1) := by decide +kernel
theorem dX11_best_17 : decode cX11_best 17 = .ok (.aload_n 0, 1) := by decide +kernel
theorem dX11_best_18 : decode cX11_best 18 = .ok (.getfield 248, 3) := by decide +kernel
theorem dX11_best_21 : decode cX11_best 21 = .ok (.iconst 1, 1) := by decide +kernel
theorem dX11_best_22 : decode cX11_best 22 = .ok (.isub, 1) := by decide +kernel
theorem dX11_best_23 : decode cX11_best 23 = .ok (.invokestatic 147, 3) := by decide +kernel
theorem dX11_best_26 : decode cX11_best 26 = .ok (.ifCond .eq 12, 3) := by decide +kernel
theorem dX11_best_29 : decode cX11_best 29 = .ok (.aload_n 0, 1) := by decide +kernel
theorem dX11_best_30 : decode cX11_best 30 = .ok (.getfield 137, 3) := by decide +kernel
theorem dX11_best_33 : decode cX11_best 33 = .ok (.iload_n 1, 1) := by decide +kernel
theorem dX11_best_34 : decode cX11_best 34 = .ok (.iaload, 1) := by decide +kernel
theorem dX11_best_35 : decode cX11_best 35 = .ok (.goto 5, 3) := by decide +kernel
theorem dX11_best_38 : decode cX11_best 38 = .ok (.bipush (-9), 2) := by decide +kernel
theorem dX11_best_40 : decode cX11_best 40 = .ok (.ireturn, 1) := by decide +kernel
theorem dX11_worstBy_0 : decode cX11_worstBy 0 = .ok (.iload_n 1, 1) := by decide +kernel
theorem dX11_worstBy_1 : decode cX11_worstBy 1 = .ok (.iconst 0, 1) := by decide +kernel
theorem dX11_worstBy_2 : decode cX11_worstBy 2 = .ok (.iconst 2, 1) := by decide +kernel
theorem dX11_worstBy_3 : decode cX11_worstBy 3 = .ok (.invokestatic 147, 3) := by decide +kernel
theorem dX11_worstBy_6 : decode cX11_worstBy 6 = .ok (.ifCond .ne 6, 3) := by decide +kernel
theorem dX11_worstBy_9 : decode cX11_worstBy 9 = .ok (.bipush (-2), 2) := by decide +kernel
theorem dX11_worstBy_11 : decode cX11_worstBy 11 = .ok (.ireturn, 1) := by decide +kernel
theorem dX11_worstBy_12 : decode cX11_worstBy 12 = .ok (.aload_n 0, 1) := by decide +kernel
theorem dX11_worstBy_13 : decode cX11_worstBy 13 = .ok (.invokevirtual 321, 3) := by decide +kernel
theorem dX11_worstBy_16 : decode cX11_worstBy 16 = .ok (.istore_n 2, 1) := by decide +kernel
theorem dX11_worstBy_17 : decode cX11_worstBy 17 = .ok (.iload_n 2, 1) := by decide +kernel
theorem dX11_worstBy_18 : decode cX11_worstBy 18 = .ok (.ifCond .ge 5, 3) := by decide +kernel
theorem dX11_worstBy_21 : decode cX11_worstBy 21 = .ok (.iload_n 2, 1) := by decide +kernel
theorem dX11_worstBy_22 : decode cX11_worstBy 22 = .ok (.ireturn, 1) := by decide +kernel
theorem dX11_worstBy_23 : decode cX11_worstBy 23 = .ok (.aload_n 0, 1) := by decide +kernel
theorem dX11_worstBy_24 : decode cX11_worstBy 24 = .ok (.iload_n 1, 1) := by decide +kernel
theorem dX11_worstBy_25 : decode cX11_worstBy 25 = .ok (.invokevirtual 254, 3) := by decide +kernel
theorem dX11_worstBy_28 : decode cX11_worstBy 28 = .ok (.aload_n 0, 1) := by decide +kernel
theorem dX11_worstBy_29 : decode cX11_worstBy 29 = .ok (.invokevirtual 314, 3) := by decide +kernel
theorem dX11_worstBy_32 : decode cX11_worstBy 32 = .ok (.aload_n 0, 1) := by decide +kernel
theorem dX11_worstBy_33 : decode cX11_worstBy 33 = .ok (.getfield 302, 3) := by decide +kernel
theorem dX11_worstBy_36 : decode cX11_worstBy 36 = .ok (.ireturn, 1) := by decide +kernel
theorem dX11_rush_0 : decode cX11_rush 0 = .ok (.aload_n 0, 1) := by decide +kernel
theorem dX11_rush_1 : decode cX11_rush 1 = .ok (.iload_n 1, 1) := by decide +kernel
theorem dX11_rush_2 : decode cX11_rush 2 = .ok (.invokevirtual 151, 3) := by decide +kernel
theorem dX11_rush_5 : decode cX11_rush 5 = .ok (.ifCond .ne 5, 3) := by decide +kernel
theorem dX11_rush_8 : decode cX11_rush 8 = .ok (.iconst (-1), 1) := by decide +kernel
theorem dX11_rush_9 : decode cX11_rush 9 = .ok (.ireturn, 1) := by decide +kernel
theorem dX11_rush_10 : decode cX11_rush 10 = .ok (.aload_n 0, 1) := by decide +kernel
theorem dX11_rush_11 : decode cX11_rush 11 = .ok (.getfield 13, 3) := by decide +kernel
theorem dX11_rush_14 : decode cX11_rush 14 = .ok (.iload_n 1, 1) := by decide +kernel
theorem dX11_rush_15 : decode cX11_rush 15 = .ok (.iaload, 1) := by decide +kernel
theorem dX11_rush_16 : decode cX11_rush 16 = .ok (.iconst 2, 1) := by decide +kernel
theorem dX11_rush_17 : decode cX11_rush 17 = .ok (.if_icmp .eq 6, 3) := by decide +kernel
theorem dX11_rush_20 : decode cX11_rush 20 = .ok (.bipush (-3), 2) := by decide +kernel
theorem dX11_rush_22 : decode cX11_rush 22 = .ok (.ireturn, 1) := by decide +kernel
theorem dX11_rush_23 : decode cX11_rush 23 = .ok (.iload_n 2, 1) := by decide +kernel
theorem dX11_rush_24 : decode cX11_rush 24 = .ok (.iconst 0, 1) := by decide +kernel
theorem dX11_rush_25 : decode cX11_rush 25 = .ok (.iconst 5, 1) := by decide +kernel
theorem dX11_rush_26 : decode cX11_rush 26 = .ok (.invokestatic 147, 3) := by decide +kernel
theorem dX11_rush_29 : decode cX11_rush 29 = .ok (.ifCond .eq 14, 3) := by decide +kernel
theorem dX11_rush_32 : decode cX11_rush 32 = .ok (.iload_n 3, 1) := by decide +kernel
theorem dX11_rush_33 : decode cX11_rush 33 = .ok (.iconst 0, 1) := by decide +kernel
theorem dX11_rush_34 : decode cX11_rush 34 = .ok (.sipush 300, 3) := by decide +kernel
theorem dX11_rush_37 : decode cX11_rush 37 = .ok (.invokestatic 147, 3) := by decide +kernel
theorem dX11_rush_40 : decode cX11_rush 40 = .ok (.ifCond .ne 6, 3) := by decide +kernel
theorem dX11_rush_43 : decode cX11_rush 43 = .ok (.bipush (-2), 2) := by decide +kernel
theorem dX11_rush_45 : decode cX11_rush 45 = .ok (.ireturn, 1) := by decide +kernel
theorem dX11_rush_46 : decode cX11_rush 46 = .ok (.aload_n 0, 1) := by decide +kernel
theorem dX11_rush_47 : decode cX11_rush 47 = .ok (.getfield 140, 3) := by decide +kernel
theorem dX11_rush_50 : decode cX11_rush 50 = .ok (.bipush 6, 2) := by decide +kernel
theorem dX11_rush_52 : decode cX11_rush 52 = .ok (.iload_n 1, 1) := by decide +kernel
theorem dX11_rush_53 : decode cX11_rush 53 = .ok (.imul, 1) := by decide +kernel
theorem dX11_rush_54 : decode cX11_rush 54 = .ok (.iload_n 2, 1) := by decide +kernel
theorem dX11_rush_55 : decode cX11_rush 55 = .ok (.iadd, 1) := by decide +kernel
theorem dX11_rush_56 : decode cX11_rush 56 = .ok (.iaload, 1) := by decide +kernel
theorem dX11_rush_57 : decode cX11_rush 57 = .ok (.istore 4, 2) := by decide +kernel
theorem dX11_rush_59 : decode cX11_rush 59 = .ok (.aload_n 0, 1) := by decide +kernel
theorem dX11_rush_60 : decode cX11_rush 60 = .ok (.getfield 140, 3) := by decide +kernel
theorem dX11_rush_63 : decode cX11_rush 63 = .ok (.bipush 6, 2) := by decide +kernel
theorem dX11_rush_65 : decode cX11_rush 65 = .ok (.iload_n 1, 1) := by decide +kernel
theorem dX11_rush_66 : decode cX11_rush 66 = .ok (.imul, 1) := by decide +kernel
theorem dX11_rush_67 : decode cX11_rush 67 = .ok (.iload_n 2, 1) := by decide +kernel
theorem dX11_rush_68 : decode cX11_rush 68 = .ok (.iadd, 1) := by decide +kernel
theorem dX11_rush_69 : decode cX11_rush 69 = .ok (.iload_n 3, 1) := by decide +kernel
theorem dX11_rush_70 : decode cX11_rush 70 = .ok (.iastore, 1) := by decide +kernel
theorem dX11_rush_71 : decode cX11_rush 71 = .ok (.iload 4, 2) := by decide +kernel
theorem dX11_rush_73 : decode cX11_rush 73 = .ok (.ireturn, 1) := by decide +kernel
theorem dX11_loadOf_0 : decode cX11_loadOf 0 = .ok (.iconst 0, 1) := by decide +kernel
theorem dX11_loadOf_1 : decode cX11_loadOf 1 = .ok (.istore_n 3, 1) := by decide +kernel
theorem dX11_loadOf_2 : decode cX11_loadOf 2 = .ok (.iconst 1, 1) := by decide +kernel
theorem dX11_loadOf_3 : decode cX11_loadOf 3 = .ok (.istore 4, 2) := by decide +kernel
theorem dX11_loadOf_5 : decode cX11_loadOf 5 = .ok (.iload 4, 2) := by decide +kernel
theorem dX11_loadOf_7 : decode cX11_loadOf 7 = .ok (.aload_n 0, 1) := by decide +kernel
theorem dX11_loadOf_8 : decode cX11_loadOf 8 = .ok (.getfield 143, 3) := by decide +kernel
theorem dX11_loadOf_11 : decode cX11_loadOf 11 = .ok (.if_icmp .ge 38, 3) := by decide +kernel
theorem dX11_loadOf_14 : decode cX11_loadOf 14 = .ok (.iload_n 3, 1) := by decide +kernel
theorem dX11_loadOf_15 : decode cX11_loadOf 15 = .ok (.aload_n 0, 1) := by decide +kernel
theorem dX11_loadOf_16 : decode cX11_loadOf 16 = .ok (.iload 4, 2) := by decide +kernel
theorem dX11_loadOf_18 : decode cX11_loadOf 18 = .ok (.iload_n 1, 1) := by decide +kernel
theorem dX11_loadOf_19 : decode cX11_loadOf 19 = .ok (.invokevirtual 187, 3) := by decide +kernel
theorem dX11_loadOf_22 : decode cX11_loadOf 22 = .ok (.ifCond .eq 18, 3) := by decide +kernel
theorem dX11_loadOf_25 : decode cX11_loadOf 25 = .ok (.aload_n 0, 1) := by decide +kernel
theorem dX11_loadOf_26 : decode cX11_loadOf 26 = .ok (.getfield 140, 3) := by decide +kernel
theorem dX11_loadOf_29 : decode cX11_loadOf 29 = .ok (.bipush 6, 2) := by decide +kernel
theorem dX11_loadOf_31 : decode cX11_loadOf 31 = .ok (.iload 4, 2) := by decide +kernel
theorem dX11_loadOf_33 : decode cX11_loadOf 33 = .ok (.imul, 1) := by decide +kernel
theorem dX11_loadOf_34 : decode cX11_loadOf 34 = .ok (.iload_n 2, 1) := by decide +kernel
theorem dX11_loadOf_35 : decode cX11_loadOf 35 = .ok (.iadd, 1) := by decide +kernel
theorem dX11_loadOf_36 : decode cX11_loadOf 36 = .ok (.iaload, 1) := by decide +kernel
theorem dX11_loadOf_37 : decode cX11_loadOf 37 = .ok (.goto 4, 3) := by decide +kernel
theorem dX11_loadOf_40 : decode cX11_loadOf 40 = .ok (.iconst 0, 1) := by decide +kernel
theorem dX11_loadOf_41 : decode cX11_loadOf 41 = .ok (.iadd, 1) := by decide +kernel
theorem dX11_loadOf_42 : decode cX11_loadOf 42 = .ok (.istore_n 3, 1) := by decide +kernel
theorem dX11_loadOf_43 : decode cX11_loadOf 43 = .ok (.iinc 4 1, 3) := by decide +kernel
theorem dX11_loadOf_46 : decode cX11_loadOf 46 = .ok (.goto (-41), 3) := by decide +kernel
theorem dX11_loadOf_49 : decode cX11_loadOf 49 = .ok (.iload_n 3, 1) := by decide +kernel
theorem dX11_loadOf_50 : decode cX11_loadOf 50 = .ok (.ireturn, 1) := by decide +kernel
theorem dX11_load_0 : decode cX11_load 0 = .ok (.aload_n 0, 1) := by decide +kernel
theorem dX11_load_1 : decode cX11_load 1 = .ok (.iload_n 1, 1) := by decide +kernel
theorem dX11_load_2 : decode cX11_load 2 = .ok (.invokevirtual 155, 3) := by decide +kernel
theorem dX11_load_5 : decode cX11_load 5 = .ok (.ifCond .ne 5, 3) := by decide +kernel
theorem dX11_load_8 : decode cX11_load 8 = .ok (.iconst (-1), 1) := by decide +kernel
theorem dX11_load_9 : decode cX11_load 9 = .ok (.ireturn, 1) := by decide +kernel
theorem dX11_load_10 : decode cX11_load 10 = .ok (.iload_n 2, 1) := by decide +kernel
theorem dX11_load_11 : decode cX11_load 11 = .ok (.iconst 0, 1) := by decide +kernel
theorem dX11_load_12 : decode cX11_load 12 = .ok (.iconst 5, 1) := by decide +kernel
theorem dX11_load_13 : decode cX11_load 13 = .ok (.invokestatic 147, 3) := by decide +kernel
theorem dX11_load_16 : decode cX11_load 16 = .ok (.ifCond .eq 12, 3) := by decide +kernel
theorem dX11_load_19 : decode cX11_load 19 = .ok (.aload_n 0, 1) := by decide +kernel
theorem dX11_load_20 : decode cX11_load 20 = .ok (.iload_n 1, 1) := by decide +kernel
theorem dX11_load_21 : decode cX11_load 21 = .ok (.iload_n 2, 1) := by decide +kernel
theorem dX11_load_22 : decode cX11_load 22 = .ok (.invokevirtual 328, 3) := by decide +kernel
theorem dX11_load_25 : decode cX11_load 25 = .ok (.goto 5, 3) := by decide +kernel
theorem dX11_load_28 : decode cX11_load 28 = .ok (.bipush (-2), 2) := by decide +kernel
theorem dX11_load_30 : decode cX11_load 30 = .ok (.ireturn, 1) := by decide +kernel
theorem dX11_linesOf_0 : decode cX11_linesOf 0 = .ok (.iconst 0, 1) := by decide +kernel
theorem dX11_linesOf_1 : decode cX11_linesOf 1 = .ok (.istore_n 2, 1) := by decide +kernel
theorem dX11_linesOf_2 : decode cX11_linesOf 2 = .ok (.iconst 0, 1) := by decide +kernel
theorem dX11_linesOf_3 : decode cX11_linesOf 3 = .ok (.istore_n 3, 1) := by decide +kernel
theorem dX11_linesOf_4 : decode cX11_linesOf 4 = .ok (.iload_n 3, 1) := by decide +kernel
theorem dX11_linesOf_5 : decode cX11_linesOf 5 = .ok (.bipush 6, 2) := by decide +kernel
theorem dX11_linesOf_7 : decode cX11_linesOf 7 = .ok (.if_icmp .ge 30, 3) := by decide +kernel
theorem dX11_linesOf_10 : decode cX11_linesOf 10 = .ok (.aload_n 0, 1) := by decide +kernel
theorem dX11_linesOf_11 : decode cX11_linesOf 11 = .ok (.iload_n 1, 1) := by decide +kernel
theorem dX11_linesOf_12 : decode cX11_linesOf 12 = .ok (.iload_n 3, 1) := by decide +kernel
theorem dX11_linesOf_13 : decode cX11_linesOf 13 = .ok (.invokevirtual 328, 3) := by decide +kernel
theorem dX11_linesOf_16 : decode cX11_linesOf 16 = .ok (.istore 4, 2) := by decide +kernel
theorem dX11_linesOf_18 : decode cX11_linesOf 18 = .ok (.iload 4, 2) := by decide +kernel
theorem dX11_linesOf_20 : decode cX11_linesOf 20 = .ok (.iload_n 2, 1) := by decide +kernel
theorem dX11_linesOf_21 : decode cX11_linesOf 21 = .ok (.if_icmp .le 8, 3) := by decide +kernel
theorem dX11_linesOf_24 : decode cX11_linesOf 24 = .ok (.iload 4, 2) := by decide +kernel
theorem dX11_linesOf_26 : decode cX11_linesOf 26 = .ok (.goto 4, 3) := by decide +kernel
theorem dX11_linesOf_29 : decode cX11_linesOf 29 = .ok (.iload_n 2, 1) := by decide +kernel
theorem dX11_linesOf_30 : decode cX11_linesOf 30 = .ok (.istore_n 2, 1) := by decide +kernel
theorem dX11_linesOf_31 : decode cX11_linesOf 31 = .ok (.iinc 3 1, 3) := by decide +kernel
theorem dX11_linesOf_34 : decode cX11_linesOf 34 = .ok (.goto (-30), 3) := by decide +kernel
theorem dX11_linesOf_37 : decode cX11_linesOf 37 = .ok (.iconst 2, 1) := by decide +kernel
theorem dX11_linesOf_38 : decode cX11_linesOf 38 = .ok (.iload_n 2, 1) := by decide +kernel
theorem dX11_linesOf_39 : decode cX11_linesOf 39 = .ok (.imul, 1) := by decide +kernel
theorem dX11_linesOf_40 : decode cX11_linesOf 40 = .ok (.aload_n 0, 1) := by decide +kernel
theorem dX11_linesOf_41 : decode cX11_linesOf 41 = .ok (.getfield 16, 3) := by decide +kernel
theorem dX11_linesOf_44 : decode cX11_linesOf 44 = .ok (.iload_n 1, 1) := by decide +kernel
theorem dX11_linesOf_45 : decode cX11_linesOf 45 = .ok (.iaload, 1) := by decide +kernel
theorem dX11_linesOf_46 : decode cX11_linesOf 46 = .ok (.imul, 1) := by decide +kernel
theorem dX11_linesOf_47 : decode cX11_linesOf 47 = .ok (.sipush 720, 3) := by decide +kernel
theorem dX11_linesOf_50 : decode cX11_linesOf 50 = .ok (.if_icmp .gt 7, 3) := by decide +kernel
theorem dX11_linesOf_53 : decode cX11_linesOf 53 = .ok (.iconst 1, 1) := by decide +kernel
theorem dX11_linesOf_54 : decode cX11_linesOf 54 = .ok (.goto 23, 3) := by decide +kernel
theorem dX11_linesOf_57 : decode cX11_linesOf 57 = .ok (.iconst 2, 1) := by decide +kernel
theorem dX11_linesOf_58 : decode cX11_linesOf 58 = .ok (.iload_n 2, 1) := by decide +kernel
theorem dX11_linesOf_59 : decode cX11_linesOf 59 = .ok (.aload_n 0, 1) := by decide +kernel
theorem dX11_linesOf_60 : decode cX11_linesOf 60 = .ok (.getfield 19, 3) := by decide +kernel
theorem dX11_linesOf_63 : decode cX11_linesOf 63 = .ok (.iload_n 1, 1) := by decide +kernel
theorem dX11_linesOf_64 : decode cX11_linesOf 64 = .ok (.iaload, 1) := by decide +kernel
theorem dX11_linesOf_65 : decode cX11_linesOf 65 = .ok (.imul, 1) := by decide +kernel
theorem dX11_linesOf_66 : decode cX11_linesOf 66 = .ok (.sipush 720, 3) := by decide +kernel
theorem dX11_linesOf_69 : decode cX11_linesOf 69 = .ok (.iadd, 1) := by decide +kernel
theorem dX11_linesOf_70 : decode cX11_linesOf 70 = .ok (.iconst 1, 1) := by decide +kernel
theorem dX11_linesOf_71 : decode cX11_linesOf 71 = .ok (.isub, 1) := by decide +kernel
theorem dX11_linesOf_72 : decode cX11_linesOf 72 = .ok (.sipush 720, 3) := by decide +kernel
theorem dX11_linesOf_75 : decode cX11_linesOf 75 = .ok (.idiv, 1) := by decide +kernel
theorem dX11_linesOf_76 : decode cX11_linesOf 76 = .ok (.imul, 1) := by decide +kernel
theorem dX11_linesOf_77 : decode cX11_linesOf 77 = .ok (.ireturn, 1) := by decide +kernel
theorem dX11_lines_0 : decode cX11_lines 0 = .ok (.aload_n 0, 1) := by decide +kernel
theorem dX11_lines_1 : decode cX11_lines 1 = .ok (.iload_n 1, 1) := by decide +kernel
theorem dX11_lines_2 : decode cX11_lines 2 = .ok (.invokevirtual 155, 3) := by decide +kernel
theorem dX11_lines_5 : decode cX11_lines 5 = .ok (.ifCond .eq 11, 3) := by decide +kernel
theorem dX11_lines_8 : decode cX11_lines 8 = .ok (.aload_n 0, 1) := by decide +kernel
theorem dX11_lines_9 : decode cX11_lines 9 = .ok (.iload_n 1, 1) := by decide +kernel
theorem dX11_lines_10 : decode cX11_lines 10 = .ok (.invokevirtual 331, 3) := by decide +kernel
theorem dX11_lines_13 : decode cX11_lines 13 = .ok (.goto 4, 3) := by decide +kernel
theorem dX11_lines_16 : decode cX11_lines 16 = .ok (.iconst (-1), 1) := by decide +kernel
theorem dX11_lines_17 : decode cX11_lines 17 = .ok (.ireturn, 1) := by decide +kernel
theorem dX11_wanted_0 : decode cX11_wanted 0 = .ok (.iconst 0, 1) := by decide +kernel
theorem dX11_wanted_1 : decode cX11_wanted 1 = .ok (.istore_n 1, 1) := by decide +kernel
theorem dX11_wanted_2 : decode cX11_wanted 2 = .ok (.iconst 1, 1) := by decide +kernel
theorem dX11_wanted_3 : decode cX11_wanted 3 = .ok (.istore_n 2, 1) := by decide +kernel
theorem dX11_wanted_4 : decode cX11_wanted 4 = .ok (.iload_n 2, 1) := by decide +kernel
theorem dX11_wanted_5 : decode cX11_wanted 5 = .ok (.aload_n 0, 1) := by decide +kernel
theorem dX11_wanted_6 : decode cX11_wanted 6 = .ok (.getfield 143, 3) := by decide +kernel
theorem dX11_wanted_9 : decode cX11_wanted 9 = .ok (.if_icmp .ge 24, 3) := by decide +kernel
theorem dX11_wanted_12 : decode cX11_wanted 12 = .ok (.iload_n 1, 1) := by decide +kernel
theorem dX11_wanted_13 : decode cX11_wanted 13 = .ok (.aload_n 0, 1) := by decide +kernel
theorem dX11_wanted_14 : decode cX11_wanted 14 = .ok (.getfield 16, 3) := by decide +kernel
theorem dX11_wanted_17 : decode cX11_wanted 17 = .ok (.iload_n 2, 1) := by decide +kernel
theorem dX11_wanted_18 : decode cX11_wanted 18 = .ok (.iaload, 1) := by decide +kernel
theorem dX11_wanted_19 : decode cX11_wanted 19 = .ok (.aload_n 0, 1) := by decide +kernel
theorem dX11_wanted_20 : decode cX11_wanted 20 = .ok (.iload_n 2, 1) := by decide +kernel
theorem dX11_wanted_21 : decode cX11_wanted 21 = .ok (.invokevirtual 331, 3) := by decide +kernel
theorem dX11_wanted_24 : decode cX11_wanted 24 = .ok (.imul, 1) := by decide +kernel
theorem dX11_wanted_25 : decode cX11_wanted 25 = .ok (.iadd, 1) := by decide +kernel
theorem dX11_wanted_26 : decode cX11_wanted 26 = .ok (.istore_n 1, 1) := by decide +kernel
theorem dX11_wanted_27 : decode cX11_wanted 27 = .ok (.iinc 2 1, 3) := by decide +kernel
theorem dX11_wanted_30 : decode cX11_wanted 30 = .ok (.goto (-26), 3) := by decide +kernel
theorem dX11_wanted_33 : decode cX11_wanted 33 = .ok (.iload_n 1, 1) := by decide +kernel
theorem dX11_wanted_34 : decode cX11_wanted 34 = .ok (.ireturn, 1) := by decide +kernel
theorem dX11_vital_0 : decode cX11_vital 0 = .ok (.iload_n 1, 1) := by decide +kernel
theorem dX11_vital_1 : decode cX11_vital 1 = .ok (.iconst 0, 1) := by decide +kernel
theorem dX11_vital_2 : decode cX11_vital 2 = .ok (.iconst 5, 1) := by decide +kernel
theorem dX11_vital_3 : decode cX11_vital 3 = .ok (.invokestatic 147, 3) := by decide +kernel
theorem dX11_vital_6 : decode cX11_vital 6 = .ok (.ifCond .ne 6, 3) := by decide +kernel
theorem dX11_vital_9 : decode cX11_vital 9 = .ok (.bipush (-2), 2) := by decide +kernel
theorem dX11_vital_11 : decode cX11_vital 11 = .ok (.ireturn, 1) := by decide +kernel
theorem dX11_vital_12 : decode cX11_vital 12 = .ok (.bipush (-9), 2) := by decide +kernel
theorem dX11_vital_14 : decode cX11_vital 14 = .ok (.istore_n 2, 1) := by decide +kernel
theorem dX11_vital_15 : decode cX11_vital 15 = .ok (.iconst 0, 1) := by decide +kernel
theorem dX11_vital_16 : decode cX11_vital 16 = .ok (.istore_n 3, 1) := by decide +kernel
theorem dX11_vital_17 : decode cX11_vital 17 = .ok (.iconst 1, 1) := by decide +kernel
theorem dX11_vital_18 : decode cX11_vital 18 = .ok (.istore 4, 2) := by decide +kernel
theorem dX11_vital_20 : decode cX11_vital 20 = .ok (.iload 4, 2) := by decide +kernel
theorem dX11_vital_22 : decode cX11_vital 22 = .ok (.aload_n 0, 1) := by decide +kernel
theorem dX11_vital_23 : decode cX11_vital 23 = .ok (.getfield 143, 3) := by decide +kernel
theorem dX11_vital_26 : decode cX11_vital 26 = .ok (.if_icmp .ge 54, 3) := by decide +kernel
theorem dX11_vital_29 : decode cX11_vital 29 = .ok (.iconst 4, 1) := by decide +kernel
theorem dX11_vital_30 : decode cX11_vital 30 = .ok (.aload_n 0, 1) := by decide +kernel
theorem dX11_vital_31 : decode cX11_vital 31 = .ok (.iload 4, 2) := by decide +kernel
theorem dX11_vital_33 : decode cX11_vital 33 = .ok (.iload_n 1, 1) := by decide +kernel
theorem dX11_vital_34 : decode cX11_vital 34 = .ok (.invokevirtual 328, 3) := by decide +kernel
theorem dX11_vital_37 : decode cX11_vital 37 = .ok (.imul, 1) := by decide +kernel
theorem dX11_vital_38 : decode cX11_vital 38 = .ok (.aload_n 0, 1) := by decide +kernel
theorem dX11_vital_39 : decode cX11_vital 39 = .ok (.getfield 16, 3) := by decide +kernel
theorem dX11_vital_42 : decode cX11_vital 42 = .ok (.iload 4, 2) := by decide +kernel
theorem dX11_vital_44 : decode cX11_vital 44 = .ok (.iaload, 1) := by decide +kernel
theorem dX11_vital_45 : decode cX11_vital 45 = .ok (.imul, 1) := by decide +kernel
theorem dX11_vital_46 : decode cX11_vital 46 = .ok (.istore 5, 2) := by decide +kernel
theorem dX11_vital_48 : decode cX11_vital 48 = .ok (.iload 5, 2) := by decide +kernel
theorem dX11_vital_50 : decode cX11_vital 50 = .ok (.iload_n 3, 1) := by decide +kernel
theorem dX11_vital_51 : decode cX11_vital 51 = .ok (.if_icmp .le 8, 3) := by decide +kernel
theorem dX11_vital_54 : decode cX11_vital 54 = .ok (.iload 4, 2) := by decide +kernel
theorem dX11_vital_56 : decode cX11_vital 56 = .ok (.goto 4, 3) := by decide +kernel
theorem dX11_vital_59 : decode cX11_vital 59 = .ok (.iload_n 2, 1) := by decide +kernel
theorem dX11_vital_60 : decode cX11_vital 60 = .ok (.istore_n 2, 1) := by decide +kernel
theorem dX11_vital_61 : decode cX11_vital 61 = .ok (.iload 5, 2) := by decide +kernel
theorem dX11_vital_63 : decode cX11_vital 63 = .ok (.iload_n 3, 1) := by decide +kernel
theorem dX11_vital_64 : decode cX11_vital 64 = .ok (.if_icmp .le 8, 3) := by decide +kernel
theorem dX11_vital_67 : decode cX11_vital 67 = .ok (.iload 5, 2) := by decide +kernel
theorem dX11_vital_69 : decode cX11_vital 69 = .ok (.goto 4, 3) := by decide +kernel
theorem dX11_vital_72 : decode cX11_vital 72 = .ok (.iload_n 3, 1) := by decide +kernel
theorem dX11_vital_73 : decode cX11_vital 73 = .ok (.istore_n 3, 1) := by decide +kernel
theorem dX11_vital_74 : decode cX11_vital 74 = .ok (.iinc 4 1, 3) := by decide +kernel
theorem dX11_vital_77 : decode cX11_vital 77 = .ok (.goto (-57), 3) := by decide +kernel
theorem dX11_vital_80 : decode cX11_vital 80 = .ok (.iload_n 2, 1) := by decide +kernel
theorem dX11_vital_81 : decode cX11_vital 81 = .ok (.ireturn, 1) := by decide +kernel
theorem dX11_loss_0 : decode cX11_loss 0 = .ok (.aload_n 0, 1) := by decide +kernel
theorem dX11_loss_1 : decode cX11_loss 1 = .ok (.iload_n 1, 1) := by decide +kernel
theorem dX11_loss_2 : decode cX11_loss 2 = .ok (.invokevirtual 155, 3) := by decide +kernel
theorem dX11_loss_5 : decode cX11_loss 5 = .ok (.ifCond .ne 5, 3) := by decide +kernel
theorem dX11_loss_8 : decode cX11_loss 8 = .ok (.iconst (-1), 1) := by decide +kernel
theorem dX11_loss_9 : decode cX11_loss 9 = .ok (.ireturn, 1) := by decide +kernel
theorem dX11_loss_10 : decode cX11_loss 10 = .ok (.iload_n 2, 1) := by decide +kernel
theorem dX11_loss_11 : decode cX11_loss 11 = .ok (.iconst 0, 1) := by decide +kernel
theorem dX11_loss_12 : decode cX11_loss 12 = .ok (.iconst 5, 1) := by decide +kernel
theorem dX11_loss_13 : decode cX11_loss 13 = .ok (.invokestatic 147, 3) := by decide +kernel
theorem dX11_loss_16 : decode cX11_loss 16 = .ok (.ifCond .eq 21, 3) := by decide +kernel
theorem dX11_loss_19 : decode cX11_loss 19 = .ok (.iconst 4, 1) := by decide +kernel
theorem dX11_loss_20 : decode cX11_loss 20 = .ok (.aload_n 0, 1) := by decide +kernel
theorem dX11_loss_21 : decode cX11_loss 21 = .ok (.iload_n 1, 1) := by decide +kernel
theorem dX11_loss_22 : decode cX11_loss 22 = .ok (.iload_n 2, 1) := by decide +kernel
theorem dX11_loss_23 : decode cX11_loss 23 = .ok (.invokevirtual 328, 3) := by decide +kernel
theorem dX11_loss_26 : decode cX11_loss 26 = .ok (.imul, 1) := by decide +kernel
theorem dX11_loss_27 : decode cX11_loss 27 = .ok (.aload_n 0, 1) := by decide +kernel
theorem dX11_loss_28 : decode cX11_loss 28 = .ok (.getfield 16, 3) := by decide +kernel
theorem dX11_loss_31 : decode cX11_loss 31 = .ok (.iload_n 1, 1) := by decide +kernel
theorem dX11_loss_32 : decode cX11_loss 32 = .ok (.iaload, 1) := by decide +kernel
theorem dX11_loss_33 : decode cX11_loss 33 = .ok (.imul, 1) := by decide +kernel
theorem dX11_loss_34 : decode cX11_loss 34 = .ok (.goto 5, 3) := by decide +kernel
theorem dX11_loss_37 : decode cX11_loss 37 = .ok (.bipush (-2), 2) := by decide +kernel
theorem dX11_loss_39 : decode cX11_loss 39 = .ok (.ireturn, 1) := by decide +kernel
theorem dX11_bells_0 : decode cX11_bells 0 = .ok (.aload_n 0, 1) := by decide +kernel
theorem dX11_bells_1 : decode cX11_bells 1 = .ok (.getfield 214, 3) := by decide +kernel
theorem dX11_bells_4 : decode cX11_bells 4 = .ok (.ireturn, 1) := by decide +kernel
theorem dX11_bell_0 : decode cX11_bell 0 = .ok (.iload_n 1, 1) := by decide +kernel
theorem dX11_bell_1 : decode cX11_bell 1 = .ok (.iconst 0, 1) := by decide +kernel
theorem dX11_bell_2 : decode cX11_bell 2 = .ok (.aload_n 0, 1) := by decide +kernel
theorem dX11_bell_3 : decode cX11_bell 3 = .ok (.getfield 214, 3) := by decide +kernel
theorem dX11_bell_6 : decode cX11_bell 6 = .ok (.iconst 1, 1) := by decide +kernel
theorem dX11_bell_7 : decode cX11_bell 7 = .ok (.isub, 1) := by decide +kernel
theorem dX11_bell_8 : decode cX11_bell 8 = .ok (.invokestatic 147, 3) := by decide +kernel
theorem dX11_bell_11 : decode cX11_bell 11 = .ok (.ifCond .ne 6, 3) := by decide +kernel
theorem dX11_bell_14 : decode cX11_bell 14 = .ok (.bipush (-9), 2) := by decide +kernel
theorem dX11_bell_16 : decode cX11_bell 16 = .ok (.ireturn, 1) := by decide +kernel
theorem dX11_bell_17 : decode cX11_bell 17 = .ok (.aload_n 0, 1) := by decide +kernel
theorem dX11_bell_18 : decode cX11_bell 18 = .ok (.getfield 217, 3) := by decide +kernel
theorem dX11_bell_21 : decode cX11_bell 21 = .ok (.iload_n 1, 1) := by decide +kernel
theorem dX11_bell_22 : decode cX11_bell 22 = .ok (.iadd, 1) := by decide +kernel
theorem dX11_bell_23 : decode cX11_bell 23 = .ok (.sipush 300, 3) := by decide +kernel
theorem dX11_bell_26 : decode cX11_bell 26 = .ok (.irem, 1) := by decide +kernel
theorem dX11_bell_27 : decode cX11_bell 27 = .ok (.istore_n 3, 1) := by decide +kernel
theorem dX11_bell_28 : decode cX11_bell 28 = .ok (.iload_n 2, 1) := by decide +kernel
theorem dX11_bell_29 : decode cX11_bell 29 = .ok (.ifCond .eq 12, 3) := by decide +kernel
theorem dX11_bell_32 : decode cX11_bell 32 = .ok (.aload_n 0, 1) := by decide +kernel
theorem dX11_bell_33 : decode cX11_bell 33 = .ok (.getfield 128, 3) := by decide +kernel
theorem dX11_bell_36 : decode cX11_bell 36 = .ok (.iload_n 3, 1) := by decide +kernel
theorem dX11_bell_37 : decode cX11_bell 37 = .ok (.iaload, 1) := by decide +kernel
theorem dX11_bell_38 : decode cX11_bell 38 = .ok (.goto 9, 3) := by decide +kernel
theorem dX11_bell_41 : decode cX11_bell 41 = .ok (.aload_n 0, 1) := by decide +kernel
theorem dX11_bell_42 : decode cX11_bell 42 = .ok (.getfield 125, 3) := by decide +kernel
theorem dX11_bell_45 : decode cX11_bell 45 = .ok (.iload_n 3, 1) := by decide +kernel
theorem dX11_bell_46 : decode cX11_bell 46 = .ok (.iaload, 1) := by decide +kernel
theorem dX11_bell_47 : decode cX11_bell 47 = .ok (.ireturn, 1) := by decide +kernel
theorem dX11_rungBehind_0 : decode cX11_rungBehind 0 = .ok (.iconst 0, 1) := by decide +kernel
theorem dX11_rungBehind_1 : decode cX11_rungBehind 1 = .ok (.istore_n 3, 1) := by decide +kernel
theorem dX11_rungBehind_2 : decode cX11_rungBehind 2 = .ok (.iload_n 3, 1) := by decide +kernel
theorem dX11_rungBehind_3 : decode cX11_rungBehind 3 = .ok (.aload_n 0, 1) := by decide +kernel
theorem dX11_rungBehind_4 : decode cX11_rungBehind 4 = .ok (.getfield 214, 3) := by decide +kernel
theorem dX11_rungBehind_7 : decode cX11_rungBehind 7 = .ok (.if_icmp .ge 51, 3) := by decide +kernel
theorem dX11_rungBehind_10 : decode cX11_rungBehind 10 = .ok (.aload_n 0, 1) := by decide +kernel
theorem dX11_rungBehind_11 : decode cX11_rungBehind 11 = .ok (.getfield 217, 3) := by decide +kernel
theorem dX11_rungBehind_14 : decode cX11_rungBehind 14 = .ok (.iload_n 3, 1) := by decide +kernel
theorem dX11_rungBehind_15 : decode cX11_rungBehind 15 = .ok (.iadd, 1) := by decide +kernel
theorem dX11_rungBehind_16 : decode cX11_rungBehind 16 = .ok (.sipush 300, 3) := by decide +kernel
theorem dX11_rungBehind_19 : decode cX11_rungBehind 19 = .ok (.irem, 1) := by decide +kernel
theorem dX11_rungBehind_20 : decode cX11_rungBehind 20 = .ok (.istore 4, 2) := by decide +kernel
theorem dX11_rungBehind_22 : decode cX11_rungBehind 22 = .ok (.aload_n 0, 1) := by decide +kernel
theorem dX11_rungBehind_23 : decode cX11_rungBehind 23 = .ok (.getfield 125, 3) := by decide +kernel
theorem dX11_rungBehind_26 : decode cX11_rungBehind 26 = .ok (.iload 4, 2) := by decide +kernel
theorem dX11_rungBehind_28 : decode cX11_rungBehind 28 = .ok (.iaload, 1) := by decide +kernel
theorem dX11_rungBehind_29 : decode cX11_rungBehind 29 = .ok (.iload_n 1, 1) := by decide +kernel
theorem dX11_rungBehind_30 : decode cX11_rungBehind 30 = .ok (.if_icmp .ne 22, 3) := by decide +kernel
theorem dX11_rungBehind_33 : decode cX11_rungBehind 33 = .ok (.aload_n 0, 1) := by decide +kernel
theorem dX11_rungBehind_34 : decode cX11_rungBehind 34 = .ok (.getfield 128, 3) := by decide +kernel
theorem dX11_rungBehind_37 : decode cX11_rungBehind 37 = .ok (.iload 4, 2) := by decide +kernel
theorem dX11_rungBehind_39 : decode cX11_rungBehind 39 = .ok (.iaload, 1) := by decide +kernel
theorem dX11_rungBehind_40 : decode cX11_rungBehind 40 = .ok (.iload_n 2, 1) := by decide +kernel
theorem dX11_rungBehind_41 : decode cX11_rungBehind 41 = .ok (.if_icmp .lt 11, 3) := by decide +kernel
theorem dX11_rungBehind_44 : decode cX11_rungBehind 44 = .ok (.aload_n 0, 1) := by decide +kernel
theorem dX11_rungBehind_45 : decode cX11_rungBehind 45 = .ok (.getfield 128, 3) := by decide +kernel
theorem dX11_rungBehind_48 : decode cX11_rungBehind 48 = .ok (.iload 4, 2) := by decide +kernel
theorem dX11_rungBehind_50 : decode cX11_rungBehind 50 = .ok (.iaload, 1) := by decide +kernel
theorem dX11_rungBehind_51 : decode cX11_rungBehind 51 = .ok (.ireturn, 1) := by decide +kernel
theorem dX11_rungBehind_52 : decode cX11_rungBehind 52 = .ok (.iinc 3 1, 3) := by decide +kernel
theorem dX11_rungBehind_55 : decode cX11_rungBehind 55 = .ok (.goto (-53), 3) := by decide +kernel
theorem dX11_rungBehind_58 : decode cX11_rungBehind 58 = .ok (.bipush (-9), 2) := by decide +kernel
theorem dX11_rungBehind_60 : decode cX11_rungBehind 60 = .ok (.ireturn, 1) := by decide +kernel
theorem dX11_mayBe_0 : decode cX11_mayBe 0 = .ok (.aload_n 0, 1) := by decide +kernel
theorem dX11_mayBe_1 : decode cX11_mayBe 1 = .ok (.iload_n 1, 1) := by decide +kernel
theorem dX11_mayBe_2 : decode cX11_mayBe 2 = .ok (.invokevirtual 173, 3) := by decide +kernel
theorem dX11_mayBe_5 : decode cX11_mayBe 5 = .ok (.ifCond .ne 5, 3) := by decide +kernel
theorem dX11_mayBe_8 : decode cX11_mayBe 8 = .ok (.iconst (-1), 1) := by decide +kernel
theorem dX11_mayBe_9 : decode cX11_mayBe 9 = .ok (.ireturn, 1) := by decide +kernel
theorem dX11_mayBe_10 : decode cX11_mayBe 10 = .ok (.aload_n 0, 1) := by decide +kernel
theorem dX11_mayBe_11 : decode cX11_mayBe 11 = .ok (.getfield 68, 3) := by decide +kernel
theorem dX11_mayBe_14 : decode cX11_mayBe 14 = .ok (.iload_n 1, 1) := by decide +kernel
theorem dX11_mayBe_15 : decode cX11_mayBe 15 = .ok (.iaload, 1) := by decide +kernel
theorem dX11_mayBe_16 : decode cX11_mayBe 16 = .ok (.ifCond .ne 6, 3) := by decide +kernel
theorem dX11_mayBe_19 : decode cX11_mayBe 19 = .ok (.bipush (-3), 2) := by decide +kernel
theorem dX11_mayBe_21 : decode cX11_mayBe 21 = .ok (.ireturn, 1) := by decide +kernel
theorem dX11_mayBe_22 : decode cX11_mayBe 22 = .ok (.iconst 0, 1) := by decide +kernel
theorem dX11_mayBe_23 : decode cX11_mayBe 23 = .ok (.istore_n 2, 1) := by decide +kernel
theorem dX11_mayBe_24 : decode cX11_mayBe 24 = .ok (.aload_n 0, 1) := by decide +kernel
theorem dX11_mayBe_25 : decode cX11_mayBe 25 = .ok (.getfield 47, 3) := by decide +kernel
theorem dX11_mayBe_28 : decode cX11_mayBe 28 = .ok (.iload_n 1, 1) := by decide +kernel
theorem dX11_mayBe_29 : decode cX11_mayBe 29 = .ok (.iaload, 1) := by decide +kernel
theorem dX11_mayBe_30 : decode cX11_mayBe 30 = .ok (.istore_n 3, 1) := by decide +kernel
theorem dX11_mayBe_31 : decode cX11_mayBe 31 = .ok (.aload_n 0, 1) := by decide +kernel
theorem dX11_mayBe_32 : decode cX11_mayBe 32 = .ok (.getfield 74, 3) := by decide +kernel
theorem dX11_mayBe_35 : decode cX11_mayBe 35 = .ok (.iload_n 1, 1) := by decide +kernel
theorem dX11_mayBe_36 : decode cX11_mayBe 36 = .ok (.iaload, 1) := by decide +kernel
theorem dX11_mayBe_37 : decode cX11_mayBe 37 = .ok (.istore 4, 2) := by decide +kernel
theorem dX11_mayBe_39 : decode cX11_mayBe 39 = .ok (.iload_n 3, 1) := by decide +kernel
theorem dX11_mayBe_40 : decode cX11_mayBe 40 = .ok (.ifCond .eq 67, 3) := by decide +kernel
theorem dX11_mayBe_43 : decode cX11_mayBe 43 = .ok (.iload 4, 2) := by decide +kernel
theorem dX11_mayBe_45 : decode cX11_mayBe 45 = .ok (.aload_n 0, 1) := by decide +kernel
theorem dX11_mayBe_46 : decode cX11_mayBe 46 = .ok (.getfield 16, 3) := by decide +kernel
theorem dX11_mayBe_49 : decode cX11_mayBe 49 = .ok (.iload_n 3, 1) := by decide +kernel
theorem dX11_mayBe_50 : decode cX11_mayBe 50 = .ok (.iaload, 1) := by decide +kernel
theorem dX11_mayBe_51 : decode cX11_mayBe 51 = .ok (.iadd, 1) := by decide +kernel
theorem dX11_mayBe_52 : decode cX11_mayBe 52 = .ok (.istore 4, 2) := by decide +kernel
theorem dX11_mayBe_54 : decode cX11_mayBe 54 = .ok (.aload_n 0, 1) := by decide +kernel
theorem dX11_mayBe_55 : decode cX11_mayBe 55 = .ok (.getfield 7, 3) := by decide +kernel
theorem dX11_mayBe_58 : decode cX11_mayBe 58 = .ok (.iload_n 3, 1) := by decide +kernel
theorem dX11_mayBe_59 : decode cX11_mayBe 59 = .ok (.iaload, 1) := by decide +kernel
theorem dX11_mayBe_60 : decode cX11_mayBe 60 = .ok (.istore_n 3, 1) := by decide +kernel
theorem dX11_mayBe_61 : decode cX11_mayBe 61 = .ok (.iload_n 3, 1) := by decide +kernel
theorem dX11_mayBe_62 : decode cX11_mayBe 62 = .ok (.ifCond .eq 21, 3) := by decide +kernel
theorem dX11_mayBe_65 : decode cX11_mayBe 65 = .ok (.aload_n 0, 1) := by decide +kernel
theorem dX11_mayBe_66 : decode cX11_mayBe 66 = .ok (.getfield 38, 3) := by decide +kernel
theorem dX11_mayBe_69 : decode cX11_mayBe 69 = .ok (.iload_n 3, 1) := by decide +kernel
theorem dX11_mayBe_70 : decode cX11_mayBe 70 = .ok (.baload, 1) := by decide +kernel
theorem dX11_mayBe_71 : decode cX11_mayBe 71 = .ok (.ifCond .ne 12, 3) := by decide +kernel
theorem dX11_mayBe_74 : decode cX11_mayBe 74 = .ok (.aload_n 0, 1) := by decide +kernel
theorem dX11_mayBe_75 : decode cX11_mayBe 75 = .ok (.iload_n 3, 1) := by decide +kernel
theorem dX11_mayBe_76 : decode cX11_mayBe 76 = .ok (.iload 4, 2) := by decide +kernel
theorem dX11_mayBe_78 : decode cX11_mayBe 78 = .ok (.invokevirtual 334, 3) := by decide +kernel
theorem dX11_mayBe_81 : decode cX11_mayBe 81 = .ok (.istore 4, 2) := by decide +kernel
theorem dX11_mayBe_83 : decode cX11_mayBe 83 = .ok (.iload 4, 2) := by decide +kernel
theorem dX11_mayBe_85 : decode cX11_mayBe 85 = .ok (.bipush (-9), 2) := by decide +kernel
theorem dX11_mayBe_87 : decode cX11_mayBe 87 = .ok (.if_icmp .eq 12, 3) := by decide +kernel
theorem dX11_mayBe_90 : decode cX11_mayBe 90 = .ok (.iload 4, 2) := by decide +kernel
theorem dX11_mayBe_92 : decode cX11_mayBe 92 = .ok (.aload_n 0, 1) := by decide +kernel
theorem dX11_mayBe_93 : decode cX11_mayBe 93 = .ok (.getfield 170, 3) := by decide +kernel
theorem dX11_mayBe_96 : decode cX11_mayBe 96 = .ok (.if_icmp .le 5, 3) := by decide +kernel
theorem dX11_mayBe_99 : decode cX11_mayBe 99 = .ok (.iload_n 2, 1) := by decide +kernel
theorem dX11_mayBe_100 : decode cX11_mayBe 100 = .ok (.ireturn, 1) := by decide +kernel
theorem dX11_mayBe_101 : decode cX11_mayBe 101 = .ok (.iinc 2 1, 3) := by decide +kernel
theorem dX11_mayBe_104 : decode cX11_mayBe 104 = .ok (.goto (-65), 3) := by decide +kernel
theorem dX11_mayBe_107 : decode cX11_mayBe 107 = .ok (.iload_n 2, 1) := by decide +kernel
theorem dX11_mayBe_108 : decode cX11_mayBe 108 = .ok (.ireturn, 1) := by decide +kernel
theorem dX11_total_0 : decode cX11_total 0 = .ok (.iconst 0, 1) := by decide +kernel
theorem dX11_total_1 : decode cX11_total 1 = .ok (.istore_n 2, 1) := by decide +kernel
theorem dX11_total_2 : decode cX11_total 2 = .ok (.aload_n 0, 1) := by decide +kernel
theorem dX11_total_3 : decode cX11_total 3 = .ok (.bipush 6, 2) := by decide +kernel
theorem dX11_total_5 : decode cX11_total 5 = .ok (.invokevirtual 337, 3) := by decide +kernel
theorem dX11_total_8 : decode cX11_total 8 = .ok (.istore_n 3, 1) := by decide +kernel
theorem dX11_total_9 : decode cX11_total 9 = .ok (.iconst 0, 1) := by decide +kernel
theorem dX11_total_10 : decode cX11_total 10 = .ok (.istore 4, 2) := by decide +kernel
theorem dX11_total_12 : decode cX11_total 12 = .ok (.iload 4, 2) := by decide +kernel
theorem dX11_total_14 : decode cX11_total 14 = .ok (.aload_n 0, 1) := by decide +kernel
theorem dX11_total_15 : decode cX11_total 15 = .ok (.getfield 158, 3) := by decide +kernel
theorem dX11_total_18 : decode cX11_total 18 = .ok (.if_icmp .ge 36, 3) := by decide +kernel
theorem dX11_total_21 : decode cX11_total 21 = .ok (.iload_n 2, 1) := by decide +kernel
theorem dX11_total_22 : decode cX11_total 22 = .ok (.aload_n 0, 1) := by decide +kernel
theorem dX11_total_23 : decode cX11_total 23 = .ok (.getfield 50, 3) := by decide +kernel
theorem dX11_total_26 : decode cX11_total 26 = .ok (.iload 4, 2) := by decide +kernel
theorem dX11_total_28 : decode cX11_total 28 = .ok (.iaload, 1) := by decide +kernel
theorem dX11_total_29 : decode cX11_total 29 = .ok (.ifCond .ne 7, 3) := by decide +kernel
theorem dX11_total_32 : decode cX11_total 32 = .ok (.iconst 0, 1) := by decide +kernel
theorem dX11_total_33 : decode cX11_total 33 = .ok (.goto 4, 3) := by decide +kernel
theorem dX11_total_36 : decode cX11_total 36 = .ok (.iconst 1, 1) := by decide +kernel
theorem dX11_total_37 : decode cX11_total 37 = .ok (.iadd, 1) := by decide +kernel
theorem dX11_total_38 : decode cX11_total 38 = .ok (.istore_n 2, 1) := by decide +kernel
theorem dX11_total_39 : decode cX11_total 39 = .ok (.iload_n 3, 1) := by decide +kernel
theorem dX11_total_40 : decode cX11_total 40 = .ok (.aload_n 0, 1) := by decide +kernel
theorem dX11_total_41 : decode cX11_total 41 = .ok (.iload 4, 2) := by decide +kernel
theorem dX11_total_43 : decode cX11_total 43 = .ok (.invokevirtual 201, 3) := by decide +kernel
theorem dX11_total_46 : decode cX11_total 46 = .ok (.iadd, 1) := by decide +kernel
theorem dX11_total_47 : decode cX11_total 47 = .ok (.istore_n 3, 1) := by decide +kernel
theorem dX11_total_48 : decode cX11_total 48 = .ok (.iinc 4 1, 3) := by decide +kernel
theorem dX11_total_51 : decode cX11_total 51 = .ok (.goto (-39), 3) := by decide +kernel
theorem dX11_total_54 : decode cX11_total 54 = .ok (.iload_n 1, 1) := by decide +kernel
theorem dX11_total_55 : decode cX11_total 55 = .ok (.tableswitch 79 0 7 #[45, 50, 55, 60, 62, 67, 72, 77], 45) := by decide +kernel
theorem dX11_total_100 : decode cX11_total 100 = .ok (.aload_n 0, 1) := by decide +kernel
theorem dX11_total_101 : decode cX11_total 101 = .ok (.getfield 143, 3) := by decide +kernel
theorem dX11_total_104 : decode cX11_total 104 = .ok (.ireturn, 1) := by decide +kernel
theorem dX11_total_105 : decode cX11_total 105 = .ok (.aload_n 0, 1) := by decide +kernel
theorem dX11_total_106 : decode cX11_total 106 = .ok (.getfield 158, 3) := by decide +kernel
theorem dX11_total_109 : decode cX11_total 109 = .ok (.ireturn, 1) := by decide +kernel
theorem dX11_total_110 : decode cX11_total 110 = .ok (.aload_n 0, 1) := by decide +kernel
theorem dX11_total_111 : decode cX11_total 111 = .ok (.getfield 170, 3) := by decide +kernel
theorem dX11_total_114 : decode cX11_total 114 = .ok (.ireturn, 1) := by decide +kernel
theorem dX11_total_115 : decode cX11_total 115 = .ok (.iload_n 2, 1) := by decide +kernel
theorem dX11_total_116 : decode cX11_total 116 = .ok (.ireturn, 1) := by decide +kernel
theorem dX11_total_117 : decode cX11_total 117 = .ok (.aload_n 0, 1) := by decide +kernel
theorem dX11_total_118 : decode cX11_total 118 = .ok (.getfield 161, 3) := by decide +kernel
theorem dX11_total_121 : decode cX11_total 121 = .ok (.ireturn, 1) := by decide +kernel
theorem dX11_total_122 : decode cX11_total 122 = .ok (.aload_n 0, 1) := by decide +kernel
theorem dX11_total_123 : decode cX11_total 123 = .ok (.getfield 180, 3) := by decide +kernel
theorem dX11_total_126 : decode cX11_total 126 = .ok (.ireturn, 1) := by decide +kernel
theorem dX11_total_127 : decode cX11_total 127 = .ok (.aload_n 0, 1) := by decide +kernel
theorem dX11_total_128 : decode cX11_total 128 = .ok (.getfield 220, 3) := by decide +kernel
theorem dX11_total_131 : decode cX11_total 131 = .ok (.ireturn, 1) := by decide +kernel
theorem dX11_total_132 : decode cX11_total 132 = .ok (.iload_n 3, 1) := by decide +kernel
theorem dX11_total_133 : decode cX11_total 133 = .ok (.ireturn, 1) := by decide +kernel
theorem dX11_total_134 : decode cX11_total 134 = .ok (.bipush (-2), 2) := by decide +kernel
theorem dX11_total_136 : decode cX11_total 136 = .ok (.ireturn, 1) := by decide +kernel
theorem dL_law_0 : decode cL_law 0 = .ok (.new 7, 3) := by decide +kernel
theorem dL_law_3 : decode cL_law 3 = .ok (.dup, 1) := by decide +kernel
theorem dL_law_4 : decode cL_law 4 = .ok (.invokespecial 9, 3) := by decide +kernel
theorem dL_law_7 : decode cL_law 7 = .ok (.astore_n 1, 1) := by decide +kernel
theorem dL_law_8 : decode cL_law 8 = .ok (.new 10, 3) := by decide +kernel
theorem dL_law_11 : decode cL_law 11 = .ok (.dup, 1) := by decide +kernel
theorem dL_law_12 : decode cL_law 12 = .ok (.invokespecial 12, 3) := by decide +kernel
theorem dL_law_15 : decode cL_law 15 = .ok (.astore_n 2, 1) := by decide +kernel
theorem dL_law_16 : decode cL_law 16 = .ok (.iconst 0, 1) := by decide +kernel
theorem dL_law_17 : decode cL_law 17 = .ok (.istore_n 3, 1) := by decide +kernel
theorem dL_law_18 : decode cL_law 18 = .ok (.iload_n 3, 1) := by decide +kernel
theorem dL_law_19 : decode cL_law 19 = .ok (.aload_n 0, 1) := by decide +kernel
theorem dL_law_20 : decode cL_law 20 = .ok (.arraylength, 1) := by decide +kernel
theorem dL_law_21 : decode cL_law 21 = .ok (.bipush 6, 2) := by decide +kernel
theorem dL_law_23 : decode cL_law 23 = .ok (.isub, 1) := by decide +kernel
theorem dL_law_24 : decode cL_law 24 = .ok (.if_icmp .gt 1275, 3) := by decide +kernel
theorem dL_law_27 : decode cL_law 27 = .ok (.aload_n 0, 1) := by decide +kernel
theorem dL_law_28 : decode cL_law 28 = .ok (.iload_n 3, 1) := by decide +kernel
theorem dL_law_29 : decode cL_law 29 = .ok (.iaload, 1) := by decide +kernel
theorem dL_law_30 : decode cL_law 30 = .ok (.bipush 63, 2) := by decide +kernel
theorem dL_law_32 : decode cL_law 32 = .ok (.iand, 1) := by decide +kernel
theorem dL_law_33 : decode cL_law 33 = .ok (.tableswitch 1260 0 34 #[155, 250, 293, 326, 375, 398, 421, 444, 477, 520, 573, 596, 619, 652, 685, 708, 731, 764, 787, 810, 843, 892, 925, 938, 961, 984, 1027, 1060, 1083, 1096, 1119, 1152, 1165, 1214, 1237], 155) := by decide +kernel
theorem dL_law_188 : decode cL_law 188 = .ok (.aload_n 1, 1) := by decide +kernel
theorem dL_law_189 : decode cL_law 189 = .ok (.aload_n 0, 1) := by decide +kernel
theorem dL_law_190 : decode cL_law 190 = .ok (.iload_n 3, 1) := by decide +kernel
theorem dL_law_191 : decode cL_law 191 = .ok (.iconst 1, 1) := by decide +kernel
theorem dL_law_192 : decode cL_law 192 = .ok (.iadd, 1) := by decide +kernel
theorem dL_law_193 : decode cL_law 193 = .ok (.iaload, 1) := by decide +kernel
theorem dL_law_194 : decode cL_law 194 = .ok (.aload_n 0, 1) := by decide +kernel
theorem dL_law_195 : decode cL_law 195 = .ok (.iload_n 3, 1) := by decide +kernel
theorem dL_law_196 : decode cL_law 196 = .ok (.iconst 2, 1) := by decide +kernel
theorem dL_law_197 : decode cL_law 197 = .ok (.iadd, 1) := by decide +kernel
theorem dL_law_198 : decode cL_law 198 = .ok (.iaload, 1) := by decide +kernel
theorem dL_law_199 : decode cL_law 199 = .ok (.ifCond .eq 7, 3) := by decide +kernel
theorem dL_law_202 : decode cL_law 202 = .ok (.iconst 1, 1) := by decide +kernel
theorem dL_law_203 : decode cL_law 203 = .ok (.goto 4, 3) := by decide +kernel
theorem dL_law_206 : decode cL_law 206 = .ok (.iconst 0, 1) := by decide +kernel
theorem dL_law_207 : decode cL_law 207 = .ok (.aload_n 0, 1) := by decide +kernel
theorem dL_law_208 : decode cL_law 208 = .ok (.iload_n 3, 1) := by decide +kernel
theorem dL_law_209 : decode cL_law 209 = .ok (.iconst 3, 1) := by decide +kernel
theorem dL_law_210 : decode cL_law 210 = .ok (.iadd, 1) := by decide +kernel
theorem dL_law_211 : decode cL_law 211 = .ok (.iaload, 1) := by decide +kernel
theorem dL_law_212 : decode cL_law 212 = .ok (.aload_n 0, 1) := by decide +kernel
theorem dL_law_213 : decode cL_law 213 = .ok (.iload_n 3, 1) := by decide +kernel
theorem dL_law_214 : decode cL_law 214 = .ok (.iconst 4, 1) := by decide +kernel
theorem dL_law_215 : decode cL_law 215 = .ok (.iadd, 1) := by decide +kernel
theorem dL_law_216 : decode cL_law 216 = .ok (.iaload, 1) := by decide +kernel
theorem dL_law_217 : decode cL_law 217 = .ok (.aload_n 0, 1) := by decide +kernel
theorem dL_law_218 : decode cL_law 218 = .ok (.iload_n 3, 1) := by decide +kernel
theorem dL_law_219 : decode cL_law 219 = .ok (.iconst 5, 1) := by decide +kernel
theorem dL_law_220 : decode cL_law 220 = .ok (.iadd, 1) := by decide +kernel
theorem dL_law_221 : decode cL_law 221 = .ok (.iaload, 1) := by decide +kernel
theorem dL_law_222 : decode cL_law 222 = .ok (.ifCond .eq 7, 3) := by decide +kernel
theorem dL_law_225 : decode cL_law 225 = .ok (.iconst 1, 1) := by decide +kernel
theorem dL_law_226 : decode cL_law 226 = .ok (.goto 4, 3) := by decide +kernel
theorem dL_law_229 : decode cL_law 229 = .ok (.iconst 0, 1) := by decide +kernel
theorem dL_law_230 : decode cL_law 230 = .ok (.invokevirtual 13, 3) := by decide +kernel
theorem dL_law_233 : decode cL_law 233 = .ok (.aload_n 2, 1) := by decide +kernel
theorem dL_law_234 : decode cL_law 234 = .ok (.aload_n 0, 1) := by decide +kernel
theorem dL_law_235 : decode cL_law 235 = .ok (.iload_n 3, 1) := by decide +kernel
theorem dL_law_236 : decode cL_law 236 = .ok (.iconst 1, 1) := by decide +kernel
theorem dL_law_237 : decode cL_law 237 = .ok (.iadd, 1) := by decide +kernel
theorem dL_law_238 : decode cL_law 238 = .ok (.iaload, 1) := by decide +kernel
theorem dL_law_239 : decode cL_law 239 = .ok (.aload_n 0, 1) := by decide +kernel
theorem dL_law_240 : decode cL_law 240 = .ok (.iload_n 3, 1) := by decide +kernel
theorem dL_law_241 : decode cL_law 241 = .ok (.iconst 2, 1) := by decide +kernel
theorem dL_law_242 : decode cL_law 242 = .ok (.iadd, 1) := by decide +kernel
theorem dL_law_243 : decode cL_law 243 = .ok (.iaload, 1) := by decide +kernel
theorem dL_law_244 : decode cL_law 244 = .ok (.ifCond .eq 7, 3) := by decide +kernel
theorem dL_law_247 : decode cL_law 247 = .ok (.iconst 1, 1) := by decide +kernel
theorem dL_law_248 : decode cL_law 248 = .ok (.goto 4, 3) := by decide +kernel
theorem dL_law_251 : decode cL_law 251 = .ok (.iconst 0, 1) := by decide +kernel
theorem dL_law_252 : decode cL_law 252 = .ok (.aload_n 0, 1) := by decide +kernel
theorem dL_law_253 : decode cL_law 253 = .ok (.iload_n 3, 1) := by decide +kernel
theorem dL_law_254 : decode cL_law 254 = .ok (.iconst 3, 1) := by decide +kernel
theorem dL_law_255 : decode cL_law 255 = .ok (.iadd, 1) := by decide +kernel
theorem dL_law_256 : decode cL_law 256 = .ok (.iaload, 1) := by decide +kernel
theorem dL_law_257 : decode cL_law 257 = .ok (.aload_n 0, 1) := by decide +kernel
theorem dL_law_258 : decode cL_law 258 = .ok (.iload_n 3, 1) := by decide +kernel
theorem dL_law_259 : decode cL_law 259 = .ok (.iconst 4, 1) := by decide +kernel
theorem dL_law_260 : decode cL_law 260 = .ok (.iadd, 1) := by decide +kernel
theorem dL_law_261 : decode cL_law 261 = .ok (.iaload, 1) := by decide +kernel
theorem dL_law_262 : decode cL_law 262 = .ok (.aload_n 0, 1) := by decide +kernel
theorem dL_law_263 : decode cL_law 263 = .ok (.iload_n 3, 1) := by decide +kernel
theorem dL_law_264 : decode cL_law 264 = .ok (.iconst 5, 1) := by decide +kernel
theorem dL_law_265 : decode cL_law 265 = .ok (.iadd, 1) := by decide +kernel
theorem dL_law_266 : decode cL_law 266 = .ok (.iaload, 1) := by decide +kernel
theorem dL_law_267 : decode cL_law 267 = .ok (.ifCond .eq 7, 3) := by decide +kernel
theorem dL_law_270 : decode cL_law 270 = .ok (.iconst 1, 1) := by decide +kernel
theorem dL_law_271 : decode cL_law 271 = .ok (.goto 4, 3) := by decide +kernel
theorem dL_law_274 : decode cL_law 274 = .ok (.iconst 0, 1) := by decide +kernel
theorem dL_law_275 : decode cL_law 275 = .ok (.invokevirtual 17, 3) := by decide +kernel
theorem dL_law_278 : decode cL_law 278 = .ok (.if_icmp .eq 1015, 3) := by decide +kernel
theorem dL_law_281 : decode cL_law 281 = .ok (.iconst 0, 1) := by decide +kernel
theorem dL_law_282 : decode cL_law 282 = .ok (.ireturn, 1) := by decide +kernel
theorem dL_law_283 : decode cL_law 283 = .ok (.aload_n 1, 1) := by decide +kernel
theorem dL_law_284 : decode cL_law 284 = .ok (.aload_n 0, 1) := by decide +kernel
theorem dL_law_285 : decode cL_law 285 = .ok (.iload_n 3, 1) := by decide +kernel
theorem dL_law_286 : decode cL_law 286 = .ok (.iconst 1, 1) := by decide +kernel
theorem dL_law_287 : decode cL_law 287 = .ok (.iadd, 1) := by decide +kernel
theorem dL_law_288 : decode cL_law 288 = .ok (.iaload, 1) := by decide +kernel
theorem dL_law_289 : decode cL_law 289 = .ok (.aload_n 0, 1) := by decide +kernel
theorem dL_law_290 : decode cL_law 290 = .ok (.iload_n 3, 1) := by decide +kernel
theorem dL_law_291 : decode cL_law 291 = .ok (.iconst 2, 1) := by decide +kernel
theorem dL_law_292 : decode cL_law 292 = .ok (.iadd, 1) := by decide +kernel
theorem dL_law_293 : decode cL_law 293 = .ok (.iaload, 1) := by decide +kernel
theorem dL_law_294 : decode cL_law 294 = .ok (.aload_n 0, 1) := by decide +kernel
theorem dL_law_295 : decode cL_law 295 = .ok (.iload_n 3, 1) := by decide +kernel
theorem dL_law_296 : decode cL_law 296 = .ok (.iconst 3, 1) := by decide +kernel
theorem dL_law_297 : decode cL_law 297 = .ok (.iadd, 1) := by decide +kernel
theorem dL_law_298 : decode cL_law 298 = .ok (.iaload, 1) := by decide +kernel
theorem dL_law_299 : decode cL_law 299 = .ok (.invokevirtual 18, 3) := by decide +kernel
theorem dL_law_302 : decode cL_law 302 = .ok (.aload_n 2, 1) := by decide +kernel
theorem dL_law_303 : decode cL_law 303 = .ok (.aload_n 0, 1) := by decide +kernel
theorem dL_law_304 : decode cL_law 304 = .ok (.iload_n 3, 1) := by decide +kernel
theorem dL_law_305 : decode cL_law 305 = .ok (.iconst 1, 1) := by decide +kernel
theorem dL_law_306 : decode cL_law 306 = .ok (.iadd, 1) := by decide +kernel
theorem dL_law_307 : decode cL_law 307 = .ok (.iaload, 1) := by decide +kernel
theorem dL_law_308 : decode cL_law 308 = .ok (.aload_n 0, 1) := by decide +kernel
theorem dL_law_309 : decode cL_law 309 = .ok (.iload_n 3, 1) := by decide +kernel
theorem dL_law_310 : decode cL_law 310 = .ok (.iconst 2, 1) := by decide +kernel
theorem dL_law_311 : decode cL_law 311 = .ok (.iadd, 1) := by decide +kernel
theorem dL_law_312 : decode cL_law 312 = .ok (.iaload, 1) := by decide +kernel
theorem dL_law_313 : decode cL_law 313 = .ok (.aload_n 0, 1) := by decide +kernel
theorem dL_law_314 : decode cL_law 314 = .ok (.iload_n 3, 1) := by decide +kernel
theorem dL_law_315 : decode cL_law 315 = .ok (.iconst 3, 1) := by decide +kernel
theorem dL_law_316 : decode cL_law 316 = .ok (.iadd, 1) := by decide +kernel
theorem dL_law_317 : decode cL_law 317 = .ok (.iaload, 1) := by decide +kernel
theorem dL_law_318 : decode cL_law 318 = .ok (.invokevirtual 22, 3) := by decide +kernel
theorem dL_law_321 : decode cL_law 321 = .ok (.if_icmp .eq 972, 3) := by decide +kernel
theorem dL_law_324 : decode cL_law 324 = .ok (.iconst 0, 1) := by decide +kernel
theorem dL_law_325 : decode cL_law 325 = .ok (.ireturn, 1) := by decide +kernel
theorem dL_law_326 : decode cL_law 326 = .ok (.aload_n 1, 1) := by decide +kernel
theorem dL_law_327 : decode cL_law 327 = .ok (.aload_n 0, 1) := by decide +kernel
theorem dL_law_328 : decode cL_law 328 = .ok (.iload_n 3, 1) := by decide +kernel
theorem dL_law_329 : decode cL_law 329 = .ok (.iconst 1, 1) := by decide +kernel
theorem dL_law_330 : decode cL_law 330 = .ok (.iadd, 1) := by decide +kernel
theorem dL_law_331 : decode cL_law 331 = .ok (.iaload, 1) := by decide +kernel
theorem dL_law_332 : decode cL_law 332 = .ok (.aload_n 0, 1) := by decide +kernel
theorem dL_law_333 : decode cL_law 333 = .ok (.iload_n 3, 1) := by decide +kernel
theorem dL_law_334 : decode cL_law 334 = .ok (.iconst 2, 1) := by decide +kernel
theorem dL_law_335 : decode cL_law 335 = .ok (.iadd, 1) := by decide +kernel
theorem dL_law_336 : decode cL_law 336 = .ok (.iaload, 1) := by decide +kernel
theorem dL_law_337 : decode cL_law 337 = .ok (.invokevirtual 23, 3) := by decide +kernel
theorem dL_law_340 : decode cL_law 340 = .ok (.aload_n 2, 1) := by decide +kernel
theorem dL_law_341 : decode cL_law 341 = .ok (.aload_n 0, 1) := by decide +kernel
theorem dL_law_342 : decode cL_law 342 = .ok (.iload_n 3, 1) := by decide +kernel
theorem dL_law_343 : decode cL_law 343 = .ok (.iconst 1, 1) := by decide +kernel
theorem dL_law_344 : decode cL_law 344 = .ok (.iadd, 1) := by decide +kernel
theorem dL_law_345 : decode cL_law 345 = .ok (.iaload, 1) := by decide +kernel
theorem dL_law_346 : decode cL_law 346 = .ok (.aload_n 0, 1) := by decide +kernel
theorem dL_law_347 : decode cL_law 347 = .ok (.iload_n 3, 1) := by decide +kernel
theorem dL_law_348 : decode cL_law 348 = .ok (.iconst 2, 1) := by decide +kernel
theorem dL_law_349 : decode cL_law 349 = .ok (.iadd, 1) := by decide +kernel
theorem dL_law_350 : decode cL_law 350 = .ok (.iaload, 1) := by decide +kernel
theorem dL_law_351 : decode cL_law 351 = .ok (.invokevirtual 27, 3) := by decide +kernel
theorem dL_law_354 : decode cL_law 354 = .ok (.if_icmp .eq 939, 3) := by decide +kernel
theorem dL_law_357 : decode cL_law 357 = .ok (.iconst 0, 1) := by decide +kernel
theorem dL_law_358 : decode cL_law 358 = .ok (.ireturn, 1) := by decide +kernel
theorem dL_law_359 : decode cL_law 359 = .ok (.aload_n 1, 1) := by decide +kernel
theorem dL_law_360 : decode cL_law 360 = .ok (.aload_n 0, 1) := by decide +kernel
theorem dL_law_361 : decode cL_law 361 = .ok (.iload_n 3, 1) := by decide +kernel
theorem dL_law_362 : decode cL_law 362 = .ok (.iconst 1, 1) := by decide +kernel
theorem dL_law_363 : decode cL_law 363 = .ok (.iadd, 1) := by decide +kernel
theorem dL_law_364 : decode cL_law 364 = .ok (.iaload, 1) := by decide +kernel
theorem dL_law_365 : decode cL_law 365 = .ok (.aload_n 0, 1) := by decide +kernel
theorem dL_law_366 : decode cL_law 366 = .ok (.iload_n 3, 1) := by decide +kernel
theorem dL_law_367 : decode cL_law 367 = .ok (.iconst 2, 1) := by decide +kernel
theorem dL_law_368 : decode cL_law 368 = .ok (.iadd, 1) := by decide +kernel
theorem dL_law_369 : decode cL_law 369 = .ok (.iaload, 1) := by decide +kernel
theorem dL_law_370 : decode cL_law 370 = .ok (.ifCond .eq 7, 3) := by decide +kernel
theorem dL_law_373 : decode cL_law 373 = .ok (.iconst 1, 1) := by decide +kernel
theorem dL_law_374 : decode cL_law 374 = .ok (.goto 4, 3) := by decide +kernel
theorem dL_law_377 : decode cL_law 377 = .ok (.iconst 0, 1) := by decide +kernel
theorem dL_law_378 : decode cL_law 378 = .ok (.invokevirtual 28, 3) := by decide +kernel
theorem dL_law_381 : decode cL_law 381 = .ok (.aload_n 2, 1) := by decide +kernel
theorem dL_law_382 : decode cL_law 382 = .ok (.aload_n 0, 1) := by decide +kernel
theorem dL_law_383 : decode cL_law 383 = .ok (.iload_n 3, 1) := by decide +kernel
theorem dL_law_384 : decode cL_law 384 = .ok (.iconst 1, 1) := by decide +kernel
theorem dL_law_385 : decode cL_law 385 = .ok (.iadd, 1) := by decide +kernel
theorem dL_law_386 : decode cL_law 386 = .ok (.iaload, 1) := by decide +kernel
theorem dL_law_387 : decode cL_law 387 = .ok (.aload_n 0, 1) := by decide +kernel
theorem dL_law_388 : decode cL_law 388 = .ok (.iload_n 3, 1) := by decide +kernel
theorem dL_law_389 : decode cL_law 389 = .ok (.iconst 2, 1) := by decide +kernel
theorem dL_law_390 : decode cL_law 390 = .ok (.iadd, 1) := by decide +kernel
theorem dL_law_391 : decode cL_law 391 = .ok (.iaload, 1) := by decide +kernel
theorem dL_law_392 : decode cL_law 392 = .ok (.ifCond .eq 7, 3) := by decide +kernel
theorem dL_law_395 : decode cL_law 395 = .ok (.iconst 1, 1) := by decide +kernel
theorem dL_law_396 : decode cL_law 396 = .ok (.goto 4, 3) := by decide +kernel
theorem dL_law_399 : decode cL_law 399 = .ok (.iconst 0, 1) := by decide +kernel
theorem dL_law_400 : decode cL_law 400 = .ok (.invokevirtual 32, 3) := by decide +kernel
theorem dL_law_403 : decode cL_law 403 = .ok (.if_icmp .eq 890, 3) := by decide +kernel
theorem dL_law_406 : decode cL_law 406 = .ok (.iconst 0, 1) := by decide +kernel
theorem dL_law_407 : decode cL_law 407 = .ok (.ireturn, 1) := by decide +kernel
theorem dL_law_408 : decode cL_law 408 = .ok (.aload_n 1, 1) := by decide +kernel
theorem dL_law_409 : decode cL_law 409 = .ok (.aload_n 0, 1) := by decide +kernel
theorem dL_law_410 : decode cL_law 410 = .ok (.iload_n 3, 1) := by decide +kernel
theorem dL_law_411 : decode cL_law 411 = .ok (.iconst 1, 1) := by decide +kernel
theorem dL_law_412 : decode cL_law 412 = .ok (.iadd, 1) := by decide +kernel
theorem dL_law_413 : decode cL_law 413 = .ok (.iaload, 1) := by decide +kernel
theorem dL_law_414 : decode cL_law 414 = .ok (.invokevirtual 33, 3) := by decide +kernel
theorem dL_law_417 : decode cL_law 417 = .ok (.aload_n 2, 1) := by decide +kernel
theorem dL_law_418 : decode cL_law 418 = .ok (.aload_n 0, 1) := by decide +kernel
theorem dL_law_419 : decode cL_law 419 = .ok (.iload_n 3, 1) := by decide +kernel
theorem dL_law_420 : decode cL_law 420 = .ok (.iconst 1, 1) := by decide +kernel
theorem dL_law_421 : decode cL_law 421 = .ok (.iadd, 1) := by decide +kernel
theorem dL_law_422 : decode cL_law 422 = .ok (.iaload, 1) := by decide +kernel
theorem dL_law_423 : decode cL_law 423 = .ok (.invokevirtual 37, 3) := by decide +kernel
theorem dL_law_426 : decode cL_law 426 = .ok (.if_icmp .eq 867, 3) := by decide +kernel
theorem dL_law_429 : decode cL_law 429 = .ok (.iconst 0, 1) := by decide +kernel
theorem dL_law_430 : decode cL_law 430 = .ok (.ireturn, 1) := by decide +kernel
theorem dL_law_431 : decode cL_law 431 = .ok (.aload_n 1, 1) := by decide +kernel
theorem dL_law_432 : decode cL_law 432 = .ok (.aload_n 0, 1) := by decide +kernel
theorem dL_law_433 : decode cL_law 433 = .ok (.iload_n 3, 1) := by decide +kernel
theorem dL_law_434 : decode cL_law 434 = .ok (.iconst 1, 1) := by decide +kernel
theorem dL_law_435 : decode cL_law 435 = .ok (.iadd, 1) := by decide +kernel
theorem dL_law_436 : decode cL_law 436 = .ok (.iaload, 1) := by decide +kernel
theorem dL_law_437 : decode cL_law 437 = .ok (.invokevirtual 38, 3) := by decide +kernel
theorem dL_law_440 : decode cL_law 440 = .ok (.aload_n 2, 1) := by decide +kernel
theorem dL_law_441 : decode cL_law 441 = .ok (.aload_n 0, 1) := by decide +kernel
theorem dL_law_442 : decode cL_law 442 = .ok (.iload_n 3, 1) := by decide +kernel
theorem dL_law_443 : decode cL_law 443 = .ok (.iconst 1, 1) := by decide +kernel
theorem dL_law_444 : decode cL_law 444 = .ok (.iadd, 1) := by decide +kernel
theorem dL_law_445 : decode cL_law 445 = .ok (.iaload, 1) := by decide +kernel
theorem dL_law_446 : decode cL_law 446 = .ok (.invokevirtual 41, 3) := by decide +kernel
theorem dL_law_449 : decode cL_law 449 = .ok (.if_icmp .eq 844, 3) := by decide +kernel
theorem dL_law_452 : decode cL_law 452 = .ok (.iconst 0, 1) := by decide +kernel
theorem dL_law_453 : decode cL_law 453 = .ok (.ireturn, 1) := by decide +kernel
theorem dL_law_454 : decode cL_law 454 = .ok (.aload_n 1, 1) := by decide +kernel
theorem dL_law_455 : decode cL_law 455 = .ok (.aload_n 0, 1) := by decide +kernel
theorem dL_law_456 : decode cL_law 456 = .ok (.iload_n 3, 1) := by decide +kernel
theorem dL_law_457 : decode cL_law 457 = .ok (.iconst 1, 1) := by decide +kernel
theorem dL_law_458 : decode cL_law 458 = .ok (.iadd, 1) := by decide +kernel
theorem dL_law_459 : decode cL_law 459 = .ok (.iaload, 1) := by decide +kernel
theorem dL_law_460 : decode cL_law 460 = .ok (.invokevirtual 42, 3) := by decide +kernel
theorem dL_law_463 : decode cL_law 463 = .ok (.aload_n 2, 1) := by decide +kernel
theorem dL_law_464 : decode cL_law 464 = .ok (.aload_n 0, 1) := by decide +kernel
theorem dL_law_465 : decode cL_law 465 = .ok (.iload_n 3, 1) := by decide +kernel
theorem dL_law_466 : decode cL_law 466 = .ok (.iconst 1, 1) := by decide +kernel
theorem dL_law_467 : decode cL_law 467 = .ok (.iadd, 1) := by decide +kernel
theorem dL_law_468 : decode cL_law 468 = .ok (.iaload, 1) := by decide +kernel
theorem dL_law_469 : decode cL_law 469 = .ok (.invokevirtual 45, 3) := by decide +kernel
theorem dL_law_472 : decode cL_law 472 = .ok (.if_icmp .eq 821, 3) := by decide +kernel
theorem dL_law_475 : decode cL_law 475 = .ok (.iconst 0, 1) := by decide +kernel
theorem dL_law_476 : decode cL_law 476 = .ok (.ireturn, 1) := by decide +kernel
theorem dL_law_477 : decode cL_law 477 = .ok (.aload_n 1, 1) := by decide +kernel
theorem dL_law_478 : decode cL_law 478 = .ok (.aload_n 0, 1) := by decide +kernel
theorem dL_law_479 : decode cL_law 479 = .ok (.iload_n 3, 1) := by decide +kernel
theorem dL_law_480 : decode cL_law 480 = .ok (.iconst 1, 1) := by decide +kernel
theorem dL_law_481 : decode cL_law 481 = .ok (.iadd, 1) := by decide +kernel
theorem dL_law_482 : decode cL_law 482 = .ok (.iaload, 1) := by decide +kernel
theorem dL_law_483 : decode cL_law 483 = .ok (.aload_n 0, 1) := by decide +kernel
theorem dL_law_484 : decode cL_law 484 = .ok (.iload_n 3, 1) := by decide +kernel
theorem dL_law_485 : decode cL_law 485 = .ok (.iconst 2, 1) := by decide +kernel
theorem dL_law_486 : decode cL_law 486 = .ok (.iadd, 1) := by decide +kernel
theorem dL_law_487 : decode cL_law 487 = .ok (.iaload, 1) := by decide +kernel
theorem dL_law_488 : decode cL_law 488 = .ok (.invokevirtual 46, 3) := by decide +kernel
theorem dL_law_491 : decode cL_law 491 = .ok (.aload_n 2, 1) := by decide +kernel
theorem dL_law_492 : decode cL_law 492 = .ok (.aload_n 0, 1) := by decide +kernel
theorem dL_law_493 : decode cL_law 493 = .ok (.iload_n 3, 1) := by decide +kernel
theorem dL_law_494 : decode cL_law 494 = .ok (.iconst 1, 1) := by decide +kernel
theorem dL_law_495 : decode cL_law 495 = .ok (.iadd, 1) := by decide +kernel
theorem dL_law_496 : decode cL_law 496 = .ok (.iaload, 1) := by decide +kernel
theorem dL_law_497 : decode cL_law 497 = .ok (.aload_n 0, 1) := by decide +kernel
theorem dL_law_498 : decode cL_law 498 = .ok (.iload_n 3, 1) := by decide +kernel
theorem dL_law_499 : decode cL_law 499 = .ok (.iconst 2, 1) := by decide +kernel
theorem dL_law_500 : decode cL_law 500 = .ok (.iadd, 1) := by decide +kernel
theorem dL_law_501 : decode cL_law 501 = .ok (.iaload, 1) := by decide +kernel
theorem dL_law_502 : decode cL_law 502 = .ok (.invokevirtual 49, 3) := by decide +kernel
theorem dL_law_505 : decode cL_law 505 = .ok (.if_icmp .eq 788, 3) := by decide +kernel
theorem dL_law_508 : decode cL_law 508 = .ok (.iconst 0, 1) := by decide +kernel
theorem dL_law_509 : decode cL_law 509 = .ok (.ireturn, 1) := by decide +kernel
theorem dL_law_510 : decode cL_law 510 = .ok (.aload_n 1, 1) := by decide +kernel
theorem dL_law_511 : decode cL_law 511 = .ok (.aload_n 0, 1) := by decide +kernel
theorem dL_law_512 : decode cL_law 512 = .ok (.iload_n 3, 1) := by decide +kernel
theorem dL_law_513 : decode cL_law 513 = .ok (.iconst 1, 1) := by decide +kernel
theorem dL_law_514 : decode cL_law 514 = .ok (.iadd, 1) := by decide +kernel
theorem dL_law_515 : decode cL_law 515 = .ok (.iaload, 1) := by decide +kernel
theorem dL_law_516 : decode cL_law 516 = .ok (.aload_n 0, 1) := by decide +kernel
theorem dL_law_517 : decode cL_law 517 = .ok (.iload_n 3, 1) := by decide +kernel
theorem dL_law_518 : decode cL_law 518 = .ok (.iconst 2, 1) := by decide +kernel
theorem dL_law_519 : decode cL_law 519 = .ok (.iadd, 1) := by decide +kernel
theorem dL_law_520 : decode cL_law 520 = .ok (.iaload, 1) := by decide +kernel
theorem dL_law_521 : decode cL_law 521 = .ok (.aload_n 0, 1) := by decide +kernel
theorem dL_law_522 : decode cL_law 522 = .ok (.iload_n 3, 1) := by decide +kernel
theorem dL_law_523 : decode cL_law 523 = .ok (.iconst 3, 1) := by decide +kernel
theorem dL_law_524 : decode cL_law 524 = .ok (.iadd, 1) := by decide +kernel
theorem dL_law_525 : decode cL_law 525 = .ok (.iaload, 1) := by decide +kernel
theorem dL_law_526 : decode cL_law 526 = .ok (.invokevirtual 50, 3) := by decide +kernel
theorem dL_law_529 : decode cL_law 529 = .ok (.aload_n 2, 1) := by decide +kernel
theorem dL_law_530 : decode cL_law 530 = .ok (.aload_n 0, 1) := by decide +kernel
theorem dL_law_531 : decode cL_law 531 = .ok (.iload_n 3, 1) := by decide +kernel
theorem dL_law_532 : decode cL_law 532 = .ok (.iconst 1, 1) := by decide +kernel
theorem dL_law_533 : decode cL_law 533 = .ok (.iadd, 1) := by decide +kernel
theorem dL_law_534 : decode cL_law 534 = .ok (.iaload, 1) := by decide +kernel
theorem dL_law_535 : decode cL_law 535 = .ok (.aload_n 0, 1) := by decide +kernel
theorem dL_law_536 : decode cL_law 536 = .ok (.iload_n 3, 1) := by decide +kernel
theorem dL_law_537 : decode cL_law 537 = .ok (.iconst 2, 1) := by decide +kernel
theorem dL_law_538 : decode cL_law 538 = .ok (.iadd, 1) := by decide +kernel
theorem dL_law_539 : decode cL_law 539 = .ok (.iaload, 1) := by decide +kernel
theorem dL_law_540 : decode cL_law 540 = .ok (.aload_n 0, 1) := by decide +kernel
theorem dL_law_541 : decode cL_law 541 = .ok (.iload_n 3, 1) := by decide +kernel
theorem dL_law_542 : decode cL_law 542 = .ok (.iconst 3, 1) := by decide +kernel
theorem dL_law_543 : decode cL_law 543 = .ok (.iadd, 1) := by decide +kernel
theorem dL_law_544 : decode cL_law 544 = .ok (.iaload, 1) := by decide +kernel
theorem dL_law_545 : decode cL_law 545 = .ok (.invokevirtual 53, 3) := by decide +kernel
theorem dL_law_548 : decode cL_law 548 = .ok (.if_icmp .eq 745, 3) := by decide +kernel
theorem dL_law_551 : decode cL_law 551 = .ok (.iconst 0, 1) := by decide +kernel
theorem dL_law_552 : decode cL_law 552 = .ok (.ireturn, 1) := by decide +kernel
theorem dL_law_553 : decode cL_law 553 = .ok (.aload_n 1, 1) := by decide +kernel
theorem dL_law_554 : decode cL_law 554 = .ok (.aload_n 0, 1) := by decide +kernel
theorem dL_law_555 : decode cL_law 555 = .ok (.iload_n 3, 1) := by decide +kernel
theorem dL_law_556 : decode cL_law 556 = .ok (.iconst 1, 1) := by decide +kernel
theorem dL_law_557 : decode cL_law 557 = .ok (.iadd, 1) := by decide +kernel
theorem dL_law_558 : decode cL_law 558 = .ok (.iaload, 1) := by decide +kernel
theorem dL_law_559 : decode cL_law 559 = .ok (.aload_n 0, 1) := by decide +kernel
theorem dL_law_560 : decode cL_law 560 = .ok (.iload_n 3, 1) := by decide +kernel
theorem dL_law_561 : decode cL_law 561 = .ok (.iconst 2, 1) := by decide +kernel
theorem dL_law_562 : decode cL_law 562 = .ok (.iadd, 1) := by decide +kernel
theorem dL_law_563 : decode cL_law 563 = .ok (.iaload, 1) := by decide +kernel
theorem dL_law_564 : decode cL_law 564 = .ok (.aload_n 0, 1) := by decide +kernel
theorem dL_law_565 : decode cL_law 565 = .ok (.iload_n 3, 1) := by decide +kernel
theorem dL_law_566 : decode cL_law 566 = .ok (.iconst 3, 1) := by decide +kernel
theorem dL_law_567 : decode cL_law 567 = .ok (.iadd, 1) := by decide +kernel
theorem dL_law_568 : decode cL_law 568 = .ok (.iaload, 1) := by decide +kernel
theorem dL_law_569 : decode cL_law 569 = .ok (.aload_n 0, 1) := by decide +kernel
theorem dL_law_570 : decode cL_law 570 = .ok (.iload_n 3, 1) := by decide +kernel
theorem dL_law_571 : decode cL_law 571 = .ok (.iconst 4, 1) := by decide +kernel
theorem dL_law_572 : decode cL_law 572 = .ok (.iadd, 1) := by decide +kernel
theorem dL_law_573 : decode cL_law 573 = .ok (.iaload, 1) := by decide +kernel
theorem dL_law_574 : decode cL_law 574 = .ok (.invokevirtual 54, 3) := by decide +kernel
theorem dL_law_577 : decode cL_law 577 = .ok (.aload_n 2, 1) := by decide +kernel
theorem dL_law_578 : decode cL_law 578 = .ok (.aload_n 0, 1) := by decide +kernel
theorem dL_law_579 : decode cL_law 579 = .ok (.iload_n 3, 1) := by decide +kernel
theorem dL_law_580 : decode cL_law 580 = .ok (.iconst 1, 1) := by decide +kernel
theorem dL_law_581 : decode cL_law 581 = .ok (.iadd, 1) := by decide +kernel
theorem dL_law_582 : decode cL_law 582 = .ok (.iaload, 1) := by decide +kernel
theorem dL_law_583 : decode cL_law 583 = .ok (.aload_n 0, 1) := by decide +kernel
theorem dL_law_584 : decode cL_law 584 = .ok (.iload_n 3, 1) := by decide +kernel
theorem dL_law_585 : decode cL_law 585 = .ok (.iconst 2, 1) := by decide +kernel
theorem dL_law_586 : decode cL_law 586 = .ok (.iadd, 1) := by decide +kernel
theorem dL_law_587 : decode cL_law 587 = .ok (.iaload, 1) := by decide +kernel
theorem dL_law_588 : decode cL_law 588 = .ok (.aload_n 0, 1) := by decide +kernel
theorem dL_law_589 : decode cL_law 589 = .ok (.iload_n 3, 1) := by decide +kernel
theorem dL_law_590 : decode cL_law 590 = .ok (.iconst 3, 1) := by decide +kernel
theorem dL_law_591 : decode cL_law 591 = .ok (.iadd, 1) := by decide +kernel
theorem dL_law_592 : decode cL_law 592 = .ok (.iaload, 1) := by decide +kernel
theorem dL_law_593 : decode cL_law 593 = .ok (.aload_n 0, 1) := by decide +kernel
theorem dL_law_594 : decode cL_law 594 = .ok (.iload_n 3, 1) := by decide +kernel
theorem dL_law_595 : decode cL_law 595 = .ok (.iconst 4, 1) := by decide +kernel
theorem dL_law_596 : decode cL_law 596 = .ok (.iadd, 1) := by decide +kernel
theorem dL_law_597 : decode cL_law 597 = .ok (.iaload, 1) := by decide +kernel
theorem dL_law_598 : decode cL_law 598 = .ok (.invokevirtual 58, 3) := by decide +kernel
theorem dL_law_601 : decode cL_law 601 = .ok (.if_icmp .eq 692, 3) := by decide +kernel
theorem dL_law_604 : decode cL_law 604 = .ok (.iconst 0, 1) := by decide +kernel
theorem dL_law_605 : decode cL_law 605 = .ok (.ireturn, 1) := by decide +kernel
theorem dL_law_606 : decode cL_law 606 = .ok (.aload_n 1, 1) := by decide +kernel
theorem dL_law_607 : decode cL_law 607 = .ok (.aload_n 0, 1) := by decide +kernel
theorem dL_law_608 : decode cL_law 608 = .ok (.iload_n 3, 1) := by decide +kernel
theorem dL_law_609 : decode cL_law 609 = .ok (.iconst 1, 1) := by decide +kernel
theorem dL_law_610 : decode cL_law 610 = .ok (.iadd, 1) := by decide +kernel
theorem dL_law_611 : decode cL_law 611 = .ok (.iaload, 1) := by decide +kernel
theorem dL_law_612 : decode cL_law 612 = .ok (.invokevirtual 59, 3) := by decide +kernel
theorem dL_law_615 : decode cL_law 615 = .ok (.aload_n 2, 1) := by decide +kernel
theorem dL_law_616 : decode cL_law 616 = .ok (.aload_n 0, 1) := by decide +kernel
theorem dL_law_617 : decode cL_law 617 = .ok (.iload_n 3, 1) := by decide +kernel
theorem dL_law_618 : decode cL_law 618 = .ok (.iconst 1, 1) := by decide +kernel
theorem dL_law_619 : decode cL_law 619 = .ok (.iadd, 1) := by decide +kernel
theorem dL_law_620 : decode cL_law 620 = .ok (.iaload, 1) := by decide +kernel
theorem dL_law_621 : decode cL_law 621 = .ok (.invokevirtual 62, 3) := by decide +kernel
theorem dL_law_624 : decode cL_law 624 = .ok (.if_icmp .eq 669, 3) := by decide +kernel
theorem dL_law_627 : decode cL_law 627 = .ok (.iconst 0, 1) := by decide +kernel
theorem dL_law_628 : decode cL_law 628 = .ok (.ireturn, 1) := by decide +kernel
theorem dL_law_629 : decode cL_law 629 = .ok (.aload_n 1, 1) := by decide +kernel
theorem dL_law_630 : decode cL_law 630 = .ok (.aload_n 0, 1) := by decide +kernel
theorem dL_law_631 : decode cL_law 631 = .ok (.iload_n 3, 1) := by decide +kernel
theorem dL_law_632 : decode cL_law 632 = .ok (.iconst 1, 1) := by decide +kernel
theorem dL_law_633 : decode cL_law 633 = .ok (.iadd, 1) := by decide +kernel
theorem dL_law_634 : decode cL_law 634 = .ok (.iaload, 1) := by decide +kernel
theorem dL_law_635 : decode cL_law 635 = .ok (.invokevirtual 63, 3) := by decide +kernel
theorem dL_law_638 : decode cL_law 638 = .ok (.aload_n 2, 1) := by decide +kernel
theorem dL_law_639 : decode cL_law 639 = .ok (.aload_n 0, 1) := by decide +kernel
theorem dL_law_640 : decode cL_law 640 = .ok (.iload_n 3, 1) := by decide +kernel
theorem dL_law_641 : decode cL_law 641 = .ok (.iconst 1, 1) := by decide +kernel
theorem dL_law_642 : decode cL_law 642 = .ok (.iadd, 1) := by decide +kernel
theorem dL_law_643 : decode cL_law 643 = .ok (.iaload, 1) := by decide +kernel
theorem dL_law_644 : decode cL_law 644 = .ok (.invokevirtual 66, 3) := by decide +kernel
theorem dL_law_647 : decode cL_law 647 = .ok (.if_icmp .eq 646, 3) := by decide +kernel
theorem dL_law_650 : decode cL_law 650 = .ok (.iconst 0, 1) := by decide +kernel
theorem dL_law_651 : decode cL_law 651 = .ok (.ireturn, 1) := by decide +kernel
theorem dL_law_652 : decode cL_law 652 = .ok (.aload_n 1, 1) := by decide +kernel
theorem dL_law_653 : decode cL_law 653 = .ok (.aload_n 0, 1) := by decide +kernel
theorem dL_law_654 : decode cL_law 654 = .ok (.iload_n 3, 1) := by decide +kernel
theorem dL_law_655 : decode cL_law 655 = .ok (.iconst 1, 1) := by decide +kernel
theorem dL_law_656 : decode cL_law 656 = .ok (.iadd, 1) := by decide +kernel
theorem dL_law_657 : decode cL_law 657 = .ok (.iaload, 1) := by decide +kernel
theorem dL_law_658 : decode cL_law 658 = .ok (.aload_n 0, 1) := by decide +kernel
theorem dL_law_659 : decode cL_law 659 = .ok (.iload_n 3, 1) := by decide +kernel
theorem dL_law_660 : decode cL_law 660 = .ok (.iconst 2, 1) := by decide +kernel
theorem dL_law_661 : decode cL_law 661 = .ok (.iadd, 1) := by decide +kernel
theorem dL_law_662 : decode cL_law 662 = .ok (.iaload, 1) := by decide +kernel
theorem dL_law_663 : decode cL_law 663 = .ok (.invokevirtual 67, 3) := by decide +kernel
theorem dL_law_666 : decode cL_law 666 = .ok (.aload_n 2, 1) := by decide +kernel
theorem dL_law_667 : decode cL_law 667 = .ok (.aload_n 0, 1) := by decide +kernel
theorem dL_law_668 : decode cL_law 668 = .ok (.iload_n 3, 1) := by decide +kernel
theorem dL_law_669 : decode cL_law 669 = .ok (.iconst 1, 1) := by decide +kernel
theorem dL_law_670 : decode cL_law 670 = .ok (.iadd, 1) := by decide +kernel
theorem dL_law_671 : decode cL_law 671 = .ok (.iaload, 1) := by decide +kernel
theorem dL_law_672 : decode cL_law 672 = .ok (.aload_n 0, 1) := by decide +kernel
theorem dL_law_673 : decode cL_law 673 = .ok (.iload_n 3, 1) := by decide +kernel
theorem dL_law_674 : decode cL_law 674 = .ok (.iconst 2, 1) := by decide +kernel
theorem dL_law_675 : decode cL_law 675 = .ok (.iadd, 1) := by decide +kernel
theorem dL_law_676 : decode cL_law 676 = .ok (.iaload, 1) := by decide +kernel
theorem dL_law_677 : decode cL_law 677 = .ok (.invokevirtual 70, 3) := by decide +kernel
theorem dL_law_680 : decode cL_law 680 = .ok (.if_icmp .eq 613, 3) := by decide +kernel
theorem dL_law_683 : decode cL_law 683 = .ok (.iconst 0, 1) := by decide +kernel
theorem dL_law_684 : decode cL_law 684 = .ok (.ireturn, 1) := by decide +kernel
theorem dL_law_685 : decode cL_law 685 = .ok (.aload_n 1, 1) := by decide +kernel
theorem dL_law_686 : decode cL_law 686 = .ok (.aload_n 0, 1) := by decide +kernel
theorem dL_law_687 : decode cL_law 687 = .ok (.iload_n 3, 1) := by decide +kernel
theorem dL_law_688 : decode cL_law 688 = .ok (.iconst 1, 1) := by decide +kernel
theorem dL_law_689 : decode cL_law 689 = .ok (.iadd, 1) := by decide +kernel
theorem dL_law_690 : decode cL_law 690 = .ok (.iaload, 1) := by decide +kernel
theorem dL_law_691 : decode cL_law 691 = .ok (.aload_n 0, 1) := by decide +kernel
theorem dL_law_692 : decode cL_law 692 = .ok (.iload_n 3, 1) := by decide +kernel
theorem dL_law_693 : decode cL_law 693 = .ok (.iconst 2, 1) := by decide +kernel
theorem dL_law_694 : decode cL_law 694 = .ok (.iadd, 1) := by decide +kernel
theorem dL_law_695 : decode cL_law 695 = .ok (.iaload, 1) := by decide +kernel
theorem dL_law_696 : decode cL_law 696 = .ok (.invokevirtual 71, 3) := by decide +kernel
theorem dL_law_699 : decode cL_law 699 = .ok (.aload_n 2, 1) := by decide +kernel
theorem dL_law_700 : decode cL_law 700 = .ok (.aload_n 0, 1) := by decide +kernel
theorem dL_law_701 : decode cL_law 701 = .ok (.iload_n 3, 1) := by decide +kernel
theorem dL_law_702 : decode cL_law 702 = .ok (.iconst 1, 1) := by decide +kernel
theorem dL_law_703 : decode cL_law 703 = .ok (.iadd, 1) := by decide +kernel
theorem dL_law_704 : decode cL_law 704 = .ok (.iaload, 1) := by decide +kernel
theorem dL_law_705 : decode cL_law 705 = .ok (.aload_n 0, 1) := by decide +kernel
theorem dL_law_706 : decode cL_law 706 = .ok (.iload_n 3, 1) := by decide +kernel
theorem dL_law_707 : decode cL_law 707 = .ok (.iconst 2, 1) := by decide +kernel
theorem dL_law_708 : decode cL_law 708 = .ok (.iadd, 1) := by decide +kernel
theorem dL_law_709 : decode cL_law 709 = .ok (.iaload, 1) := by decide +kernel
theorem dL_law_710 : decode cL_law 710 = .ok (.invokevirtual 74, 3) := by decide +kernel
theorem dL_law_713 : decode cL_law 713 = .ok (.if_icmp .eq 580, 3) := by decide +kernel
theorem dL_law_716 : decode cL_law 716 = .ok (.iconst 0, 1) := by decide +kernel
theorem dL_law_717 : decode cL_law 717 = .ok (.ireturn, 1) := by decide +kernel
theorem dL_law_718 : decode cL_law 718 = .ok (.aload_n 1, 1) := by decide +kernel
theorem dL_law_719 : decode cL_law 719 = .ok (.aload_n 0, 1) := by decide +kernel
theorem dL_law_720 : decode cL_law 720 = .ok (.iload_n 3, 1) := by decide +kernel
theorem dL_law_721 : decode cL_law 721 = .ok (.iconst 1, 1) := by decide +kernel
theorem dL_law_722 : decode cL_law 722 = .ok (.iadd, 1) := by decide +kernel
theorem dL_law_723 : decode cL_law 723 = .ok (.iaload, 1) := by decide +kernel
theorem dL_law_724 : decode cL_law 724 = .ok (.invokevirtual 75, 3) := by decide +kernel
theorem dL_law_727 : decode cL_law 727 = .ok (.aload_n 2, 1) := by decide +kernel
theorem dL_law_728 : decode cL_law 728 = .ok (.aload_n 0, 1) := by decide +kernel
theorem dL_law_729 : decode cL_law 729 = .ok (.iload_n 3, 1) := by decide +kernel
theorem dL_law_730 : decode cL_law 730 = .ok (.iconst 1, 1) := by decide +kernel
theorem dL_law_731 : decode cL_law 731 = .ok (.iadd, 1) := by decide +kernel
theorem dL_law_732 : decode cL_law 732 = .ok (.iaload, 1) := by decide +kernel
theorem dL_law_733 : decode cL_law 733 = .ok (.invokevirtual 78, 3) := by decide +kernel
theorem dL_law_736 : decode cL_law 736 = .ok (.if_icmp .eq 557, 3) := by decide +kernel
theorem dL_law_739 : decode cL_law 739 = .ok (.iconst 0, 1) := by decide +kernel
theorem dL_law_740 : decode cL_law 740 = .ok (.ireturn, 1) := by decide +kernel
theorem dL_law_741 : decode cL_law 741 = .ok (.aload_n 1, 1) := by decide +kernel
theorem dL_law_742 : decode cL_law 742 = .ok (.aload_n 0, 1) := by decide +kernel
theorem dL_law_743 : decode cL_law 743 = .ok (.iload_n 3, 1) := by decide +kernel
theorem dL_law_744 : decode cL_law 744 = .ok (.iconst 1, 1) := by decide +kernel
theorem dL_law_745 : decode cL_law 745 = .ok (.iadd, 1) := by decide +kernel
theorem dL_law_746 : decode cL_law 746 = .ok (.iaload, 1) := by decide +kernel
theorem dL_law_747 : decode cL_law 747 = .ok (.invokevirtual 79, 3) := by decide +kernel
theorem dL_law_750 : decode cL_law 750 = .ok (.aload_n 2, 1) := by decide +kernel
theorem dL_law_751 : decode cL_law 751 = .ok (.aload_n 0, 1) := by decide +kernel
theorem dL_law_752 : decode cL_law 752 = .ok (.iload_n 3, 1) := by decide +kernel
theorem dL_law_753 : decode cL_law 753 = .ok (.iconst 1, 1) := by decide +kernel
theorem dL_law_754 : decode cL_law 754 = .ok (.iadd, 1) := by decide +kernel
theorem dL_law_755 : decode cL_law 755 = .ok (.iaload, 1) := by decide +kernel
theorem dL_law_756 : decode cL_law 756 = .ok (.invokevirtual 82, 3) := by decide +kernel
theorem dL_law_759 : decode cL_law 759 = .ok (.if_icmp .eq 534, 3) := by decide +kernel
theorem dL_law_762 : decode cL_law 762 = .ok (.iconst 0, 1) := by decide +kernel
theorem dL_law_763 : decode cL_law 763 = .ok (.ireturn, 1) := by decide +kernel
theorem dL_law_764 : decode cL_law 764 = .ok (.aload_n 1, 1) := by decide +kernel
theorem dL_law_765 : decode cL_law 765 = .ok (.aload_n 0, 1) := by decide +kernel
theorem dL_law_766 : decode cL_law 766 = .ok (.iload_n 3, 1) := by decide +kernel
theorem dL_law_767 : decode cL_law 767 = .ok (.iconst 1, 1) := by decide +kernel
theorem dL_law_768 : decode cL_law 768 = .ok (.iadd, 1) := by decide +kernel
theorem dL_law_769 : decode cL_law 769 = .ok (.iaload, 1) := by decide +kernel
theorem dL_law_770 : decode cL_law 770 = .ok (.aload_n 0, 1) := by decide +kernel
theorem dL_law_771 : decode cL_law 771 = .ok (.iload_n 3, 1) := by decide +kernel
theorem dL_law_772 : decode cL_law 772 = .ok (.iconst 2, 1) := by decide +kernel
theorem dL_law_773 : decode cL_law 773 = .ok (.iadd, 1) := by decide +kernel
theorem dL_law_774 : decode cL_law 774 = .ok (.iaload, 1) := by decide +kernel
theorem dL_law_775 : decode cL_law 775 = .ok (.invokevirtual 83, 3) := by decide +kernel
theorem dL_law_778 : decode cL_law 778 = .ok (.aload_n 2, 1) := by decide +kernel
theorem dL_law_779 : decode cL_law 779 = .ok (.aload_n 0, 1) := by decide +kernel
theorem dL_law_780 : decode cL_law 780 = .ok (.iload_n 3, 1) := by decide +kernel
theorem dL_law_781 : decode cL_law 781 = .ok (.iconst 1, 1) := by decide +kernel
theorem dL_law_782 : decode cL_law 782 = .ok (.iadd, 1) := by decide +kernel
theorem dL_law_783 : decode cL_law 783 = .ok (.iaload, 1) := by decide +kernel
theorem dL_law_784 : decode cL_law 784 = .ok (.aload_n 0, 1) := by decide +kernel
theorem dL_law_785 : decode cL_law 785 = .ok (.iload_n 3, 1) := by decide +kernel
theorem dL_law_786 : decode cL_law 786 = .ok (.iconst 2, 1) := by decide +kernel
theorem dL_law_787 : decode cL_law 787 = .ok (.iadd, 1) := by decide +kernel
theorem dL_law_788 : decode cL_law 788 = .ok (.iaload, 1) := by decide +kernel
theorem dL_law_789 : decode cL_law 789 = .ok (.invokevirtual 86, 3) := by decide +kernel
theorem dL_law_792 : decode cL_law 792 = .ok (.if_icmp .eq 501, 3) := by decide +kernel
theorem dL_law_795 : decode cL_law 795 = .ok (.iconst 0, 1) := by decide +kernel
theorem dL_law_796 : decode cL_law 796 = .ok (.ireturn, 1) := by decide +kernel
theorem dL_law_797 : decode cL_law 797 = .ok (.aload_n 1, 1) := by decide +kernel
theorem dL_law_798 : decode cL_law 798 = .ok (.aload_n 0, 1) := by decide +kernel
theorem dL_law_799 : decode cL_law 799 = .ok (.iload_n 3, 1) := by decide +kernel
theorem dL_law_800 : decode cL_law 800 = .ok (.iconst 1, 1) := by decide +kernel
theorem dL_law_801 : decode cL_law 801 = .ok (.iadd, 1) := by decide +kernel
theorem dL_law_802 : decode cL_law 802 = .ok (.iaload, 1) := by decide +kernel
theorem dL_law_803 : decode cL_law 803 = .ok (.invokevirtual 87, 3) := by decide +kernel
theorem dL_law_806 : decode cL_law 806 = .ok (.aload_n 2, 1) := by decide +kernel
theorem dL_law_807 : decode cL_law 807 = .ok (.aload_n 0, 1) := by decide +kernel
theorem dL_law_808 : decode cL_law 808 = .ok (.iload_n 3, 1) := by decide +kernel
theorem dL_law_809 : decode cL_law 809 = .ok (.iconst 1, 1) := by decide +kernel
theorem dL_law_810 : decode cL_law 810 = .ok (.iadd, 1) := by decide +kernel
theorem dL_law_811 : decode cL_law 811 = .ok (.iaload, 1) := by decide +kernel
theorem dL_law_812 : decode cL_law 812 = .ok (.invokevirtual 90, 3) := by decide +kernel
theorem dL_law_815 : decode cL_law 815 = .ok (.if_icmp .eq 478, 3) := by decide +kernel
theorem dL_law_818 : decode cL_law 818 = .ok (.iconst 0, 1) := by decide +kernel
theorem dL_law_819 : decode cL_law 819 = .ok (.ireturn, 1) := by decide +kernel
theorem dL_law_820 : decode cL_law 820 = .ok (.aload_n 1, 1) := by decide +kernel
theorem dL_law_821 : decode cL_law 821 = .ok (.aload_n 0, 1) := by decide +kernel
theorem dL_law_822 : decode cL_law 822 = .ok (.iload_n 3, 1) := by decide +kernel
theorem dL_law_823 : decode cL_law 823 = .ok (.iconst 1, 1) := by decide +kernel
theorem dL_law_824 : decode cL_law 824 = .ok (.iadd, 1) := by decide +kernel
theorem dL_law_825 : decode cL_law 825 = .ok (.iaload, 1) := by decide +kernel
theorem dL_law_826 : decode cL_law 826 = .ok (.invokevirtual 91, 3) := by decide +kernel
theorem dL_law_829 : decode cL_law 829 = .ok (.aload_n 2, 1) := by decide +kernel
theorem dL_law_830 : decode cL_law 830 = .ok (.aload_n 0, 1) := by decide +kernel
theorem dL_law_831 : decode cL_law 831 = .ok (.iload_n 3, 1) := by decide +kernel
theorem dL_law_832 : decode cL_law 832 = .ok (.iconst 1, 1) := by decide +kernel
theorem dL_law_833 : decode cL_law 833 = .ok (.iadd, 1) := by decide +kernel
theorem dL_law_834 : decode cL_law 834 = .ok (.iaload, 1) := by decide +kernel
theorem dL_law_835 : decode cL_law 835 = .ok (.invokevirtual 94, 3) := by decide +kernel
theorem dL_law_838 : decode cL_law 838 = .ok (.if_icmp .eq 455, 3) := by decide +kernel
theorem dL_law_841 : decode cL_law 841 = .ok (.iconst 0, 1) := by decide +kernel
theorem dL_law_842 : decode cL_law 842 = .ok (.ireturn, 1) := by decide +kernel
theorem dL_law_843 : decode cL_law 843 = .ok (.aload_n 1, 1) := by decide +kernel
theorem dL_law_844 : decode cL_law 844 = .ok (.aload_n 0, 1) := by decide +kernel
theorem dL_law_845 : decode cL_law 845 = .ok (.iload_n 3, 1) := by decide +kernel
theorem dL_law_846 : decode cL_law 846 = .ok (.iconst 1, 1) := by decide +kernel
theorem dL_law_847 : decode cL_law 847 = .ok (.iadd, 1) := by decide +kernel
theorem dL_law_848 : decode cL_law 848 = .ok (.iaload, 1) := by decide +kernel
theorem dL_law_849 : decode cL_law 849 = .ok (.aload_n 0, 1) := by decide +kernel
theorem dL_law_850 : decode cL_law 850 = .ok (.iload_n 3, 1) := by decide +kernel
theorem dL_law_851 : decode cL_law 851 = .ok (.iconst 2, 1) := by decide +kernel
theorem dL_law_852 : decode cL_law 852 = .ok (.iadd, 1) := by decide +kernel
theorem dL_law_853 : decode cL_law 853 = .ok (.iaload, 1) := by decide +kernel
theorem dL_law_854 : decode cL_law 854 = .ok (.invokevirtual 95, 3) := by decide +kernel
theorem dL_law_857 : decode cL_law 857 = .ok (.aload_n 2, 1) := by decide +kernel
theorem dL_law_858 : decode cL_law 858 = .ok (.aload_n 0, 1) := by decide +kernel
theorem dL_law_859 : decode cL_law 859 = .ok (.iload_n 3, 1) := by decide +kernel
theorem dL_law_860 : decode cL_law 860 = .ok (.iconst 1, 1) := by decide +kernel
theorem dL_law_861 : decode cL_law 861 = .ok (.iadd, 1) := by decide +kernel
theorem dL_law_862 : decode cL_law 862 = .ok (.iaload, 1) := by decide +kernel
theorem dL_law_863 : decode cL_law 863 = .ok (.aload_n 0, 1) := by decide +kernel
theorem dL_law_864 : decode cL_law 864 = .ok (.iload_n 3, 1) := by decide +kernel
theorem dL_law_865 : decode cL_law 865 = .ok (.iconst 2, 1) := by decide +kernel
theorem dL_law_866 : decode cL_law 866 = .ok (.iadd, 1) := by decide +kernel
theorem dL_law_867 : decode cL_law 867 = .ok (.iaload, 1) := by decide +kernel
theorem dL_law_868 : decode cL_law 868 = .ok (.invokevirtual 98, 3) := by decide +kernel
theorem dL_law_871 : decode cL_law 871 = .ok (.if_icmp .eq 422, 3) := by decide +kernel
theorem dL_law_874 : decode cL_law 874 = .ok (.iconst 0, 1) := by decide +kernel
theorem dL_law_875 : decode cL_law 875 = .ok (.ireturn, 1) := by decide +kernel
theorem dL_law_876 : decode cL_law 876 = .ok (.aload_n 1, 1) := by decide +kernel
theorem dL_law_877 : decode cL_law 877 = .ok (.aload_n 0, 1) := by decide +kernel
theorem dL_law_878 : decode cL_law 878 = .ok (.iload_n 3, 1) := by decide +kernel
theorem dL_law_879 : decode cL_law 879 = .ok (.iconst 1, 1) := by decide +kernel
theorem dL_law_880 : decode cL_law 880 = .ok (.iadd, 1) := by decide +kernel
theorem dL_law_881 : decode cL_law 881 = .ok (.iaload, 1) := by decide +kernel
theorem dL_law_882 : decode cL_law 882 = .ok (.aload_n 0, 1) := by decide +kernel
theorem dL_law_883 : decode cL_law 883 = .ok (.iload_n 3, 1) := by decide +kernel
theorem dL_law_884 : decode cL_law 884 = .ok (.iconst 2, 1) := by decide +kernel
theorem dL_law_885 : decode cL_law 885 = .ok (.iadd, 1) := by decide +kernel
theorem dL_law_886 : decode cL_law 886 = .ok (.iaload, 1) := by decide +kernel
theorem dL_law_887 : decode cL_law 887 = .ok (.ifCond .eq 7, 3) := by decide +kernel
theorem dL_law_890 : decode cL_law 890 = .ok (.iconst 1, 1) := by decide +kernel
theorem dL_law_891 : decode cL_law 891 = .ok (.goto 4, 3) := by decide +kernel
theorem dL_law_894 : decode cL_law 894 = .ok (.iconst 0, 1) := by decide +kernel
theorem dL_law_895 : decode cL_law 895 = .ok (.invokevirtual 99, 3) := by decide +kernel
theorem dL_law_898 : decode cL_law 898 = .ok (.aload_n 2, 1) := by decide +kernel
theorem dL_law_899 : decode cL_law 899 = .ok (.aload_n 0, 1) := by decide +kernel
theorem dL_law_900 : decode cL_law 900 = .ok (.iload_n 3, 1) := by decide +kernel
theorem dL_law_901 : decode cL_law 901 = .ok (.iconst 1, 1) := by decide +kernel
theorem dL_law_902 : decode cL_law 902 = .ok (.iadd, 1) := by decide +kernel
theorem dL_law_903 : decode cL_law 903 = .ok (.iaload, 1) := by decide +kernel
theorem dL_law_904 : decode cL_law 904 = .ok (.aload_n 0, 1) := by decide +kernel
theorem dL_law_905 : decode cL_law 905 = .ok (.iload_n 3, 1) := by decide +kernel
theorem dL_law_906 : decode cL_law 906 = .ok (.iconst 2, 1) := by decide +kernel
theorem dL_law_907 : decode cL_law 907 = .ok (.iadd, 1) := by decide +kernel
theorem dL_law_908 : decode cL_law 908 = .ok (.iaload, 1) := by decide +kernel
theorem dL_law_909 : decode cL_law 909 = .ok (.ifCond .eq 7, 3) := by decide +kernel
theorem dL_law_912 : decode cL_law 912 = .ok (.iconst 1, 1) := by decide +kernel
theorem dL_law_913 : decode cL_law 913 = .ok (.goto 4, 3) := by decide +kernel
theorem dL_law_916 : decode cL_law 916 = .ok (.iconst 0, 1) := by decide +kernel
theorem dL_law_917 : decode cL_law 917 = .ok (.invokevirtual 102, 3) := by decide +kernel
theorem dL_law_920 : decode cL_law 920 = .ok (.if_icmp .eq 373, 3) := by decide +kernel
theorem dL_law_923 : decode cL_law 923 = .ok (.iconst 0, 1) := by decide +kernel
theorem dL_law_924 : decode cL_law 924 = .ok (.ireturn, 1) := by decide +kernel
theorem dL_law_925 : decode cL_law 925 = .ok (.aload_n 1, 1) := by decide +kernel
theorem dL_law_926 : decode cL_law 926 = .ok (.aload_n 0, 1) := by decide +kernel
theorem dL_law_927 : decode cL_law 927 = .ok (.iload_n 3, 1) := by decide +kernel
theorem dL_law_928 : decode cL_law 928 = .ok (.iconst 1, 1) := by decide +kernel
theorem dL_law_929 : decode cL_law 929 = .ok (.iadd, 1) := by decide +kernel
theorem dL_law_930 : decode cL_law 930 = .ok (.iaload, 1) := by decide +kernel
theorem dL_law_931 : decode cL_law 931 = .ok (.aload_n 0, 1) := by decide +kernel
theorem dL_law_932 : decode cL_law 932 = .ok (.iload_n 3, 1) := by decide +kernel
theorem dL_law_933 : decode cL_law 933 = .ok (.iconst 2, 1) := by decide +kernel
theorem dL_law_934 : decode cL_law 934 = .ok (.iadd, 1) := by decide +kernel
theorem dL_law_935 : decode cL_law 935 = .ok (.iaload, 1) := by decide +kernel
theorem dL_law_936 : decode cL_law 936 = .ok (.invokevirtual 103, 3) := by decide +kernel
theorem dL_law_939 : decode cL_law 939 = .ok (.aload_n 2, 1) := by decide +kernel
theorem dL_law_940 : decode cL_law 940 = .ok (.aload_n 0, 1) := by decide +kernel
theorem dL_law_941 : decode cL_law 941 = .ok (.iload_n 3, 1) := by decide +kernel
theorem dL_law_942 : decode cL_law 942 = .ok (.iconst 1, 1) := by decide +kernel
theorem dL_law_943 : decode cL_law 943 = .ok (.iadd, 1) := by decide +kernel
theorem dL_law_944 : decode cL_law 944 = .ok (.iaload, 1) := by decide +kernel
theorem dL_law_945 : decode cL_law 945 = .ok (.aload_n 0, 1) := by decide +kernel
theorem dL_law_946 : decode cL_law 946 = .ok (.iload_n 3, 1) := by decide +kernel
theorem dL_law_947 : decode cL_law 947 = .ok (.iconst 2, 1) := by decide +kernel
theorem dL_law_948 : decode cL_law 948 = .ok (.iadd, 1) := by decide +kernel
theorem dL_law_949 : decode cL_law 949 = .ok (.iaload, 1) := by decide +kernel
theorem dL_law_950 : decode cL_law 950 = .ok (.invokevirtual 106, 3) := by decide +kernel
theorem dL_law_953 : decode cL_law 953 = .ok (.if_icmp .eq 340, 3) := by decide +kernel
theorem dL_law_956 : decode cL_law 956 = .ok (.iconst 0, 1) := by decide +kernel
theorem dL_law_957 : decode cL_law 957 = .ok (.ireturn, 1) := by decide +kernel
theorem dL_law_958 : decode cL_law 958 = .ok (.aload_n 1, 1) := by decide +kernel
theorem dL_law_959 : decode cL_law 959 = .ok (.invokevirtual 107, 3) := by decide +kernel
theorem dL_law_962 : decode cL_law 962 = .ok (.aload_n 2, 1) := by decide +kernel
theorem dL_law_963 : decode cL_law 963 = .ok (.invokevirtual 111, 3) := by decide +kernel
theorem dL_law_966 : decode cL_law 966 = .ok (.if_icmp .eq 327, 3) := by decide +kernel
theorem dL_law_969 : decode cL_law 969 = .ok (.iconst 0, 1) := by decide +kernel
theorem dL_law_970 : decode cL_law 970 = .ok (.ireturn, 1) := by decide +kernel
theorem dL_law_971 : decode cL_law 971 = .ok (.aload_n 1, 1) := by decide +kernel
theorem dL_law_972 : decode cL_law 972 = .ok (.aload_n 0, 1) := by decide +kernel
theorem dL_law_973 : decode cL_law 973 = .ok (.iload_n 3, 1) := by decide +kernel
theorem dL_law_974 : decode cL_law 974 = .ok (.iconst 1, 1) := by decide +kernel
theorem dL_law_975 : decode cL_law 975 = .ok (.iadd, 1) := by decide +kernel
theorem dL_law_976 : decode cL_law 976 = .ok (.iaload, 1) := by decide +kernel
theorem dL_law_977 : decode cL_law 977 = .ok (.invokevirtual 112, 3) := by decide +kernel
theorem dL_law_980 : decode cL_law 980 = .ok (.aload_n 2, 1) := by decide +kernel
theorem dL_law_981 : decode cL_law 981 = .ok (.aload_n 0, 1) := by decide +kernel
theorem dL_law_982 : decode cL_law 982 = .ok (.iload_n 3, 1) := by decide +kernel
theorem dL_law_983 : decode cL_law 983 = .ok (.iconst 1, 1) := by decide +kernel
theorem dL_law_984 : decode cL_law 984 = .ok (.iadd, 1) := by decide +kernel
theorem dL_law_985 : decode cL_law 985 = .ok (.iaload, 1) := by decide +kernel
theorem dL_law_986 : decode cL_law 986 = .ok (.invokevirtual 115, 3) := by decide +kernel
theorem dL_law_989 : decode cL_law 989 = .ok (.if_icmp .eq 304, 3) := by decide +kernel
theorem dL_law_992 : decode cL_law 992 = .ok (.iconst 0, 1) := by decide +kernel
theorem dL_law_993 : decode cL_law 993 = .ok (.ireturn, 1) := by decide +kernel
theorem dL_law_994 : decode cL_law 994 = .ok (.aload_n 1, 1) := by decide +kernel
theorem dL_law_995 : decode cL_law 995 = .ok (.aload_n 0, 1) := by decide +kernel
theorem dL_law_996 : decode cL_law 996 = .ok (.iload_n 3, 1) := by decide +kernel
theorem dL_law_997 : decode cL_law 997 = .ok (.iconst 1, 1) := by decide +kernel
theorem dL_law_998 : decode cL_law 998 = .ok (.iadd, 1) := by decide +kernel
theorem dL_law_999 : decode cL_law 999 = .ok (.iaload, 1) := by decide +kernel
theorem dL_law_1000 : decode cL_law 1000 = .ok (.invokevirtual 116, 3) := by decide +kernel
theorem dL_law_1003 : decode cL_law 1003 = .ok (.aload_n 2, 1) := by decide +kernel
theorem dL_law_1004 : decode cL_law 1004 = .ok (.aload_n 0, 1) := by decide +kernel
theorem dL_law_1005 : decode cL_law 1005 = .ok (.iload_n 3, 1) := by decide +kernel
theorem dL_law_1006 : decode cL_law 1006 = .ok (.iconst 1, 1) := by decide +kernel
theorem dL_law_1007 : decode cL_law 1007 = .ok (.iadd, 1) := by decide +kernel
theorem dL_law_1008 : decode cL_law 1008 = .ok (.iaload, 1) := by decide +kernel
theorem dL_law_1009 : decode cL_law 1009 = .ok (.invokevirtual 119, 3) := by decide +kernel
theorem dL_law_1012 : decode cL_law 1012 = .ok (.if_icmp .eq 281, 3) := by decide +kernel
theorem dL_law_1015 : decode cL_law 1015 = .ok (.iconst 0, 1) := by decide +kernel
theorem dL_law_1016 : decode cL_law 1016 = .ok (.ireturn, 1) := by decide +kernel
theorem dL_law_1017 : decode cL_law 1017 = .ok (.aload_n 1, 1) := by decide +kernel
theorem dL_law_1018 : decode cL_law 1018 = .ok (.aload_n 0, 1) := by decide +kernel
theorem dL_law_1019 : decode cL_law 1019 = .ok (.iload_n 3, 1) := by decide +kernel
theorem dL_law_1020 : decode cL_law 1020 = .ok (.iconst 1, 1) := by decide +kernel
theorem dL_law_1021 : decode cL_law 1021 = .ok (.iadd, 1) := by decide +kernel
theorem dL_law_1022 : decode cL_law 1022 = .ok (.iaload, 1) := by decide +kernel
theorem dL_law_1023 : decode cL_law 1023 = .ok (.aload_n 0, 1) := by decide +kernel
theorem dL_law_1024 : decode cL_law 1024 = .ok (.iload_n 3, 1) := by decide +kernel
theorem dL_law_1025 : decode cL_law 1025 = .ok (.iconst 2, 1) := by decide +kernel
theorem dL_law_1026 : decode cL_law 1026 = .ok (.iadd, 1) := by decide +kernel
theorem dL_law_1027 : decode cL_law 1027 = .ok (.iaload, 1) := by decide +kernel
theorem dL_law_1028 : decode cL_law 1028 = .ok (.aload_n 0, 1) := by decide +kernel
theorem dL_law_1029 : decode cL_law 1029 = .ok (.iload_n 3, 1) := by decide +kernel
theorem dL_law_1030 : decode cL_law 1030 = .ok (.iconst 3, 1) := by decide +kernel
theorem dL_law_1031 : decode cL_law 1031 = .ok (.iadd, 1) := by decide +kernel
theorem dL_law_1032 : decode cL_law 1032 = .ok (.iaload, 1) := by decide +kernel
theorem dL_law_1033 : decode cL_law 1033 = .ok (.invokevirtual 120, 3) := by decide +kernel
theorem dL_law_1036 : decode cL_law 1036 = .ok (.aload_n 2, 1) := by decide +kernel
theorem dL_law_1037 : decode cL_law 1037 = .ok (.aload_n 0, 1) := by decide +kernel
theorem dL_law_1038 : decode cL_law 1038 = .ok (.iload_n 3, 1) := by decide +kernel
theorem dL_law_1039 : decode cL_law 1039 = .ok (.iconst 1, 1) := by decide +kernel
theorem dL_law_1040 : decode cL_law 1040 = .ok (.iadd, 1) := by decide +kernel
theorem dL_law_1041 : decode cL_law 1041 = .ok (.iaload, 1) := by decide +kernel
theorem dL_law_1042 : decode cL_law 1042 = .ok (.aload_n 0, 1) := by decide +kernel
theorem dL_law_1043 : decode cL_law 1043 = .ok (.iload_n 3, 1) := by decide +kernel
theorem dL_law_1044 : decode cL_law 1044 = .ok (.iconst 2, 1) := by decide +kernel
theorem dL_law_1045 : decode cL_law 1045 = .ok (.iadd, 1) := by decide +kernel
theorem dL_law_1046 : decode cL_law 1046 = .ok (.iaload, 1) := by decide +kernel
theorem dL_law_1047 : decode cL_law 1047 = .ok (.aload_n 0, 1) := by decide +kernel
theorem dL_law_1048 : decode cL_law 1048 = .ok (.iload_n 3, 1) := by decide +kernel
theorem dL_law_1049 : decode cL_law 1049 = .ok (.iconst 3, 1) := by decide +kernel
theorem dL_law_1050 : decode cL_law 1050 = .ok (.iadd, 1) := by decide +kernel
theorem dL_law_1051 : decode cL_law 1051 = .ok (.iaload, 1) := by decide +kernel
theorem dL_law_1052 : decode cL_law 1052 = .ok (.invokevirtual 123, 3) := by decide +kernel
theorem dL_law_1055 : decode cL_law 1055 = .ok (.if_icmp .eq 238, 3) := by decide +kernel
theorem dL_law_1058 : decode cL_law 1058 = .ok (.iconst 0, 1) := by decide +kernel
theorem dL_law_1059 : decode cL_law 1059 = .ok (.ireturn, 1) := by decide +kernel
theorem dL_law_1060 : decode cL_law 1060 = .ok (.aload_n 1, 1) := by decide +kernel
theorem dL_law_1061 : decode cL_law 1061 = .ok (.aload_n 0, 1) := by decide +kernel
theorem dL_law_1062 : decode cL_law 1062 = .ok (.iload_n 3, 1) := by decide +kernel
theorem dL_law_1063 : decode cL_law 1063 = .ok (.iconst 1, 1) := by decide +kernel
theorem dL_law_1064 : decode cL_law 1064 = .ok (.iadd, 1) := by decide +kernel
theorem dL_law_1065 : decode cL_law 1065 = .ok (.iaload, 1) := by decide +kernel
theorem dL_law_1066 : decode cL_law 1066 = .ok (.aload_n 0, 1) := by decide +kernel
theorem dL_law_1067 : decode cL_law 1067 = .ok (.iload_n 3, 1) := by decide +kernel
theorem dL_law_1068 : decode cL_law 1068 = .ok (.iconst 2, 1) := by decide +kernel
theorem dL_law_1069 : decode cL_law 1069 = .ok (.iadd, 1) := by decide +kernel
theorem dL_law_1070 : decode cL_law 1070 = .ok (.iaload, 1) := by decide +kernel
theorem dL_law_1071 : decode cL_law 1071 = .ok (.invokevirtual 124, 3) := by decide +kernel
theorem dL_law_1074 : decode cL_law 1074 = .ok (.aload_n 2, 1) := by decide +kernel
theorem dL_law_1075 : decode cL_law 1075 = .ok (.aload_n 0, 1) := by decide +kernel
theorem dL_law_1076 : decode cL_law 1076 = .ok (.iload_n 3, 1) := by decide +kernel
theorem dL_law_1077 : decode cL_law 1077 = .ok (.iconst 1, 1) := by decide +kernel
theorem dL_law_1078 : decode cL_law 1078 = .ok (.iadd, 1) := by decide +kernel
theorem dL_law_1079 : decode cL_law 1079 = .ok (.iaload, 1) := by decide +kernel
theorem dL_law_1080 : decode cL_law 1080 = .ok (.aload_n 0, 1) := by decide +kernel
theorem dL_law_1081 : decode cL_law 1081 = .ok (.iload_n 3, 1) := by decide +kernel
theorem dL_law_1082 : decode cL_law 1082 = .ok (.iconst 2, 1) := by decide +kernel
theorem dL_law_1083 : decode cL_law 1083 = .ok (.iadd, 1) := by decide +kernel
theorem dL_law_1084 : decode cL_law 1084 = .ok (.iaload, 1) := by decide +kernel
theorem dL_law_1085 : decode cL_law 1085 = .ok (.invokevirtual 127, 3) := by decide +kernel
theorem dL_law_1088 : decode cL_law 1088 = .ok (.if_icmp .eq 205, 3) := by decide +kernel
theorem dL_law_1091 : decode cL_law 1091 = .ok (.iconst 0, 1) := by decide +kernel
theorem dL_law_1092 : decode cL_law 1092 = .ok (.ireturn, 1) := by decide +kernel
theorem dL_law_1093 : decode cL_law 1093 = .ok (.aload_n 1, 1) := by decide +kernel
theorem dL_law_1094 : decode cL_law 1094 = .ok (.aload_n 0, 1) := by decide +kernel
theorem dL_law_1095 : decode cL_law 1095 = .ok (.iload_n 3, 1) := by decide +kernel
theorem dL_law_1096 : decode cL_law 1096 = .ok (.iconst 1, 1) := by decide +kernel
theorem dL_law_1097 : decode cL_law 1097 = .ok (.iadd, 1) := by decide +kernel
theorem dL_law_1098 : decode cL_law 1098 = .ok (.iaload, 1) := by decide +kernel
theorem dL_law_1099 : decode cL_law 1099 = .ok (.invokevirtual 128, 3) := by decide +kernel
theorem dL_law_1102 : decode cL_law 1102 = .ok (.aload_n 2, 1) := by decide +kernel
theorem dL_law_1103 : decode cL_law 1103 = .ok (.aload_n 0, 1) := by decide +kernel
theorem dL_law_1104 : decode cL_law 1104 = .ok (.iload_n 3, 1) := by decide +kernel
theorem dL_law_1105 : decode cL_law 1105 = .ok (.iconst 1, 1) := by decide +kernel
theorem dL_law_1106 : decode cL_law 1106 = .ok (.iadd, 1) := by decide +kernel
theorem dL_law_1107 : decode cL_law 1107 = .ok (.iaload, 1) := by decide +kernel
theorem dL_law_1108 : decode cL_law 1108 = .ok (.invokevirtual 131, 3) := by decide +kernel
theorem dL_law_1111 : decode cL_law 1111 = .ok (.if_icmp .eq 182, 3) := by decide +kernel
theorem dL_law_1114 : decode cL_law 1114 = .ok (.iconst 0, 1) := by decide +kernel
theorem dL_law_1115 : decode cL_law 1115 = .ok (.ireturn, 1) := by decide +kernel
theorem dL_law_1116 : decode cL_law 1116 = .ok (.aload_n 1, 1) := by decide +kernel
theorem dL_law_1117 : decode cL_law 1117 = .ok (.invokevirtual 132, 3) := by decide +kernel
theorem dL_law_1120 : decode cL_law 1120 = .ok (.aload_n 2, 1) := by decide +kernel
theorem dL_law_1121 : decode cL_law 1121 = .ok (.invokevirtual 135, 3) := by decide +kernel
theorem dL_law_1124 : decode cL_law 1124 = .ok (.if_icmp .eq 169, 3) := by decide +kernel
theorem dL_law_1127 : decode cL_law 1127 = .ok (.iconst 0, 1) := by decide +kernel
theorem dL_law_1128 : decode cL_law 1128 = .ok (.ireturn, 1) := by decide +kernel
theorem dL_law_1129 : decode cL_law 1129 = .ok (.aload_n 1, 1) := by decide +kernel
theorem dL_law_1130 : decode cL_law 1130 = .ok (.aload_n 0, 1) := by decide +kernel
theorem dL_law_1131 : decode cL_law 1131 = .ok (.iload_n 3, 1) := by decide +kernel
theorem dL_law_1132 : decode cL_law 1132 = .ok (.iconst 1, 1) := by decide +kernel
theorem dL_law_1133 : decode cL_law 1133 = .ok (.iadd, 1) := by decide +kernel
theorem dL_law_1134 : decode cL_law 1134 = .ok (.iaload, 1) := by decide +kernel
theorem dL_law_1135 : decode cL_law 1135 = .ok (.invokevirtual 136, 3) := by decide +kernel
theorem dL_law_1138 : decode cL_law 1138 = .ok (.aload_n 2, 1) := by decide +kernel
theorem dL_law_1139 : decode cL_law 1139 = .ok (.aload_n 0, 1) := by decide +kernel
theorem dL_law_1140 : decode cL_law 1140 = .ok (.iload_n 3, 1) := by decide +kernel
theorem dL_law_1141 : decode cL_law 1141 = .ok (.iconst 1, 1) := by decide +kernel
theorem dL_law_1142 : decode cL_law 1142 = .ok (.iadd, 1) := by decide +kernel
theorem dL_law_1143 : decode cL_law 1143 = .ok (.iaload, 1) := by decide +kernel
theorem dL_law_1144 : decode cL_law 1144 = .ok (.invokevirtual 139, 3) := by decide +kernel
theorem dL_law_1147 : decode cL_law 1147 = .ok (.if_icmp .eq 146, 3) := by decide +kernel
theorem dL_law_1150 : decode cL_law 1150 = .ok (.iconst 0, 1) := by decide +kernel
theorem dL_law_1151 : decode cL_law 1151 = .ok (.ireturn, 1) := by decide +kernel
theorem dL_law_1152 : decode cL_law 1152 = .ok (.aload_n 1, 1) := by decide +kernel
theorem dL_law_1153 : decode cL_law 1153 = .ok (.aload_n 0, 1) := by decide +kernel
theorem dL_law_1154 : decode cL_law 1154 = .ok (.iload_n 3, 1) := by decide +kernel
theorem dL_law_1155 : decode cL_law 1155 = .ok (.iconst 1, 1) := by decide +kernel
theorem dL_law_1156 : decode cL_law 1156 = .ok (.iadd, 1) := by decide +kernel
theorem dL_law_1157 : decode cL_law 1157 = .ok (.iaload, 1) := by decide +kernel
theorem dL_law_1158 : decode cL_law 1158 = .ok (.aload_n 0, 1) := by decide +kernel
theorem dL_law_1159 : decode cL_law 1159 = .ok (.iload_n 3, 1) := by decide +kernel
theorem dL_law_1160 : decode cL_law 1160 = .ok (.iconst 2, 1) := by decide +kernel
theorem dL_law_1161 : decode cL_law 1161 = .ok (.iadd, 1) := by decide +kernel
theorem dL_law_1162 : decode cL_law 1162 = .ok (.iaload, 1) := by decide +kernel
theorem dL_law_1163 : decode cL_law 1163 = .ok (.invokevirtual 140, 3) := by decide +kernel
theorem dL_law_1166 : decode cL_law 1166 = .ok (.aload_n 2, 1) := by decide +kernel
theorem dL_law_1167 : decode cL_law 1167 = .ok (.aload_n 0, 1) := by decide +kernel
theorem dL_law_1168 : decode cL_law 1168 = .ok (.iload_n 3, 1) := by decide +kernel
theorem dL_law_1169 : decode cL_law 1169 = .ok (.iconst 1, 1) := by decide +kernel
theorem dL_law_1170 : decode cL_law 1170 = .ok (.iadd, 1) := by decide +kernel
theorem dL_law_1171 : decode cL_law 1171 = .ok (.iaload, 1) := by decide +kernel
theorem dL_law_1172 : decode cL_law 1172 = .ok (.aload_n 0, 1) := by decide +kernel
theorem dL_law_1173 : decode cL_law 1173 = .ok (.iload_n 3, 1) := by decide +kernel
theorem dL_law_1174 : decode cL_law 1174 = .ok (.iconst 2, 1) := by decide +kernel
theorem dL_law_1175 : decode cL_law 1175 = .ok (.iadd, 1) := by decide +kernel
theorem dL_law_1176 : decode cL_law 1176 = .ok (.iaload, 1) := by decide +kernel
theorem dL_law_1177 : decode cL_law 1177 = .ok (.invokevirtual 143, 3) := by decide +kernel
theorem dL_law_1180 : decode cL_law 1180 = .ok (.if_icmp .eq 113, 3) := by decide +kernel
theorem dL_law_1183 : decode cL_law 1183 = .ok (.iconst 0, 1) := by decide +kernel
theorem dL_law_1184 : decode cL_law 1184 = .ok (.ireturn, 1) := by decide +kernel
theorem dL_law_1185 : decode cL_law 1185 = .ok (.aload_n 1, 1) := by decide +kernel
theorem dL_law_1186 : decode cL_law 1186 = .ok (.invokevirtual 144, 3) := by decide +kernel
theorem dL_law_1189 : decode cL_law 1189 = .ok (.aload_n 2, 1) := by decide +kernel
theorem dL_law_1190 : decode cL_law 1190 = .ok (.invokevirtual 147, 3) := by decide +kernel
theorem dL_law_1193 : decode cL_law 1193 = .ok (.if_icmp .eq 100, 3) := by decide +kernel
theorem dL_law_1196 : decode cL_law 1196 = .ok (.iconst 0, 1) := by decide +kernel
theorem dL_law_1197 : decode cL_law 1197 = .ok (.ireturn, 1) := by decide +kernel
theorem dL_law_1198 : decode cL_law 1198 = .ok (.aload_n 1, 1) := by decide +kernel
theorem dL_law_1199 : decode cL_law 1199 = .ok (.aload_n 0, 1) := by decide +kernel
theorem dL_law_1200 : decode cL_law 1200 = .ok (.iload_n 3, 1) := by decide +kernel
theorem dL_law_1201 : decode cL_law 1201 = .ok (.iconst 1, 1) := by decide +kernel
theorem dL_law_1202 : decode cL_law 1202 = .ok (.iadd, 1) := by decide +kernel
theorem dL_law_1203 : decode cL_law 1203 = .ok (.iaload, 1) := by decide +kernel
theorem dL_law_1204 : decode cL_law 1204 = .ok (.aload_n 0, 1) := by decide +kernel
theorem dL_law_1205 : decode cL_law 1205 = .ok (.iload_n 3, 1) := by decide +kernel
theorem dL_law_1206 : decode cL_law 1206 = .ok (.iconst 2, 1) := by decide +kernel
theorem dL_law_1207 : decode cL_law 1207 = .ok (.iadd, 1) := by decide +kernel
theorem dL_law_1208 : decode cL_law 1208 = .ok (.iaload, 1) := by decide +kernel
theorem dL_law_1209 : decode cL_law 1209 = .ok (.ifCond .eq 7, 3) := by decide +kernel
theorem dL_law_1212 : decode cL_law 1212 = .ok (.iconst 1, 1) := by decide +kernel
theorem dL_law_1213 : decode cL_law 1213 = .ok (.goto 4, 3) := by decide +kernel
theorem dL_law_1216 : decode cL_law 1216 = .ok (.iconst 0, 1) := by decide +kernel
theorem dL_law_1217 : decode cL_law 1217 = .ok (.invokevirtual 148, 3) := by decide +kernel
theorem dL_law_1220 : decode cL_law 1220 = .ok (.aload_n 2, 1) := by decide +kernel
theorem dL_law_1221 : decode cL_law 1221 = .ok (.aload_n 0, 1) := by decide +kernel
theorem dL_law_1222 : decode cL_law 1222 = .ok (.iload_n 3, 1) := by decide +kernel
theorem dL_law_1223 : decode cL_law 1223 = .ok (.iconst 1, 1) := by decide +kernel
theorem dL_law_1224 : decode cL_law 1224 = .ok (.iadd, 1) := by decide +kernel
theorem dL_law_1225 : decode cL_law 1225 = .ok (.iaload, 1) := by decide +kernel
theorem dL_law_1226 : decode cL_law 1226 = .ok (.aload_n 0, 1) := by decide +kernel
theorem dL_law_1227 : decode cL_law 1227 = .ok (.iload_n 3, 1) := by decide +kernel
theorem dL_law_1228 : decode cL_law 1228 = .ok (.iconst 2, 1) := by decide +kernel
theorem dL_law_1229 : decode cL_law 1229 = .ok (.iadd, 1) := by decide +kernel
theorem dL_law_1230 : decode cL_law 1230 = .ok (.iaload, 1) := by decide +kernel
theorem dL_law_1231 : decode cL_law 1231 = .ok (.ifCond .eq 7, 3) := by decide +kernel
theorem dL_law_1234 : decode cL_law 1234 = .ok (.iconst 1, 1) := by decide +kernel
theorem dL_law_1235 : decode cL_law 1235 = .ok (.goto 4, 3) := by decide +kernel
theorem dL_law_1238 : decode cL_law 1238 = .ok (.iconst 0, 1) := by decide +kernel
theorem dL_law_1239 : decode cL_law 1239 = .ok (.invokevirtual 151, 3) := by decide +kernel
theorem dL_law_1242 : decode cL_law 1242 = .ok (.if_icmp .eq 51, 3) := by decide +kernel
theorem dL_law_1245 : decode cL_law 1245 = .ok (.iconst 0, 1) := by decide +kernel
theorem dL_law_1246 : decode cL_law 1246 = .ok (.ireturn, 1) := by decide +kernel
theorem dL_law_1247 : decode cL_law 1247 = .ok (.aload_n 1, 1) := by decide +kernel
theorem dL_law_1248 : decode cL_law 1248 = .ok (.aload_n 0, 1) := by decide +kernel
theorem dL_law_1249 : decode cL_law 1249 = .ok (.iload_n 3, 1) := by decide +kernel
theorem dL_law_1250 : decode cL_law 1250 = .ok (.iconst 1, 1) := by decide +kernel
theorem dL_law_1251 : decode cL_law 1251 = .ok (.iadd, 1) := by decide +kernel
theorem dL_law_1252 : decode cL_law 1252 = .ok (.iaload, 1) := by decide +kernel
theorem dL_law_1253 : decode cL_law 1253 = .ok (.invokevirtual 152, 3) := by decide +kernel
theorem dL_law_1256 : decode cL_law 1256 = .ok (.aload_n 2, 1) := by decide +kernel
theorem dL_law_1257 : decode cL_law 1257 = .ok (.aload_n 0, 1) := by decide +kernel
theorem dL_law_1258 : decode cL_law 1258 = .ok (.iload_n 3, 1) := by decide +kernel
theorem dL_law_1259 : decode cL_law 1259 = .ok (.iconst 1, 1) := by decide +kernel
theorem dL_law_1260 : decode cL_law 1260 = .ok (.iadd, 1) := by decide +kernel
theorem dL_law_1261 : decode cL_law 1261 = .ok (.iaload, 1) := by decide +kernel
theorem dL_law_1262 : decode cL_law 1262 = .ok (.invokevirtual 155, 3) := by decide +kernel
theorem dL_law_1265 : decode cL_law 1265 = .ok (.if_icmp .eq 28, 3) := by decide +kernel
theorem dL_law_1268 : decode cL_law 1268 = .ok (.iconst 0, 1) := by decide +kernel
theorem dL_law_1269 : decode cL_law 1269 = .ok (.ireturn, 1) := by decide +kernel
theorem dL_law_1270 : decode cL_law 1270 = .ok (.aload_n 1, 1) := by decide +kernel
theorem dL_law_1271 : decode cL_law 1271 = .ok (.aload_n 0, 1) := by decide +kernel
theorem dL_law_1272 : decode cL_law 1272 = .ok (.iload_n 3, 1) := by decide +kernel
theorem dL_law_1273 : decode cL_law 1273 = .ok (.iconst 1, 1) := by decide +kernel
theorem dL_law_1274 : decode cL_law 1274 = .ok (.iadd, 1) := by decide +kernel
theorem dL_law_1275 : decode cL_law 1275 = .ok (.iaload, 1) := by decide +kernel
theorem dL_law_1276 : decode cL_law 1276 = .ok (.invokevirtual 156, 3) := by decide +kernel
theorem dL_law_1279 : decode cL_law 1279 = .ok (.aload_n 2, 1) := by decide +kernel
theorem dL_law_1280 : decode cL_law 1280 = .ok (.aload_n 0, 1) := by decide +kernel
theorem dL_law_1281 : decode cL_law 1281 = .ok (.iload_n 3, 1) := by decide +kernel
theorem dL_law_1282 : decode cL_law 1282 = .ok (.iconst 1, 1) := by decide +kernel
theorem dL_law_1283 : decode cL_law 1283 = .ok (.iadd, 1) := by decide +kernel
theorem dL_law_1284 : decode cL_law 1284 = .ok (.iaload, 1) := by decide +kernel
theorem dL_law_1285 : decode cL_law 1285 = .ok (.invokevirtual 159, 3) := by decide +kernel
theorem dL_law_1288 : decode cL_law 1288 = .ok (.if_icmp .eq 5, 3) := by decide +kernel
theorem dL_law_1291 : decode cL_law 1291 = .ok (.iconst 0, 1) := by decide +kernel
theorem dL_law_1292 : decode cL_law 1292 = .ok (.ireturn, 1) := by decide +kernel
theorem dL_law_1293 : decode cL_law 1293 = .ok (.iinc 3 6, 3) := by decide +kernel
theorem dL_law_1296 : decode cL_law 1296 = .ok (.goto (-1278), 3) := by decide +kernel
theorem dL_law_1299 : decode cL_law 1299 = .ok (.iconst 1, 1) := by decide +kernel
theorem dL_law_1300 : decode cL_law 1300 = .ok (.ireturn, 1) := by decide +kernel
