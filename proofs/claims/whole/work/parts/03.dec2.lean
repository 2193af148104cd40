theorem dX12_init_0 : decode cX12_init 0 = .ok (.aload_n 0, 1) := by decide +kernel
theorem dX12_init_1 : decode cX12_init 1 = .ok (.invokespecial 1, 3) := by decide +kernel
theorem dX12_init_4 : decode cX12_init 4 = .ok (.aload_n 0, 1) := by decide +kernel
theorem dX12_init_5 : decode cX12_init 5 = .ok (.bipush 10, 2) := by decide +kernel
theorem dX12_init_7 : decode cX12_init 7 = .ok (.newarray .int, 2) := by decide +kernel
theorem dX12_init_9 : decode cX12_init 9 = .ok (.putfield 7, 3) := by decide +kernel
theorem dX12_init_12 : decode cX12_init 12 = .ok (.aload_n 0, 1) := by decide +kernel
theorem dX12_init_13 : decode cX12_init 13 = .ok (.sipush 368, 3) := by decide +kernel
theorem dX12_init_16 : decode cX12_init 16 = .ok (.newarray .int, 2) := by decide +kernel
theorem dX12_init_18 : decode cX12_init 18 = .ok (.putfield 13, 3) := by decide +kernel
theorem dX12_init_21 : decode cX12_init 21 = .ok (.aload_n 0, 1) := by decide +kernel
theorem dX12_init_22 : decode cX12_init 22 = .ok (.sipush 368, 3) := by decide +kernel
theorem dX12_init_25 : decode cX12_init 25 = .ok (.newarray .int, 2) := by decide +kernel
theorem dX12_init_27 : decode cX12_init 27 = .ok (.putfield 16, 3) := by decide +kernel
theorem dX12_init_30 : decode cX12_init 30 = .ok (.aload_n 0, 1) := by decide +kernel
theorem dX12_init_31 : decode cX12_init 31 = .ok (.sipush 14720, 3) := by decide +kernel
theorem dX12_init_34 : decode cX12_init 34 = .ok (.newarray .int, 2) := by decide +kernel
theorem dX12_init_36 : decode cX12_init 36 = .ok (.putfield 19, 3) := by decide +kernel
theorem dX12_init_39 : decode cX12_init 39 = .ok (.aload_n 0, 1) := by decide +kernel
theorem dX12_init_40 : decode cX12_init 40 = .ok (.ldc 22, 2) := by decide +kernel
theorem dX12_init_42 : decode cX12_init 42 = .ok (.newarray .int, 2) := by decide +kernel
theorem dX12_init_44 : decode cX12_init 44 = .ok (.putfield 23, 3) := by decide +kernel
theorem dX12_init_47 : decode cX12_init 47 = .ok (.aload_n 0, 1) := by decide +kernel
theorem dX12_init_48 : decode cX12_init 48 = .ok (.bipush 24, 2) := by decide +kernel
theorem dX12_init_50 : decode cX12_init 50 = .ok (.newarray .int, 2) := by decide +kernel
theorem dX12_init_52 : decode cX12_init 52 = .ok (.putfield 26, 3) := by decide +kernel
theorem dX12_init_55 : decode cX12_init 55 = .ok (.aload_n 0, 1) := by decide +kernel
theorem dX12_init_56 : decode cX12_init 56 = .ok (.iconst 4, 1) := by decide +kernel
theorem dX12_init_57 : decode cX12_init 57 = .ok (.newarray .int, 2) := by decide +kernel
theorem dX12_init_59 : decode cX12_init 59 = .ok (.putfield 29, 3) := by decide +kernel
theorem dX12_init_62 : decode cX12_init 62 = .ok (.aload_n 0, 1) := by decide +kernel
theorem dX12_init_63 : decode cX12_init 63 = .ok (.iconst (-1), 1) := by decide +kernel
theorem dX12_init_64 : decode cX12_init 64 = .ok (.putfield 32, 3) := by decide +kernel
theorem dX12_init_67 : decode cX12_init 67 = .ok (.aload_n 0, 1) := by decide +kernel
theorem dX12_init_68 : decode cX12_init 68 = .ok (.sipush 160, 3) := by decide +kernel
theorem dX12_init_71 : decode cX12_init 71 = .ok (.newarray .int, 2) := by decide +kernel
theorem dX12_init_73 : decode cX12_init 73 = .ok (.putfield 36, 3) := by decide +kernel
theorem dX12_init_76 : decode cX12_init 76 = .ok (.aload_n 0, 1) := by decide +kernel
theorem dX12_init_77 : decode cX12_init 77 = .ok (.sipush 160, 3) := by decide +kernel
theorem dX12_init_80 : decode cX12_init 80 = .ok (.newarray .int, 2) := by decide +kernel
theorem dX12_init_82 : decode cX12_init 82 = .ok (.putfield 39, 3) := by decide +kernel
theorem dX12_init_85 : decode cX12_init 85 = .ok (.aload_n 0, 1) := by decide +kernel
theorem dX12_init_86 : decode cX12_init 86 = .ok (.sipush 160, 3) := by decide +kernel
theorem dX12_init_89 : decode cX12_init 89 = .ok (.newarray .boolean, 2) := by decide +kernel
theorem dX12_init_91 : decode cX12_init 91 = .ok (.putfield 42, 3) := by decide +kernel
theorem dX12_init_94 : decode cX12_init 94 = .ok (.aload_n 0, 1) := by decide +kernel
theorem dX12_init_95 : decode cX12_init 95 = .ok (.bipush 100, 2) := by decide +kernel
theorem dX12_init_97 : decode cX12_init 97 = .ok (.newarray .int, 2) := by decide +kernel
theorem dX12_init_99 : decode cX12_init 99 = .ok (.putfield 46, 3) := by decide +kernel
theorem dX12_init_102 : decode cX12_init 102 = .ok (.aload_n 0, 1) := by decide +kernel
theorem dX12_init_103 : decode cX12_init 103 = .ok (.bipush 100, 2) := by decide +kernel
theorem dX12_init_105 : decode cX12_init 105 = .ok (.newarray .int, 2) := by decide +kernel
theorem dX12_init_107 : decode cX12_init 107 = .ok (.putfield 49, 3) := by decide +kernel
theorem dX12_init_110 : decode cX12_init 110 = .ok (.aload_n 0, 1) := by decide +kernel
theorem dX12_init_111 : decode cX12_init 111 = .ok (.iconst (-1), 1) := by decide +kernel
theorem dX12_init_112 : decode cX12_init 112 = .ok (.putfield 52, 3) := by decide +kernel
theorem dX12_init_115 : decode cX12_init 115 = .ok (.aload_n 0, 1) := by decide +kernel
theorem dX12_init_116 : decode cX12_init 116 = .ok (.sipush 160, 3) := by decide +kernel
theorem dX12_init_119 : decode cX12_init 119 = .ok (.newarray .int, 2) := by decide +kernel
theorem dX12_init_121 : decode cX12_init 121 = .ok (.putfield 55, 3) := by decide +kernel
theorem dX12_init_124 : decode cX12_init 124 = .ok (.aload_n 0, 1) := by decide +kernel
theorem dX12_init_125 : decode cX12_init 125 = .ok (.sipush 160, 3) := by decide +kernel
theorem dX12_init_128 : decode cX12_init 128 = .ok (.newarray .boolean, 2) := by decide +kernel
theorem dX12_init_130 : decode cX12_init 130 = .ok (.putfield 58, 3) := by decide +kernel
theorem dX12_init_133 : decode cX12_init 133 = .ok (.aload_n 0, 1) := by decide +kernel
theorem dX12_init_134 : decode cX12_init 134 = .ok (.bipush 100, 2) := by decide +kernel
theorem dX12_init_136 : decode cX12_init 136 = .ok (.newarray .int, 2) := by decide +kernel
theorem dX12_init_138 : decode cX12_init 138 = .ok (.putfield 61, 3) := by decide +kernel
theorem dX12_init_141 : decode cX12_init 141 = .ok (.aload_n 0, 1) := by decide +kernel
theorem dX12_init_142 : decode cX12_init 142 = .ok (.sipush 4000, 3) := by decide +kernel
theorem dX12_init_145 : decode cX12_init 145 = .ok (.newarray .int, 2) := by decide +kernel
theorem dX12_init_147 : decode cX12_init 147 = .ok (.putfield 64, 3) := by decide +kernel
theorem dX12_init_150 : decode cX12_init 150 = .ok (.aload_n 0, 1) := by decide +kernel
theorem dX12_init_151 : decode cX12_init 151 = .ok (.sipush 601, 3) := by decide +kernel
theorem dX12_init_154 : decode cX12_init 154 = .ok (.newarray .long, 2) := by decide +kernel
theorem dX12_init_156 : decode cX12_init 156 = .ok (.putfield 67, 3) := by decide +kernel
theorem dX12_init_159 : decode cX12_init 159 = .ok (.aload_n 0, 1) := by decide +kernel
theorem dX12_init_160 : decode cX12_init 160 = .ok (.sipush 601, 3) := by decide +kernel
theorem dX12_init_163 : decode cX12_init 163 = .ok (.newarray .long, 2) := by decide +kernel
theorem dX12_init_165 : decode cX12_init 165 = .ok (.putfield 71, 3) := by decide +kernel
theorem dX12_init_168 : decode cX12_init 168 = .ok (.aload_n 0, 1) := by decide +kernel
theorem dX12_init_169 : decode cX12_init 169 = .ok (.sipush 160, 3) := by decide +kernel
theorem dX12_init_172 : decode cX12_init 172 = .ok (.newarray .int, 2) := by decide +kernel
theorem dX12_init_174 : decode cX12_init 174 = .ok (.putfield 74, 3) := by decide +kernel
theorem dX12_init_177 : decode cX12_init 177 = .ok (.aload_n 0, 1) := by decide +kernel
theorem dX12_init_178 : decode cX12_init 178 = .ok (.sipush 1800, 3) := by decide +kernel
theorem dX12_init_181 : decode cX12_init 181 = .ok (.newarray .long, 2) := by decide +kernel
theorem dX12_init_183 : decode cX12_init 183 = .ok (.putfield 77, 3) := by decide +kernel
theorem dX12_init_186 : decode cX12_init 186 = .ok (.aload_n 0, 1) := by decide +kernel
theorem dX12_init_187 : decode cX12_init 187 = .ok (.sipush 601, 3) := by decide +kernel
theorem dX12_init_190 : decode cX12_init 190 = .ok (.newarray .long, 2) := by decide +kernel
theorem dX12_init_192 : decode cX12_init 192 = .ok (.putfield 80, 3) := by decide +kernel
theorem dX12_init_195 : decode cX12_init 195 = .ok (.aload_n 0, 1) := by decide +kernel
theorem dX12_init_196 : decode cX12_init 196 = .ok (.sipush 601, 3) := by decide +kernel
theorem dX12_init_199 : decode cX12_init 199 = .ok (.newarray .long, 2) := by decide +kernel
theorem dX12_init_201 : decode cX12_init 201 = .ok (.putfield 83, 3) := by decide +kernel
theorem dX12_init_204 : decode cX12_init 204 = .ok (.aload_n 0, 1) := by decide +kernel
theorem dX12_init_205 : decode cX12_init 205 = .ok (.sipush 130, 3) := by decide +kernel
theorem dX12_init_208 : decode cX12_init 208 = .ok (.newarray .int, 2) := by decide +kernel
theorem dX12_init_210 : decode cX12_init 210 = .ok (.putfield 86, 3) := by decide +kernel
theorem dX12_init_213 : decode cX12_init 213 = .ok (.aload_n 0, 1) := by decide +kernel
theorem dX12_init_214 : decode cX12_init 214 = .ok (.bipush 40, 2) := by decide +kernel
theorem dX12_init_216 : decode cX12_init 216 = .ok (.newarray .int, 2) := by decide +kernel
theorem dX12_init_218 : decode cX12_init 218 = .ok (.putfield 89, 3) := by decide +kernel
theorem dX12_init_221 : decode cX12_init 221 = .ok (.aload_n 0, 1) := by decide +kernel
theorem dX12_init_222 : decode cX12_init 222 = .ok (.bipush 40, 2) := by decide +kernel
theorem dX12_init_224 : decode cX12_init 224 = .ok (.newarray .int, 2) := by decide +kernel
theorem dX12_init_226 : decode cX12_init 226 = .ok (.putfield 92, 3) := by decide +kernel
theorem dX12_init_229 : decode cX12_init 229 = .ok (.aload_n 0, 1) := by decide +kernel
theorem dX12_init_230 : decode cX12_init 230 = .ok (.sipush 160, 3) := by decide +kernel
theorem dX12_init_233 : decode cX12_init 233 = .ok (.newarray .int, 2) := by decide +kernel
theorem dX12_init_235 : decode cX12_init 235 = .ok (.putfield 95, 3) := by decide +kernel
theorem dX12_init_238 : decode cX12_init 238 = .ok (.aload_n 0, 1) := by decide +kernel
theorem dX12_init_239 : decode cX12_init 239 = .ok (.bipush 100, 2) := by decide +kernel
theorem dX12_init_241 : decode cX12_init 241 = .ok (.newarray .boolean, 2) := by decide +kernel
theorem dX12_init_243 : decode cX12_init 243 = .ok (.putfield 98, 3) := by decide +kernel
theorem dX12_init_246 : decode cX12_init 246 = .ok (.aload_n 0, 1) := by decide +kernel
theorem dX12_init_247 : decode cX12_init 247 = .ok (.sipush 160, 3) := by decide +kernel
theorem dX12_init_250 : decode cX12_init 250 = .ok (.newarray .int, 2) := by decide +kernel
theorem dX12_init_252 : decode cX12_init 252 = .ok (.putfield 101, 3) := by decide +kernel
theorem dX12_init_255 : decode cX12_init 255 = .ok (.aload_n 0, 1) := by decide +kernel
theorem dX12_init_256 : decode cX12_init 256 = .ok (.sipush 240, 3) := by decide +kernel
theorem dX12_init_259 : decode cX12_init 259 = .ok (.newarray .int, 2) := by decide +kernel
theorem dX12_init_261 : decode cX12_init 261 = .ok (.putfield 104, 3) := by decide +kernel
theorem dX12_init_264 : decode cX12_init 264 = .ok (.aload_n 0, 1) := by decide +kernel
theorem dX12_init_265 : decode cX12_init 265 = .ok (.iconst 3, 1) := by decide +kernel
theorem dX12_init_266 : decode cX12_init 266 = .ok (.newarray .int, 2) := by decide +kernel
theorem dX12_init_268 : decode cX12_init 268 = .ok (.putfield 107, 3) := by decide +kernel
theorem dX12_init_271 : decode cX12_init 271 = .ok (.aload_n 0, 1) := by decide +kernel
theorem dX12_init_272 : decode cX12_init 272 = .ok (.bipush 40, 2) := by decide +kernel
theorem dX12_init_274 : decode cX12_init 274 = .ok (.newarray .int, 2) := by decide +kernel
theorem dX12_init_276 : decode cX12_init 276 = .ok (.putfield 110, 3) := by decide +kernel
theorem dX12_init_279 : decode cX12_init 279 = .ok (.aload_n 0, 1) := by decide +kernel
theorem dX12_init_280 : decode cX12_init 280 = .ok (.bipush 40, 2) := by decide +kernel
theorem dX12_init_282 : decode cX12_init 282 = .ok (.newarray .int, 2) := by decide +kernel
theorem dX12_init_284 : decode cX12_init 284 = .ok (.putfield 113, 3) := by decide +kernel
theorem dX12_init_287 : decode cX12_init 287 = .ok (.aload_n 0, 1) := by decide +kernel
theorem dX12_init_288 : decode cX12_init 288 = .ok (.bipush 40, 2) := by decide +kernel
theorem dX12_init_290 : decode cX12_init 290 = .ok (.newarray .int, 2) := by decide +kernel
theorem dX12_init_292 : decode cX12_init 292 = .ok (.putfield 116, 3) := by decide +kernel
theorem dX12_init_295 : decode cX12_init 295 = .ok (.aload_n 0, 1) := by decide +kernel
theorem dX12_init_296 : decode cX12_init 296 = .ok (.sipush 160, 3) := by decide +kernel
theorem dX12_init_299 : decode cX12_init 299 = .ok (.newarray .int, 2) := by decide +kernel
theorem dX12_init_301 : decode cX12_init 301 = .ok (.putfield 119, 3) := by decide +kernel
theorem dX12_init_304 : decode cX12_init 304 = .ok (.aload_n 0, 1) := by decide +kernel
theorem dX12_init_305 : decode cX12_init 305 = .ok (.sipush 160, 3) := by decide +kernel
theorem dX12_init_308 : decode cX12_init 308 = .ok (.newarray .int, 2) := by decide +kernel
theorem dX12_init_310 : decode cX12_init 310 = .ok (.putfield 122, 3) := by decide +kernel
theorem dX12_init_313 : decode cX12_init 313 = .ok (.aload_n 0, 1) := by decide +kernel
theorem dX12_init_314 : decode cX12_init 314 = .ok (.bipush 41, 2) := by decide +kernel
theorem dX12_init_316 : decode cX12_init 316 = .ok (.newarray .int, 2) := by decide +kernel
theorem dX12_init_318 : decode cX12_init 318 = .ok (.putfield 125, 3) := by decide +kernel
theorem dX12_init_321 : decode cX12_init 321 = .ok (.aload_n 0, 1) := by decide +kernel
theorem dX12_init_322 : decode cX12_init 322 = .ok (.sipush 160, 3) := by decide +kernel
theorem dX12_init_325 : decode cX12_init 325 = .ok (.newarray .int, 2) := by decide +kernel
theorem dX12_init_327 : decode cX12_init 327 = .ok (.putfield 128, 3) := by decide +kernel
theorem dX12_init_330 : decode cX12_init 330 = .ok (.aload_n 0, 1) := by decide +kernel
theorem dX12_init_331 : decode cX12_init 331 = .ok (.bipush 40, 2) := by decide +kernel
theorem dX12_init_333 : decode cX12_init 333 = .ok (.newarray .boolean, 2) := by decide +kernel
theorem dX12_init_335 : decode cX12_init 335 = .ok (.putfield 131, 3) := by decide +kernel
theorem dX12_init_338 : decode cX12_init 338 = .ok (.aload_n 0, 1) := by decide +kernel
theorem dX12_init_339 : decode cX12_init 339 = .ok (.sipush 210, 3) := by decide +kernel
theorem dX12_init_342 : decode cX12_init 342 = .ok (.newarray .int, 2) := by decide +kernel
theorem dX12_init_344 : decode cX12_init 344 = .ok (.putfield 134, 3) := by decide +kernel
theorem dX12_init_347 : decode cX12_init 347 = .ok (.aload_n 0, 1) := by decide +kernel
theorem dX12_init_348 : decode cX12_init 348 = .ok (.sipush 210, 3) := by decide +kernel
theorem dX12_init_351 : decode cX12_init 351 = .ok (.newarray .int, 2) := by decide +kernel
theorem dX12_init_353 : decode cX12_init 353 = .ok (.putfield 137, 3) := by decide +kernel
theorem dX12_init_356 : decode cX12_init 356 = .ok (.aload_n 0, 1) := by decide +kernel
theorem dX12_init_357 : decode cX12_init 357 = .ok (.bipush 100, 2) := by decide +kernel
theorem dX12_init_359 : decode cX12_init 359 = .ok (.newarray .int, 2) := by decide +kernel
theorem dX12_init_361 : decode cX12_init 361 = .ok (.putfield 140, 3) := by decide +kernel
theorem dX12_init_364 : decode cX12_init 364 = .ok (.aload_n 0, 1) := by decide +kernel
theorem dX12_init_365 : decode cX12_init 365 = .ok (.bipush 100, 2) := by decide +kernel
theorem dX12_init_367 : decode cX12_init 367 = .ok (.newarray .int, 2) := by decide +kernel
theorem dX12_init_369 : decode cX12_init 369 = .ok (.putfield 143, 3) := by decide +kernel
theorem dX12_init_372 : decode cX12_init 372 = .ok (.aload_n 0, 1) := by decide +kernel
theorem dX12_init_373 : decode cX12_init 373 = .ok (.sipush 7000, 3) := by decide +kernel
theorem dX12_init_376 : decode cX12_init 376 = .ok (.newarray .int, 2) := by decide +kernel
theorem dX12_init_378 : decode cX12_init 378 = .ok (.putfield 146, 3) := by decide +kernel
theorem dX12_init_381 : decode cX12_init 381 = .ok (.aload_n 0, 1) := by decide +kernel
theorem dX12_init_382 : decode cX12_init 382 = .ok (.bipush 100, 2) := by decide +kernel
theorem dX12_init_384 : decode cX12_init 384 = .ok (.newarray .int, 2) := by decide +kernel
theorem dX12_init_386 : decode cX12_init 386 = .ok (.putfield 149, 3) := by decide +kernel
theorem dX12_init_389 : decode cX12_init 389 = .ok (.aload_n 0, 1) := by decide +kernel
theorem dX12_init_390 : decode cX12_init 390 = .ok (.sipush 601, 3) := by decide +kernel
theorem dX12_init_393 : decode cX12_init 393 = .ok (.newarray .long, 2) := by decide +kernel
theorem dX12_init_395 : decode cX12_init 395 = .ok (.putfield 152, 3) := by decide +kernel
theorem dX12_init_398 : decode cX12_init 398 = .ok (.aload_n 0, 1) := by decide +kernel
theorem dX12_init_399 : decode cX12_init 399 = .ok (.sipush 200, 3) := by decide +kernel
theorem dX12_init_402 : decode cX12_init 402 = .ok (.newarray .long, 2) := by decide +kernel
theorem dX12_init_404 : decode cX12_init 404 = .ok (.putfield 155, 3) := by decide +kernel
theorem dX12_init_407 : decode cX12_init 407 = .ok (.aload_n 0, 1) := by decide +kernel
theorem dX12_init_408 : decode cX12_init 408 = .ok (.ldc 158, 2) := by decide +kernel
theorem dX12_init_410 : decode cX12_init 410 = .ok (.newarray .long, 2) := by decide +kernel
theorem dX12_init_412 : decode cX12_init 412 = .ok (.putfield 159, 3) := by decide +kernel
theorem dX12_init_415 : decode cX12_init 415 = .ok (.iconst 0, 1) := by decide +kernel
theorem dX12_init_416 : decode cX12_init 416 = .ok (.istore_n 1, 1) := by decide +kernel
theorem dX12_init_417 : decode cX12_init 417 = .ok (.iload_n 1, 1) := by decide +kernel
theorem dX12_init_418 : decode cX12_init 418 = .ok (.bipush 24, 2) := by decide +kernel
theorem dX12_init_420 : decode cX12_init 420 = .ok (.if_icmp .ge 16, 3) := by decide +kernel
theorem dX12_init_423 : decode cX12_init 423 = .ok (.aload_n 0, 1) := by decide +kernel
theorem dX12_init_424 : decode cX12_init 424 = .ok (.getfield 26, 3) := by decide +kernel
theorem dX12_init_427 : decode cX12_init 427 = .ok (.iload_n 1, 1) := by decide +kernel
theorem dX12_init_428 : decode cX12_init 428 = .ok (.iconst 0, 1) := by decide +kernel
theorem dX12_init_429 : decode cX12_init 429 = .ok (.iastore, 1) := by decide +kernel
theorem dX12_init_430 : decode cX12_init 430 = .ok (.iinc 1 1, 3) := by decide +kernel
theorem dX12_init_433 : decode cX12_init 433 = .ok (.goto (-16), 3) := by decide +kernel
theorem dX12_init_436 : decode cX12_init 436 = .ok (.return_, 1) := by decide +kernel
theorem dX12_in_0 : decode cX12_in 0 = .ok (.lload_n 0, 1) := by decide +kernel
theorem dX12_in_1 : decode cX12_in 1 = .ok (.lload_n 2, 1) := by decide +kernel
theorem dX12_in_2 : decode cX12_in 2 = .ok (.lcmp, 1) := by decide +kernel
theorem dX12_in_3 : decode cX12_in 3 = .ok (.ifCond .lt 14, 3) := by decide +kernel
theorem dX12_in_6 : decode cX12_in 6 = .ok (.lload_n 0, 1) := by decide +kernel
theorem dX12_in_7 : decode cX12_in 7 = .ok (.lload 4, 2) := by decide +kernel
theorem dX12_in_9 : decode cX12_in 9 = .ok (.lcmp, 1) := by decide +kernel
theorem dX12_in_10 : decode cX12_in 10 = .ok (.ifCond .gt 7, 3) := by decide +kernel
theorem dX12_in_13 : decode cX12_in 13 = .ok (.iconst 1, 1) := by decide +kernel
theorem dX12_in_14 : decode cX12_in 14 = .ok (.goto 4, 3) := by decide +kernel
theorem dX12_in_17 : decode cX12_in 17 = .ok (.iconst 0, 1) := by decide +kernel
theorem dX12_in_18 : decode cX12_in 18 = .ok (.ireturn, 1) := by decide +kernel
theorem dX12_no_0 : decode cX12_no 0 = .ok (.aload_n 0, 1) := by decide +kernel
theorem dX12_no_1 : decode cX12_no 1 = .ok (.iload_n 1, 1) := by decide +kernel
theorem dX12_no_2 : decode cX12_no 2 = .ok (.putfield 162, 3) := by decide +kernel
theorem dX12_no_5 : decode cX12_no 5 = .ok (.iload_n 1, 1) := by decide +kernel
theorem dX12_no_6 : decode cX12_no 6 = .ok (.ireturn, 1) := by decide +kernel
theorem dX12_meets_0 : decode cX12_meets 0 = .ok (.aload_n 0, 1) := by decide +kernel
theorem dX12_meets_1 : decode cX12_meets 1 = .ok (.getfield 7, 3) := by decide +kernel
theorem dX12_meets_4 : decode cX12_meets 4 = .ok (.iload_n 1, 1) := by decide +kernel
theorem dX12_meets_5 : decode cX12_meets 5 = .ok (.dup2, 1) := by decide +kernel
theorem dX12_meets_6 : decode cX12_meets 6 = .ok (.iaload, 1) := by decide +kernel
theorem dX12_meets_7 : decode cX12_meets 7 = .ok (.iconst 1, 1) := by decide +kernel
theorem dX12_meets_8 : decode cX12_meets 8 = .ok (.iadd, 1) := by decide +kernel
theorem dX12_meets_9 : decode cX12_meets 9 = .ok (.iastore, 1) := by decide +kernel
theorem dX12_meets_10 : decode cX12_meets 10 = .ok (.aload_n 0, 1) := by decide +kernel
theorem dX12_meets_11 : decode cX12_meets 11 = .ok (.bipush (-10), 2) := by decide +kernel
theorem dX12_meets_13 : decode cX12_meets 13 = .ok (.iload_n 1, 1) := by decide +kernel
theorem dX12_meets_14 : decode cX12_meets 14 = .ok (.isub, 1) := by decide +kernel
theorem dX12_meets_15 : decode cX12_meets 15 = .ok (.invokevirtual 165, 3) := by decide +kernel
theorem dX12_meets_18 : decode cX12_meets 18 = .ok (.ireturn, 1) := by decide +kernel
theorem dX12_well_0 : decode cX12_well 0 = .ok (.aload_n 0, 1) := by decide +kernel
theorem dX12_well_1 : decode cX12_well 1 = .ok (.iconst 0, 1) := by decide +kernel
theorem dX12_well_2 : decode cX12_well 2 = .ok (.putfield 162, 3) := by decide +kernel
theorem dX12_well_5 : decode cX12_well 5 = .ok (.iload_n 1, 1) := by decide +kernel
theorem dX12_well_6 : decode cX12_well 6 = .ok (.ireturn, 1) := by decide +kernel
theorem dX12_copySlot_0 : decode cX12_copySlot 0 = .ok (.aload_n 0, 1) := by decide +kernel
theorem dX12_copySlot_1 : decode cX12_copySlot 1 = .ok (.getfield 13, 3) := by decide +kernel
theorem dX12_copySlot_4 : decode cX12_copySlot 4 = .ok (.iload_n 2, 1) := by decide +kernel
theorem dX12_copySlot_5 : decode cX12_copySlot 5 = .ok (.aload_n 0, 1) := by decide +kernel
theorem dX12_copySlot_6 : decode cX12_copySlot 6 = .ok (.getfield 13, 3) := by decide +kernel
theorem dX12_copySlot_9 : decode cX12_copySlot 9 = .ok (.iload_n 1, 1) := by decide +kernel
theorem dX12_copySlot_10 : decode cX12_copySlot 10 = .ok (.iaload, 1) := by decide +kernel
theorem dX12_copySlot_11 : decode cX12_copySlot 11 = .ok (.iastore, 1) := by decide +kernel
theorem dX12_copySlot_12 : decode cX12_copySlot 12 = .ok (.aload_n 0, 1) := by decide +kernel
theorem dX12_copySlot_13 : decode cX12_copySlot 13 = .ok (.getfield 16, 3) := by decide +kernel
theorem dX12_copySlot_16 : decode cX12_copySlot 16 = .ok (.iload_n 2, 1) := by decide +kernel
theorem dX12_copySlot_17 : decode cX12_copySlot 17 = .ok (.aload_n 0, 1) := by decide +kernel
theorem dX12_copySlot_18 : decode cX12_copySlot 18 = .ok (.getfield 16, 3) := by decide +kernel
theorem dX12_copySlot_21 : decode cX12_copySlot 21 = .ok (.iload_n 1, 1) := by decide +kernel
theorem dX12_copySlot_22 : decode cX12_copySlot 22 = .ok (.iaload, 1) := by decide +kernel
theorem dX12_copySlot_23 : decode cX12_copySlot 23 = .ok (.iastore, 1) := by decide +kernel
theorem dX12_copySlot_24 : decode cX12_copySlot 24 = .ok (.iconst 0, 1) := by decide +kernel
theorem dX12_copySlot_25 : decode cX12_copySlot 25 = .ok (.istore_n 3, 1) := by decide +kernel
theorem dX12_copySlot_26 : decode cX12_copySlot 26 = .ok (.iload_n 3, 1) := by decide +kernel
theorem dX12_copySlot_27 : decode cX12_copySlot 27 = .ok (.aload_n 0, 1) := by decide +kernel
theorem dX12_copySlot_28 : decode cX12_copySlot 28 = .ok (.getfield 13, 3) := by decide +kernel
theorem dX12_copySlot_31 : decode cX12_copySlot 31 = .ok (.iload_n 1, 1) := by decide +kernel
theorem dX12_copySlot_32 : decode cX12_copySlot 32 = .ok (.iaload, 1) := by decide +kernel
theorem dX12_copySlot_33 : decode cX12_copySlot 33 = .ok (.if_icmp .ge 31, 3) := by decide +kernel
theorem dX12_copySlot_36 : decode cX12_copySlot 36 = .ok (.aload_n 0, 1) := by decide +kernel
theorem dX12_copySlot_37 : decode cX12_copySlot 37 = .ok (.getfield 19, 3) := by decide +kernel
theorem dX12_copySlot_40 : decode cX12_copySlot 40 = .ok (.bipush 40, 2) := by decide +kernel
theorem dX12_copySlot_42 : decode cX12_copySlot 42 = .ok (.iload_n 2, 1) := by decide +kernel
theorem dX12_copySlot_43 : decode cX12_copySlot 43 = .ok (.imul, 1) := by decide +kernel
theorem dX12_copySlot_44 : decode cX12_copySlot 44 = .ok (.iload_n 3, 1) := by decide +kernel
theorem dX12_copySlot_45 : decode cX12_copySlot 45 = .ok (.iadd, 1) := by decide +kernel
theorem dX12_copySlot_46 : decode cX12_copySlot 46 = .ok (.aload_n 0, 1) := by decide +kernel
theorem dX12_copySlot_47 : decode cX12_copySlot 47 = .ok (.getfield 19, 3) := by decide +kernel
theorem dX12_copySlot_50 : decode cX12_copySlot 50 = .ok (.bipush 40, 2) := by decide +kernel
theorem dX12_copySlot_52 : decode cX12_copySlot 52 = .ok (.iload_n 1, 1) := by decide +kernel
theorem dX12_copySlot_53 : decode cX12_copySlot 53 = .ok (.imul, 1) := by decide +kernel
theorem dX12_copySlot_54 : decode cX12_copySlot 54 = .ok (.iload_n 3, 1) := by decide +kernel
theorem dX12_copySlot_55 : decode cX12_copySlot 55 = .ok (.iadd, 1) := by decide +kernel
theorem dX12_copySlot_56 : decode cX12_copySlot 56 = .ok (.iaload, 1) := by decide +kernel
theorem dX12_copySlot_57 : decode cX12_copySlot 57 = .ok (.iastore, 1) := by decide +kernel
theorem dX12_copySlot_58 : decode cX12_copySlot 58 = .ok (.iinc 3 1, 3) := by decide +kernel
theorem dX12_copySlot_61 : decode cX12_copySlot 61 = .ok (.goto (-35), 3) := by decide +kernel
theorem dX12_copySlot_64 : decode cX12_copySlot 64 = .ok (.iconst 0, 1) := by decide +kernel
theorem dX12_copySlot_65 : decode cX12_copySlot 65 = .ok (.istore_n 3, 1) := by decide +kernel
theorem dX12_copySlot_66 : decode cX12_copySlot 66 = .ok (.iload_n 3, 1) := by decide +kernel
theorem dX12_copySlot_67 : decode cX12_copySlot 67 = .ok (.iconst 4, 1) := by decide +kernel
theorem dX12_copySlot_68 : decode cX12_copySlot 68 = .ok (.aload_n 0, 1) := by decide +kernel
theorem dX12_copySlot_69 : decode cX12_copySlot 69 = .ok (.getfield 13, 3) := by decide +kernel
theorem dX12_copySlot_72 : decode cX12_copySlot 72 = .ok (.iload_n 1, 1) := by decide +kernel
theorem dX12_copySlot_73 : decode cX12_copySlot 73 = .ok (.iaload, 1) := by decide +kernel
theorem dX12_copySlot_74 : decode cX12_copySlot 74 = .ok (.imul, 1) := by decide +kernel
theorem dX12_copySlot_75 : decode cX12_copySlot 75 = .ok (.if_icmp .ge 33, 3) := by decide +kernel
theorem dX12_copySlot_78 : decode cX12_copySlot 78 = .ok (.aload_n 0, 1) := by decide +kernel
theorem dX12_copySlot_79 : decode cX12_copySlot 79 = .ok (.getfield 23, 3) := by decide +kernel
theorem dX12_copySlot_82 : decode cX12_copySlot 82 = .ok (.sipush 160, 3) := by decide +kernel
theorem dX12_copySlot_85 : decode cX12_copySlot 85 = .ok (.iload_n 2, 1) := by decide +kernel
theorem dX12_copySlot_86 : decode cX12_copySlot 86 = .ok (.imul, 1) := by decide +kernel
theorem dX12_copySlot_87 : decode cX12_copySlot 87 = .ok (.iload_n 3, 1) := by decide +kernel
theorem dX12_copySlot_88 : decode cX12_copySlot 88 = .ok (.iadd, 1) := by decide +kernel
theorem dX12_copySlot_89 : decode cX12_copySlot 89 = .ok (.aload_n 0, 1) := by decide +kernel
theorem dX12_copySlot_90 : decode cX12_copySlot 90 = .ok (.getfield 23, 3) := by decide +kernel
theorem dX12_copySlot_93 : decode cX12_copySlot 93 = .ok (.sipush 160, 3) := by decide +kernel
theorem dX12_copySlot_96 : decode cX12_copySlot 96 = .ok (.iload_n 1, 1) := by decide +kernel
theorem dX12_copySlot_97 : decode cX12_copySlot 97 = .ok (.imul, 1) := by decide +kernel
theorem dX12_copySlot_98 : decode cX12_copySlot 98 = .ok (.iload_n 3, 1) := by decide +kernel
theorem dX12_copySlot_99 : decode cX12_copySlot 99 = .ok (.iadd, 1) := by decide +kernel
theorem dX12_copySlot_100 : decode cX12_copySlot 100 = .ok (.iaload, 1) := by decide +kernel
theorem dX12_copySlot_101 : decode cX12_copySlot 101 = .ok (.iastore, 1) := by decide +kernel
theorem dX12_copySlot_102 : decode cX12_copySlot 102 = .ok (.iinc 3 1, 3) := by decide +kernel
theorem dX12_copySlot_105 : decode cX12_copySlot 105 = .ok (.goto (-39), 3) := by decide +kernel
theorem dX12_copySlot_108 : decode cX12_copySlot 108 = .ok (.return_, 1) := by decide +kernel
theorem dX12_isPicture_0 : decode cX12_isPicture 0 = .ok (.iload_n 1, 1) := by decide +kernel
theorem dX12_isPicture_1 : decode cX12_isPicture 1 = .ok (.i2l, 1) := by decide +kernel
theorem dX12_isPicture_2 : decode cX12_isPicture 2 = .ok (.lconst 0, 1) := by decide +kernel
theorem dX12_isPicture_3 : decode cX12_isPicture 3 = .ok (.aload_n 0, 1) := by decide +kernel
theorem dX12_isPicture_4 : decode cX12_isPicture 4 = .ok (.getfield 169, 3) := by decide +kernel
theorem dX12_isPicture_7 : decode cX12_isPicture 7 = .ok (.iconst 1, 1) := by decide +kernel
theorem dX12_isPicture_8 : decode cX12_isPicture 8 = .ok (.isub, 1) := by decide +kernel
theorem dX12_isPicture_9 : decode cX12_isPicture 9 = .ok (.i2l, 1) := by decide +kernel
theorem dX12_isPicture_10 : decode cX12_isPicture 10 = .ok (.invokestatic 172, 3) := by decide +kernel
theorem dX12_isPicture_13 : decode cX12_isPicture 13 = .ok (.ireturn, 1) := by decide +kernel
theorem dX12_added_0 : decode cX12_added 0 = .ok (.aload_n 0, 1) := by decide +kernel
theorem dX12_added_1 : decode cX12_added 1 = .ok (.iload_n 1, 1) := by decide +kernel
theorem dX12_added_2 : decode cX12_added 2 = .ok (.aload_n 0, 1) := by decide +kernel
theorem dX12_added_3 : decode cX12_added 3 = .ok (.getfield 169, 3) := by decide +kernel
theorem dX12_added_6 : decode cX12_added 6 = .ok (.invokevirtual 176, 3) := by decide +kernel
theorem dX12_added_9 : decode cX12_added 9 = .ok (.aload_n 0, 1) := by decide +kernel
theorem dX12_added_10 : decode cX12_added 10 = .ok (.getfield 26, 3) := by decide +kernel
theorem dX12_added_13 : decode cX12_added 13 = .ok (.aload_n 0, 1) := by decide +kernel
theorem dX12_added_14 : decode cX12_added 14 = .ok (.getfield 169, 3) := by decide +kernel
theorem dX12_added_17 : decode cX12_added 17 = .ok (.iconst 0, 1) := by decide +kernel
theorem dX12_added_18 : decode cX12_added 18 = .ok (.iastore, 1) := by decide +kernel
theorem dX12_added_19 : decode cX12_added 19 = .ok (.aload_n 0, 1) := by decide +kernel
theorem dX12_added_20 : decode cX12_added 20 = .ok (.dup, 1) := by decide +kernel
theorem dX12_added_21 : decode cX12_added 21 = .ok (.getfield 169, 3) := by decide +kernel
theorem dX12_added_24 : decode cX12_added 24 = .ok (.iconst 1, 1) := by decide +kernel
theorem dX12_added_25 : decode cX12_added 25 = .ok (.iadd, 1) := by decide +kernel
theorem dX12_added_26 : decode cX12_added 26 = .ok (.putfield 169, 3) := by decide +kernel
theorem dX12_added_29 : decode cX12_added 29 = .ok (.aload_n 0, 1) := by decide +kernel
theorem dX12_added_30 : decode cX12_added 30 = .ok (.aload_n 0, 1) := by decide +kernel
theorem dX12_added_31 : decode cX12_added 31 = .ok (.getfield 169, 3) := by decide +kernel
theorem dX12_added_34 : decode cX12_added 34 = .ok (.iconst 1, 1) := by decide +kernel
theorem dX12_added_35 : decode cX12_added 35 = .ok (.isub, 1) := by decide +kernel
theorem dX12_added_36 : decode cX12_added 36 = .ok (.invokevirtual 180, 3) := by decide +kernel
theorem dX12_added_39 : decode cX12_added 39 = .ok (.ireturn, 1) := by decide +kernel
theorem dX12_replaced_0 : decode cX12_replaced 0 = .ok (.aload_n 0, 1) := by decide +kernel
theorem dX12_replaced_1 : decode cX12_replaced 1 = .ok (.getfield 26, 3) := by decide +kernel
theorem dX12_replaced_4 : decode cX12_replaced 4 = .ok (.iload_n 1, 1) := by decide +kernel
theorem dX12_replaced_5 : decode cX12_replaced 5 = .ok (.iaload, 1) := by decide +kernel
theorem dX12_replaced_6 : decode cX12_replaced 6 = .ok (.bipush 10, 2) := by decide +kernel
theorem dX12_replaced_8 : decode cX12_replaced 8 = .ok (.if_icmp .ne 49, 3) := by decide +kernel
theorem dX12_replaced_11 : decode cX12_replaced 11 = .ok (.iconst 0, 1) := by decide +kernel
theorem dX12_replaced_12 : decode cX12_replaced 12 = .ok (.istore_n 3, 1) := by decide +kernel
theorem dX12_replaced_13 : decode cX12_replaced 13 = .ok (.iload_n 3, 1) := by decide +kernel
theorem dX12_replaced_14 : decode cX12_replaced 14 = .ok (.bipush 9, 2) := by decide +kernel
theorem dX12_replaced_16 : decode cX12_replaced 16 = .ok (.if_icmp .ge 33, 3) := by decide +kernel
theorem dX12_replaced_19 : decode cX12_replaced 19 = .ok (.aload_n 0, 1) := by decide +kernel
theorem dX12_replaced_20 : decode cX12_replaced 20 = .ok (.bipush 24, 2) := by decide +kernel
theorem dX12_replaced_22 : decode cX12_replaced 22 = .ok (.bipush 10, 2) := by decide +kernel
theorem dX12_replaced_24 : decode cX12_replaced 24 = .ok (.iload_n 1, 1) := by decide +kernel
theorem dX12_replaced_25 : decode cX12_replaced 25 = .ok (.imul, 1) := by decide +kernel
theorem dX12_replaced_26 : decode cX12_replaced 26 = .ok (.iadd, 1) := by decide +kernel
theorem dX12_replaced_27 : decode cX12_replaced 27 = .ok (.iload_n 3, 1) := by decide +kernel
theorem dX12_replaced_28 : decode cX12_replaced 28 = .ok (.iadd, 1) := by decide +kernel
theorem dX12_replaced_29 : decode cX12_replaced 29 = .ok (.iconst 1, 1) := by decide +kernel
theorem dX12_replaced_30 : decode cX12_replaced 30 = .ok (.iadd, 1) := by decide +kernel
theorem dX12_replaced_31 : decode cX12_replaced 31 = .ok (.bipush 24, 2) := by decide +kernel
theorem dX12_replaced_33 : decode cX12_replaced 33 = .ok (.bipush 10, 2) := by decide +kernel
theorem dX12_replaced_35 : decode cX12_replaced 35 = .ok (.iload_n 1, 1) := by decide +kernel
theorem dX12_replaced_36 : decode cX12_replaced 36 = .ok (.imul, 1) := by decide +kernel
theorem dX12_replaced_37 : decode cX12_replaced 37 = .ok (.iadd, 1) := by decide +kernel
theorem dX12_replaced_38 : decode cX12_replaced 38 = .ok (.iload_n 3, 1) := by decide +kernel
theorem dX12_replaced_39 : decode cX12_replaced 39 = .ok (.iadd, 1) := by decide +kernel
theorem dX12_replaced_40 : decode cX12_replaced 40 = .ok (.invokevirtual 176, 3) := by decide +kernel
theorem dX12_replaced_43 : decode cX12_replaced 43 = .ok (.iinc 3 1, 3) := by decide +kernel
theorem dX12_replaced_46 : decode cX12_replaced 46 = .ok (.goto (-33), 3) := by decide +kernel
theorem dX12_replaced_49 : decode cX12_replaced 49 = .ok (.aload_n 0, 1) := by decide +kernel
theorem dX12_replaced_50 : decode cX12_replaced 50 = .ok (.getfield 26, 3) := by decide +kernel
theorem dX12_replaced_53 : decode cX12_replaced 53 = .ok (.iload_n 1, 1) := by decide +kernel
theorem dX12_replaced_54 : decode cX12_replaced 54 = .ok (.bipush 9, 2) := by decide +kernel
theorem dX12_replaced_56 : decode cX12_replaced 56 = .ok (.iastore, 1) := by decide +kernel
theorem dX12_replaced_57 : decode cX12_replaced 57 = .ok (.aload_n 0, 1) := by decide +kernel
theorem dX12_replaced_58 : decode cX12_replaced 58 = .ok (.iload_n 1, 1) := by decide +kernel
theorem dX12_replaced_59 : decode cX12_replaced 59 = .ok (.bipush 24, 2) := by decide +kernel
theorem dX12_replaced_61 : decode cX12_replaced 61 = .ok (.bipush 10, 2) := by decide +kernel
theorem dX12_replaced_63 : decode cX12_replaced 63 = .ok (.iload_n 1, 1) := by decide +kernel
theorem dX12_replaced_64 : decode cX12_replaced 64 = .ok (.imul, 1) := by decide +kernel
theorem dX12_replaced_65 : decode cX12_replaced 65 = .ok (.iadd, 1) := by decide +kernel
theorem dX12_replaced_66 : decode cX12_replaced 66 = .ok (.aload_n 0, 1) := by decide +kernel
theorem dX12_replaced_67 : decode cX12_replaced 67 = .ok (.getfield 26, 3) := by decide +kernel
theorem dX12_replaced_70 : decode cX12_replaced 70 = .ok (.iload_n 1, 1) := by decide +kernel
theorem dX12_replaced_71 : decode cX12_replaced 71 = .ok (.iaload, 1) := by decide +kernel
theorem dX12_replaced_72 : decode cX12_replaced 72 = .ok (.iadd, 1) := by decide +kernel
theorem dX12_replaced_73 : decode cX12_replaced 73 = .ok (.invokevirtual 176, 3) := by decide +kernel
theorem dX12_replaced_76 : decode cX12_replaced 76 = .ok (.aload_n 0, 1) := by decide +kernel
theorem dX12_replaced_77 : decode cX12_replaced 77 = .ok (.getfield 26, 3) := by decide +kernel
theorem dX12_replaced_80 : decode cX12_replaced 80 = .ok (.iload_n 1, 1) := by decide +kernel
theorem dX12_replaced_81 : decode cX12_replaced 81 = .ok (.dup2, 1) := by decide +kernel
theorem dX12_replaced_82 : decode cX12_replaced 82 = .ok (.iaload, 1) := by decide +kernel
theorem dX12_replaced_83 : decode cX12_replaced 83 = .ok (.iconst 1, 1) := by decide +kernel
theorem dX12_replaced_84 : decode cX12_replaced 84 = .ok (.iadd, 1) := by decide +kernel
theorem dX12_replaced_85 : decode cX12_replaced 85 = .ok (.iastore, 1) := by decide +kernel
theorem dX12_replaced_86 : decode cX12_replaced 86 = .ok (.aload_n 0, 1) := by decide +kernel
theorem dX12_replaced_87 : decode cX12_replaced 87 = .ok (.iload_n 2, 1) := by decide +kernel
theorem dX12_replaced_88 : decode cX12_replaced 88 = .ok (.iload_n 1, 1) := by decide +kernel
theorem dX12_replaced_89 : decode cX12_replaced 89 = .ok (.invokevirtual 176, 3) := by decide +kernel
theorem dX12_replaced_92 : decode cX12_replaced 92 = .ok (.return_, 1) := by decide +kernel
theorem dX12_picture_0 : decode cX12_picture 0 = .ok (.aload_n 0, 1) := by decide +kernel
theorem dX12_picture_1 : decode cX12_picture 1 = .ok (.getfield 169, 3) := by decide +kernel
theorem dX12_picture_4 : decode cX12_picture 4 = .ok (.bipush 24, 2) := by decide +kernel
theorem dX12_picture_6 : decode cX12_picture 6 = .ok (.if_icmp .ne 10, 3) := by decide +kernel
theorem dX12_picture_9 : decode cX12_picture 9 = .ok (.aload_n 0, 1) := by decide +kernel
theorem dX12_picture_10 : decode cX12_picture 10 = .ok (.bipush (-3), 2) := by decide +kernel
theorem dX12_picture_12 : decode cX12_picture 12 = .ok (.invokevirtual 165, 3) := by decide +kernel
theorem dX12_picture_15 : decode cX12_picture 15 = .ok (.ireturn, 1) := by decide +kernel
theorem dX12_picture_16 : decode cX12_picture 16 = .ok (.aload_n 0, 1) := by decide +kernel
theorem dX12_picture_17 : decode cX12_picture 17 = .ok (.getfield 13, 3) := by decide +kernel
theorem dX12_picture_20 : decode cX12_picture 20 = .ok (.aload_n 0, 1) := by decide +kernel
theorem dX12_picture_21 : decode cX12_picture 21 = .ok (.getfield 169, 3) := by decide +kernel
theorem dX12_picture_24 : decode cX12_picture 24 = .ok (.iconst 0, 1) := by decide +kernel
theorem dX12_picture_25 : decode cX12_picture 25 = .ok (.iastore, 1) := by decide +kernel
theorem dX12_picture_26 : decode cX12_picture 26 = .ok (.aload_n 0, 1) := by decide +kernel
theorem dX12_picture_27 : decode cX12_picture 27 = .ok (.getfield 16, 3) := by decide +kernel
theorem dX12_picture_30 : decode cX12_picture 30 = .ok (.aload_n 0, 1) := by decide +kernel
theorem dX12_picture_31 : decode cX12_picture 31 = .ok (.getfield 169, 3) := by decide +kernel
theorem dX12_picture_34 : decode cX12_picture 34 = .ok (.iconst 0, 1) := by decide +kernel
theorem dX12_picture_35 : decode cX12_picture 35 = .ok (.iastore, 1) := by decide +kernel
theorem dX12_picture_36 : decode cX12_picture 36 = .ok (.aload_n 0, 1) := by decide +kernel
theorem dX12_picture_37 : decode cX12_picture 37 = .ok (.getfield 26, 3) := by decide +kernel
theorem dX12_picture_40 : decode cX12_picture 40 = .ok (.aload_n 0, 1) := by decide +kernel
theorem dX12_picture_41 : decode cX12_picture 41 = .ok (.getfield 169, 3) := by decide +kernel
theorem dX12_picture_44 : decode cX12_picture 44 = .ok (.iconst 0, 1) := by decide +kernel
theorem dX12_picture_45 : decode cX12_picture 45 = .ok (.iastore, 1) := by decide +kernel
theorem dX12_picture_46 : decode cX12_picture 46 = .ok (.aload_n 0, 1) := by decide +kernel
theorem dX12_picture_47 : decode cX12_picture 47 = .ok (.dup, 1) := by decide +kernel
theorem dX12_picture_48 : decode cX12_picture 48 = .ok (.getfield 169, 3) := by decide +kernel
theorem dX12_picture_51 : decode cX12_picture 51 = .ok (.iconst 1, 1) := by decide +kernel
theorem dX12_picture_52 : decode cX12_picture 52 = .ok (.iadd, 1) := by decide +kernel
theorem dX12_picture_53 : decode cX12_picture 53 = .ok (.putfield 169, 3) := by decide +kernel
theorem dX12_picture_56 : decode cX12_picture 56 = .ok (.aload_n 0, 1) := by decide +kernel
theorem dX12_picture_57 : decode cX12_picture 57 = .ok (.aload_n 0, 1) := by decide +kernel
theorem dX12_picture_58 : decode cX12_picture 58 = .ok (.getfield 169, 3) := by decide +kernel
theorem dX12_picture_61 : decode cX12_picture 61 = .ok (.iconst 1, 1) := by decide +kernel
theorem dX12_picture_62 : decode cX12_picture 62 = .ok (.isub, 1) := by decide +kernel
theorem dX12_picture_63 : decode cX12_picture 63 = .ok (.invokevirtual 180, 3) := by decide +kernel
theorem dX12_picture_66 : decode cX12_picture 66 = .ok (.ireturn, 1) := by decide +kernel
theorem dX12_isArc_0 : decode cX12_isArc 0 = .ok (.iload_n 0, 1) := by decide +kernel
theorem dX12_isArc_1 : decode cX12_isArc 1 = .ok (.i2l, 1) := by decide +kernel
theorem dX12_isArc_2 : decode cX12_isArc 2 = .ok (.ldc2_w 183, 3) := by decide +kernel
theorem dX12_isArc_5 : decode cX12_isArc 5 = .ok (.ldc2_w 185, 3) := by decide +kernel
theorem dX12_isArc_8 : decode cX12_isArc 8 = .ok (.invokestatic 172, 3) := by decide +kernel
theorem dX12_isArc_11 : decode cX12_isArc 11 = .ok (.ireturn, 1) := by decide +kernel
theorem dX12_append_0 : decode cX12_append 0 = .ok (.sipush 160, 3) := by decide +kernel
theorem dX12_append_3 : decode cX12_append 3 = .ok (.iload_n 1, 1) := by decide +kernel
theorem dX12_append_4 : decode cX12_append 4 = .ok (.imul, 1) := by decide +kernel
theorem dX12_append_5 : decode cX12_append 5 = .ok (.iconst 4, 1) := by decide +kernel
theorem dX12_append_6 : decode cX12_append 6 = .ok (.aload_n 0, 1) := by decide +kernel
theorem dX12_append_7 : decode cX12_append 7 = .ok (.getfield 13, 3) := by decide +kernel
theorem dX12_append_10 : decode cX12_append 10 = .ok (.iload_n 1, 1) := by decide +kernel
theorem dX12_append_11 : decode cX12_append 11 = .ok (.iaload, 1) := by decide +kernel
theorem dX12_append_12 : decode cX12_append 12 = .ok (.imul, 1) := by decide +kernel
theorem dX12_append_13 : decode cX12_append 13 = .ok (.iadd, 1) := by decide +kernel
theorem dX12_append_14 : decode cX12_append 14 = .ok (.istore 6, 2) := by decide +kernel
theorem dX12_append_16 : decode cX12_append 16 = .ok (.aload_n 0, 1) := by decide +kernel
theorem dX12_append_17 : decode cX12_append 17 = .ok (.getfield 19, 3) := by decide +kernel
theorem dX12_append_20 : decode cX12_append 20 = .ok (.bipush 40, 2) := by decide +kernel
theorem dX12_append_22 : decode cX12_append 22 = .ok (.iload_n 1, 1) := by decide +kernel
theorem dX12_append_23 : decode cX12_append 23 = .ok (.imul, 1) := by decide +kernel
theorem dX12_append_24 : decode cX12_append 24 = .ok (.aload_n 0, 1) := by decide +kernel
theorem dX12_append_25 : decode cX12_append 25 = .ok (.getfield 13, 3) := by decide +kernel
theorem dX12_append_28 : decode cX12_append 28 = .ok (.iload_n 1, 1) := by decide +kernel
theorem dX12_append_29 : decode cX12_append 29 = .ok (.iaload, 1) := by decide +kernel
theorem dX12_append_30 : decode cX12_append 30 = .ok (.iadd, 1) := by decide +kernel
theorem dX12_append_31 : decode cX12_append 31 = .ok (.iconst 4, 1) := by decide +kernel
theorem dX12_append_32 : decode cX12_append 32 = .ok (.iastore, 1) := by decide +kernel
theorem dX12_append_33 : decode cX12_append 33 = .ok (.aload_n 0, 1) := by decide +kernel
theorem dX12_append_34 : decode cX12_append 34 = .ok (.getfield 23, 3) := by decide +kernel
theorem dX12_append_37 : decode cX12_append 37 = .ok (.iload 6, 2) := by decide +kernel
theorem dX12_append_39 : decode cX12_append 39 = .ok (.iload_n 2, 1) := by decide +kernel
theorem dX12_append_40 : decode cX12_append 40 = .ok (.iastore, 1) := by decide +kernel
theorem dX12_append_41 : decode cX12_append 41 = .ok (.aload_n 0, 1) := by decide +kernel
theorem dX12_append_42 : decode cX12_append 42 = .ok (.getfield 23, 3) := by decide +kernel
theorem dX12_append_45 : decode cX12_append 45 = .ok (.iload 6, 2) := by decide +kernel
theorem dX12_append_47 : decode cX12_append 47 = .ok (.iconst 1, 1) := by decide +kernel
theorem dX12_append_48 : decode cX12_append 48 = .ok (.iadd, 1) := by decide +kernel
theorem dX12_append_49 : decode cX12_append 49 = .ok (.iload_n 3, 1) := by decide +kernel
theorem dX12_append_50 : decode cX12_append 50 = .ok (.iastore, 1) := by decide +kernel
theorem dX12_append_51 : decode cX12_append 51 = .ok (.aload_n 0, 1) := by decide +kernel
theorem dX12_append_52 : decode cX12_append 52 = .ok (.getfield 23, 3) := by decide +kernel
theorem dX12_append_55 : decode cX12_append 55 = .ok (.iload 6, 2) := by decide +kernel
theorem dX12_append_57 : decode cX12_append 57 = .ok (.iconst 2, 1) := by decide +kernel
theorem dX12_append_58 : decode cX12_append 58 = .ok (.iadd, 1) := by decide +kernel
theorem dX12_append_59 : decode cX12_append 59 = .ok (.iload 4, 2) := by decide +kernel
theorem dX12_append_61 : decode cX12_append 61 = .ok (.iastore, 1) := by decide +kernel
theorem dX12_append_62 : decode cX12_append 62 = .ok (.aload_n 0, 1) := by decide +kernel
theorem dX12_append_63 : decode cX12_append 63 = .ok (.getfield 23, 3) := by decide +kernel
theorem dX12_append_66 : decode cX12_append 66 = .ok (.iload 6, 2) := by decide +kernel
theorem dX12_append_68 : decode cX12_append 68 = .ok (.iconst 3, 1) := by decide +kernel
theorem dX12_append_69 : decode cX12_append 69 = .ok (.iadd, 1) := by decide +kernel
theorem dX12_append_70 : decode cX12_append 70 = .ok (.iload 5, 2) := by decide +kernel
theorem dX12_append_72 : decode cX12_append 72 = .ok (.iastore, 1) := by decide +kernel
theorem dX12_append_73 : decode cX12_append 73 = .ok (.aload_n 0, 1) := by decide +kernel
theorem dX12_append_74 : decode cX12_append 74 = .ok (.getfield 13, 3) := by decide +kernel
theorem dX12_append_77 : decode cX12_append 77 = .ok (.iload_n 1, 1) := by decide +kernel
theorem dX12_append_78 : decode cX12_append 78 = .ok (.dup2, 1) := by decide +kernel
theorem dX12_append_79 : decode cX12_append 79 = .ok (.iaload, 1) := by decide +kernel
theorem dX12_append_80 : decode cX12_append 80 = .ok (.iconst 1, 1) := by decide +kernel
theorem dX12_append_81 : decode cX12_append 81 = .ok (.iadd, 1) := by decide +kernel
theorem dX12_append_82 : decode cX12_append 82 = .ok (.iastore, 1) := by decide +kernel
theorem dX12_append_83 : decode cX12_append 83 = .ok (.return_, 1) := by decide +kernel
theorem dX12_crossing_0 : decode cX12_crossing 0 = .ok (.aload_n 0, 1) := by decide +kernel
theorem dX12_crossing_1 : decode cX12_crossing 1 = .ok (.iload_n 1, 1) := by decide +kernel
theorem dX12_crossing_2 : decode cX12_crossing 2 = .ok (.invokevirtual 187, 3) := by decide +kernel
theorem dX12_crossing_5 : decode cX12_crossing 5 = .ok (.ifCond .eq 33, 3) := by decide +kernel
theorem dX12_crossing_8 : decode cX12_crossing 8 = .ok (.iload_n 2, 1) := by decide +kernel
theorem dX12_crossing_9 : decode cX12_crossing 9 = .ok (.invokestatic 191, 3) := by decide +kernel
theorem dX12_crossing_12 : decode cX12_crossing 12 = .ok (.ifCond .eq 26, 3) := by decide +kernel
theorem dX12_crossing_15 : decode cX12_crossing 15 = .ok (.iload_n 3, 1) := by decide +kernel
theorem dX12_crossing_16 : decode cX12_crossing 16 = .ok (.invokestatic 191, 3) := by decide +kernel
theorem dX12_crossing_19 : decode cX12_crossing 19 = .ok (.ifCond .eq 19, 3) := by decide +kernel
theorem dX12_crossing_22 : decode cX12_crossing 22 = .ok (.iload 4, 2) := by decide +kernel
theorem dX12_crossing_24 : decode cX12_crossing 24 = .ok (.invokestatic 191, 3) := by decide +kernel
theorem dX12_crossing_27 : decode cX12_crossing 27 = .ok (.ifCond .eq 11, 3) := by decide +kernel
theorem dX12_crossing_30 : decode cX12_crossing 30 = .ok (.iload 5, 2) := by decide +kernel
theorem dX12_crossing_32 : decode cX12_crossing 32 = .ok (.invokestatic 191, 3) := by decide +kernel
theorem dX12_crossing_35 : decode cX12_crossing 35 = .ok (.ifCond .ne 10, 3) := by decide +kernel
theorem dX12_crossing_38 : decode cX12_crossing 38 = .ok (.aload_n 0, 1) := by decide +kernel
theorem dX12_crossing_39 : decode cX12_crossing 39 = .ok (.bipush (-2), 2) := by decide +kernel
theorem dX12_crossing_41 : decode cX12_crossing 41 = .ok (.invokevirtual 165, 3) := by decide +kernel
theorem dX12_crossing_44 : decode cX12_crossing 44 = .ok (.ireturn, 1) := by decide +kernel
theorem dX12_crossing_45 : decode cX12_crossing 45 = .ok (.aload_n 0, 1) := by decide +kernel
theorem dX12_crossing_46 : decode cX12_crossing 46 = .ok (.getfield 13, 3) := by decide +kernel
theorem dX12_crossing_49 : decode cX12_crossing 49 = .ok (.iload_n 1, 1) := by decide +kernel
theorem dX12_crossing_50 : decode cX12_crossing 50 = .ok (.iaload, 1) := by decide +kernel
theorem dX12_crossing_51 : decode cX12_crossing 51 = .ok (.bipush 40, 2) := by decide +kernel
theorem dX12_crossing_53 : decode cX12_crossing 53 = .ok (.if_icmp .ne 10, 3) := by decide +kernel
theorem dX12_crossing_56 : decode cX12_crossing 56 = .ok (.aload_n 0, 1) := by decide +kernel
theorem dX12_crossing_57 : decode cX12_crossing 57 = .ok (.bipush (-3), 2) := by decide +kernel
theorem dX12_crossing_59 : decode cX12_crossing 59 = .ok (.invokevirtual 165, 3) := by decide +kernel
theorem dX12_crossing_62 : decode cX12_crossing 62 = .ok (.ireturn, 1) := by decide +kernel
theorem dX12_crossing_63 : decode cX12_crossing 63 = .ok (.aload_n 0, 1) := by decide +kernel
theorem dX12_crossing_64 : decode cX12_crossing 64 = .ok (.iload_n 1, 1) := by decide +kernel
theorem dX12_crossing_65 : decode cX12_crossing 65 = .ok (.iload_n 2, 1) := by decide +kernel
theorem dX12_crossing_66 : decode cX12_crossing 66 = .ok (.iload_n 3, 1) := by decide +kernel
theorem dX12_crossing_67 : decode cX12_crossing 67 = .ok (.iload 4, 2) := by decide +kernel
theorem dX12_crossing_69 : decode cX12_crossing 69 = .ok (.iload 5, 2) := by decide +kernel
theorem dX12_crossing_71 : decode cX12_crossing 71 = .ok (.invokevirtual 194, 3) := by decide +kernel
theorem dX12_crossing_74 : decode cX12_crossing 74 = .ok (.aload_n 0, 1) := by decide +kernel
theorem dX12_crossing_75 : decode cX12_crossing 75 = .ok (.getfield 26, 3) := by decide +kernel
theorem dX12_crossing_78 : decode cX12_crossing 78 = .ok (.iload_n 1, 1) := by decide +kernel
theorem dX12_crossing_79 : decode cX12_crossing 79 = .ok (.iconst 0, 1) := by decide +kernel
theorem dX12_crossing_80 : decode cX12_crossing 80 = .ok (.iastore, 1) := by decide +kernel
theorem dX12_crossing_81 : decode cX12_crossing 81 = .ok (.aload_n 0, 1) := by decide +kernel
theorem dX12_crossing_82 : decode cX12_crossing 82 = .ok (.aload_n 0, 1) := by decide +kernel
theorem dX12_crossing_83 : decode cX12_crossing 83 = .ok (.getfield 13, 3) := by decide +kernel
theorem dX12_crossing_86 : decode cX12_crossing 86 = .ok (.iload_n 1, 1) := by decide +kernel
theorem dX12_crossing_87 : decode cX12_crossing 87 = .ok (.iaload, 1) := by decide +kernel
theorem dX12_crossing_88 : decode cX12_crossing 88 = .ok (.iconst 1, 1) := by decide +kernel
theorem dX12_crossing_89 : decode cX12_crossing 89 = .ok (.isub, 1) := by decide +kernel
theorem dX12_crossing_90 : decode cX12_crossing 90 = .ok (.invokevirtual 180, 3) := by decide +kernel
theorem dX12_crossing_93 : decode cX12_crossing 93 = .ok (.ireturn, 1) := by decide +kernel
theorem dX12_row_0 : decode cX12_row 0 = .ok (.aload_n 0, 1) := by decide +kernel
theorem dX12_row_1 : decode cX12_row 1 = .ok (.iload_n 1, 1) := by decide +kernel
theorem dX12_row_2 : decode cX12_row 2 = .ok (.invokevirtual 187, 3) := by decide +kernel
theorem dX12_row_5 : decode cX12_row 5 = .ok (.ifCond .eq 17, 3) := by decide +kernel
theorem dX12_row_8 : decode cX12_row 8 = .ok (.iload_n 3, 1) := by decide +kernel
theorem dX12_row_9 : decode cX12_row 9 = .ok (.i2l, 1) := by decide +kernel
theorem dX12_row_10 : decode cX12_row 10 = .ok (.ldc2_w 183, 3) := by decide +kernel
theorem dX12_row_13 : decode cX12_row 13 = .ok (.ldc2_w 198, 3) := by decide +kernel
theorem dX12_row_16 : decode cX12_row 16 = .ok (.invokestatic 172, 3) := by decide +kernel
theorem dX12_row_19 : decode cX12_row 19 = .ok (.ifCond .ne 10, 3) := by decide +kernel
theorem dX12_row_22 : decode cX12_row 22 = .ok (.aload_n 0, 1) := by decide +kernel
theorem dX12_row_23 : decode cX12_row 23 = .ok (.bipush (-2), 2) := by decide +kernel
theorem dX12_row_25 : decode cX12_row 25 = .ok (.invokevirtual 165, 3) := by decide +kernel
theorem dX12_row_28 : decode cX12_row 28 = .ok (.ireturn, 1) := by decide +kernel
theorem dX12_row_29 : decode cX12_row 29 = .ok (.iload_n 2, 1) := by decide +kernel
theorem dX12_row_30 : decode cX12_row 30 = .ok (.i2l, 1) := by decide +kernel
theorem dX12_row_31 : decode cX12_row 31 = .ok (.lconst 0, 1) := by decide +kernel
theorem dX12_row_32 : decode cX12_row 32 = .ok (.aload_n 0, 1) := by decide +kernel
theorem dX12_row_33 : decode cX12_row 33 = .ok (.getfield 13, 3) := by decide +kernel
theorem dX12_row_36 : decode cX12_row 36 = .ok (.iload_n 1, 1) := by decide +kernel
theorem dX12_row_37 : decode cX12_row 37 = .ok (.iaload, 1) := by decide +kernel
theorem dX12_row_38 : decode cX12_row 38 = .ok (.iconst 1, 1) := by decide +kernel
theorem dX12_row_39 : decode cX12_row 39 = .ok (.isub, 1) := by decide +kernel
theorem dX12_row_40 : decode cX12_row 40 = .ok (.i2l, 1) := by decide +kernel
theorem dX12_row_41 : decode cX12_row 41 = .ok (.invokestatic 172, 3) := by decide +kernel
theorem dX12_row_44 : decode cX12_row 44 = .ok (.ifCond .ne 9, 3) := by decide +kernel
theorem dX12_row_47 : decode cX12_row 47 = .ok (.aload_n 0, 1) := by decide +kernel
theorem dX12_row_48 : decode cX12_row 48 = .ok (.iconst 2, 1) := by decide +kernel
theorem dX12_row_49 : decode cX12_row 49 = .ok (.invokevirtual 200, 3) := by decide +kernel
theorem dX12_row_52 : decode cX12_row 52 = .ok (.ireturn, 1) := by decide +kernel
theorem dX12_row_53 : decode cX12_row 53 = .ok (.aload_n 0, 1) := by decide +kernel
theorem dX12_row_54 : decode cX12_row 54 = .ok (.getfield 19, 3) := by decide +kernel
theorem dX12_row_57 : decode cX12_row 57 = .ok (.bipush 40, 2) := by decide +kernel
theorem dX12_row_59 : decode cX12_row 59 = .ok (.iload_n 1, 1) := by decide +kernel
theorem dX12_row_60 : decode cX12_row 60 = .ok (.imul, 1) := by decide +kernel
theorem dX12_row_61 : decode cX12_row 61 = .ok (.iload_n 2, 1) := by decide +kernel
theorem dX12_row_62 : decode cX12_row 62 = .ok (.iadd, 1) := by decide +kernel
theorem dX12_row_63 : decode cX12_row 63 = .ok (.iaload, 1) := by decide +kernel
theorem dX12_row_64 : decode cX12_row 64 = .ok (.istore 4, 2) := by decide +kernel
theorem dX12_row_66 : decode cX12_row 66 = .ok (.iconst 0, 1) := by decide +kernel
theorem dX12_row_67 : decode cX12_row 67 = .ok (.istore 5, 2) := by decide +kernel
theorem dX12_row_69 : decode cX12_row 69 = .ok (.iload 5, 2) := by decide +kernel
theorem dX12_row_71 : decode cX12_row 71 = .ok (.iconst 4, 1) := by decide +kernel
theorem dX12_row_72 : decode cX12_row 72 = .ok (.if_icmp .ge 54, 3) := by decide +kernel
theorem dX12_row_75 : decode cX12_row 75 = .ok (.sipush 160, 3) := by decide +kernel
theorem dX12_row_78 : decode cX12_row 78 = .ok (.iload_n 1, 1) := by decide +kernel
theorem dX12_row_79 : decode cX12_row 79 = .ok (.imul, 1) := by decide +kernel
theorem dX12_row_80 : decode cX12_row 80 = .ok (.iconst 4, 1) := by decide +kernel
theorem dX12_row_81 : decode cX12_row 81 = .ok (.iload_n 2, 1) := by decide +kernel
theorem dX12_row_82 : decode cX12_row 82 = .ok (.imul, 1) := by decide +kernel
theorem dX12_row_83 : decode cX12_row 83 = .ok (.iadd, 1) := by decide +kernel
theorem dX12_row_84 : decode cX12_row 84 = .ok (.iload 5, 2) := by decide +kernel
theorem dX12_row_86 : decode cX12_row 86 = .ok (.iadd, 1) := by decide +kernel
theorem dX12_row_87 : decode cX12_row 87 = .ok (.istore 6, 2) := by decide +kernel
theorem dX12_row_89 : decode cX12_row 89 = .ok (.aload_n 0, 1) := by decide +kernel
theorem dX12_row_90 : decode cX12_row 90 = .ok (.getfield 23, 3) := by decide +kernel
theorem dX12_row_93 : decode cX12_row 93 = .ok (.iload 6, 2) := by decide +kernel
theorem dX12_row_95 : decode cX12_row 95 = .ok (.iload 5, 2) := by decide +kernel
theorem dX12_row_97 : decode cX12_row 97 = .ok (.iload 4, 2) := by decide +kernel
theorem dX12_row_99 : decode cX12_row 99 = .ok (.if_icmp .ge 19, 3) := by decide +kernel
theorem dX12_row_102 : decode cX12_row 102 = .ok (.iload 5, 2) := by decide +kernel
theorem dX12_row_104 : decode cX12_row 104 = .ok (.iload_n 3, 1) := by decide +kernel
theorem dX12_row_105 : decode cX12_row 105 = .ok (.if_icmp .ge 13, 3) := by decide +kernel
theorem dX12_row_108 : decode cX12_row 108 = .ok (.aload_n 0, 1) := by decide +kernel
theorem dX12_row_109 : decode cX12_row 109 = .ok (.getfield 23, 3) := by decide +kernel
theorem dX12_row_112 : decode cX12_row 112 = .ok (.iload 6, 2) := by decide +kernel
theorem dX12_row_114 : decode cX12_row 114 = .ok (.iaload, 1) := by decide +kernel
theorem dX12_row_115 : decode cX12_row 115 = .ok (.goto 4, 3) := by decide +kernel
theorem dX12_row_118 : decode cX12_row 118 = .ok (.iconst (-1), 1) := by decide +kernel
theorem dX12_row_119 : decode cX12_row 119 = .ok (.iastore, 1) := by decide +kernel
theorem dX12_row_120 : decode cX12_row 120 = .ok (.iinc 5 1, 3) := by decide +kernel
theorem dX12_row_123 : decode cX12_row 123 = .ok (.goto (-54), 3) := by decide +kernel
theorem dX12_row_126 : decode cX12_row 126 = .ok (.aload_n 0, 1) := by decide +kernel
theorem dX12_row_127 : decode cX12_row 127 = .ok (.getfield 19, 3) := by decide +kernel
theorem dX12_row_130 : decode cX12_row 130 = .ok (.bipush 40, 2) := by decide +kernel
theorem dX12_row_132 : decode cX12_row 132 = .ok (.iload_n 1, 1) := by decide +kernel
theorem dX12_row_133 : decode cX12_row 133 = .ok (.imul, 1) := by decide +kernel
theorem dX12_row_134 : decode cX12_row 134 = .ok (.iload_n 2, 1) := by decide +kernel
theorem dX12_row_135 : decode cX12_row 135 = .ok (.iadd, 1) := by decide +kernel
theorem dX12_row_136 : decode cX12_row 136 = .ok (.iload_n 3, 1) := by decide +kernel
theorem dX12_row_137 : decode cX12_row 137 = .ok (.iastore, 1) := by decide +kernel
theorem dX12_row_138 : decode cX12_row 138 = .ok (.aload_n 0, 1) := by decide +kernel
theorem dX12_row_139 : decode cX12_row 139 = .ok (.getfield 26, 3) := by decide +kernel
theorem dX12_row_142 : decode cX12_row 142 = .ok (.iload_n 1, 1) := by decide +kernel
theorem dX12_row_143 : decode cX12_row 143 = .ok (.iconst 0, 1) := by decide +kernel
theorem dX12_row_144 : decode cX12_row 144 = .ok (.iastore, 1) := by decide +kernel
theorem dX12_row_145 : decode cX12_row 145 = .ok (.aload_n 0, 1) := by decide +kernel
theorem dX12_row_146 : decode cX12_row 146 = .ok (.iconst 1, 1) := by decide +kernel
theorem dX12_row_147 : decode cX12_row 147 = .ok (.invokevirtual 180, 3) := by decide +kernel
theorem dX12_row_150 : decode cX12_row 150 = .ok (.ireturn, 1) := by decide +kernel
theorem dX12_lacks_0 : decode cX12_lacks 0 = .ok (.iload_n 2, 1) := by decide +kernel
theorem dX12_lacks_1 : decode cX12_lacks 1 = .ok (.i2l, 1) := by decide +kernel
theorem dX12_lacks_2 : decode cX12_lacks 2 = .ok (.lconst 0, 1) := by decide +kernel
theorem dX12_lacks_3 : decode cX12_lacks 3 = .ok (.aload_n 0, 1) := by decide +kernel
theorem dX12_lacks_4 : decode cX12_lacks 4 = .ok (.getfield 13, 3) := by decide +kernel
theorem dX12_lacks_7 : decode cX12_lacks 7 = .ok (.iload_n 1, 1) := by decide +kernel
theorem dX12_lacks_8 : decode cX12_lacks 8 = .ok (.iaload, 1) := by decide +kernel
theorem dX12_lacks_9 : decode cX12_lacks 9 = .ok (.iconst 1, 1) := by decide +kernel
theorem dX12_lacks_10 : decode cX12_lacks 10 = .ok (.isub, 1) := by decide +kernel
theorem dX12_lacks_11 : decode cX12_lacks 11 = .ok (.i2l, 1) := by decide +kernel
theorem dX12_lacks_12 : decode cX12_lacks 12 = .ok (.invokestatic 172, 3) := by decide +kernel
theorem dX12_lacks_15 : decode cX12_lacks 15 = .ok (.ifCond .ne 7, 3) := by decide +kernel
theorem dX12_lacks_18 : decode cX12_lacks 18 = .ok (.iconst 2, 1) := by decide +kernel
theorem dX12_lacks_19 : decode cX12_lacks 19 = .ok (.goto 49, 3) := by decide +kernel
theorem dX12_lacks_22 : decode cX12_lacks 22 = .ok (.aload_n 0, 1) := by decide +kernel
theorem dX12_lacks_23 : decode cX12_lacks 23 = .ok (.getfield 19, 3) := by decide +kernel
theorem dX12_lacks_26 : decode cX12_lacks 26 = .ok (.bipush 40, 2) := by decide +kernel
theorem dX12_lacks_28 : decode cX12_lacks 28 = .ok (.iload_n 1, 1) := by decide +kernel
theorem dX12_lacks_29 : decode cX12_lacks 29 = .ok (.imul, 1) := by decide +kernel
theorem dX12_lacks_30 : decode cX12_lacks 30 = .ok (.iload_n 2, 1) := by decide +kernel
theorem dX12_lacks_31 : decode cX12_lacks 31 = .ok (.iadd, 1) := by decide +kernel
theorem dX12_lacks_32 : decode cX12_lacks 32 = .ok (.iaload, 1) := by decide +kernel
theorem dX12_lacks_33 : decode cX12_lacks 33 = .ok (.ifCond .ge 7, 3) := by decide +kernel
theorem dX12_lacks_36 : decode cX12_lacks 36 = .ok (.iconst 1, 1) := by decide +kernel
theorem dX12_lacks_37 : decode cX12_lacks 37 = .ok (.goto 31, 3) := by decide +kernel
theorem dX12_lacks_40 : decode cX12_lacks 40 = .ok (.iload_n 3, 1) := by decide +kernel
theorem dX12_lacks_41 : decode cX12_lacks 41 = .ok (.i2l, 1) := by decide +kernel
theorem dX12_lacks_42 : decode cX12_lacks 42 = .ok (.lconst 0, 1) := by decide +kernel
theorem dX12_lacks_43 : decode cX12_lacks 43 = .ok (.aload_n 0, 1) := by decide +kernel
theorem dX12_lacks_44 : decode cX12_lacks 44 = .ok (.getfield 19, 3) := by decide +kernel
theorem dX12_lacks_47 : decode cX12_lacks 47 = .ok (.bipush 40, 2) := by decide +kernel
theorem dX12_lacks_49 : decode cX12_lacks 49 = .ok (.iload_n 1, 1) := by decide +kernel
theorem dX12_lacks_50 : decode cX12_lacks 50 = .ok (.imul, 1) := by decide +kernel
theorem dX12_lacks_51 : decode cX12_lacks 51 = .ok (.iload_n 2, 1) := by decide +kernel
theorem dX12_lacks_52 : decode cX12_lacks 52 = .ok (.iadd, 1) := by decide +kernel
theorem dX12_lacks_53 : decode cX12_lacks 53 = .ok (.iaload, 1) := by decide +kernel
theorem dX12_lacks_54 : decode cX12_lacks 54 = .ok (.iconst 1, 1) := by decide +kernel
theorem dX12_lacks_55 : decode cX12_lacks 55 = .ok (.isub, 1) := by decide +kernel
theorem dX12_lacks_56 : decode cX12_lacks 56 = .ok (.i2l, 1) := by decide +kernel
theorem dX12_lacks_57 : decode cX12_lacks 57 = .ok (.invokestatic 172, 3) := by decide +kernel
theorem dX12_lacks_60 : decode cX12_lacks 60 = .ok (.ifCond .ne 7, 3) := by decide +kernel
theorem dX12_lacks_63 : decode cX12_lacks 63 = .ok (.iconst 2, 1) := by decide +kernel
theorem dX12_lacks_64 : decode cX12_lacks 64 = .ok (.goto 4, 3) := by decide +kernel
theorem dX12_lacks_67 : decode cX12_lacks 67 = .ok (.iconst 0, 1) := by decide +kernel
theorem dX12_lacks_68 : decode cX12_lacks 68 = .ok (.ireturn, 1) := by decide +kernel
theorem dX12_end_0 : decode cX12_end 0 = .ok (.aload_n 0, 1) := by decide +kernel
theorem dX12_end_1 : decode cX12_end 1 = .ok (.iload_n 1, 1) := by decide +kernel
theorem dX12_end_2 : decode cX12_end 2 = .ok (.invokevirtual 187, 3) := by decide +kernel
theorem dX12_end_5 : decode cX12_end 5 = .ok (.ifCond .ne 10, 3) := by decide +kernel
theorem dX12_end_8 : decode cX12_end 8 = .ok (.aload_n 0, 1) := by decide +kernel
theorem dX12_end_9 : decode cX12_end 9 = .ok (.bipush (-2), 2) := by decide +kernel
theorem dX12_end_11 : decode cX12_end 11 = .ok (.invokevirtual 165, 3) := by decide +kernel
theorem dX12_end_14 : decode cX12_end 14 = .ok (.ireturn, 1) := by decide +kernel
theorem dX12_end_15 : decode cX12_end 15 = .ok (.aload_n 0, 1) := by decide +kernel
theorem dX12_end_16 : decode cX12_end 16 = .ok (.iload_n 1, 1) := by decide +kernel
theorem dX12_end_17 : decode cX12_end 17 = .ok (.iload_n 2, 1) := by decide +kernel
theorem dX12_end_18 : decode cX12_end 18 = .ok (.iload_n 3, 1) := by decide +kernel
theorem dX12_end_19 : decode cX12_end 19 = .ok (.invokevirtual 203, 3) := by decide +kernel
theorem dX12_end_22 : decode cX12_end 22 = .ok (.istore 4, 2) := by decide +kernel
theorem dX12_end_24 : decode cX12_end 24 = .ok (.iload 4, 2) := by decide +kernel
theorem dX12_end_26 : decode cX12_end 26 = .ok (.ifCond .le 12, 3) := by decide +kernel
theorem dX12_end_29 : decode cX12_end 29 = .ok (.aload_n 0, 1) := by decide +kernel
theorem dX12_end_30 : decode cX12_end 30 = .ok (.iload 4, 2) := by decide +kernel
theorem dX12_end_32 : decode cX12_end 32 = .ok (.invokevirtual 200, 3) := by decide +kernel
theorem dX12_end_35 : decode cX12_end 35 = .ok (.goto 23, 3) := by decide +kernel
theorem dX12_end_38 : decode cX12_end 38 = .ok (.aload_n 0, 1) := by decide +kernel
theorem dX12_end_39 : decode cX12_end 39 = .ok (.aload_n 0, 1) := by decide +kernel
theorem dX12_end_40 : decode cX12_end 40 = .ok (.getfield 23, 3) := by decide +kernel
theorem dX12_end_43 : decode cX12_end 43 = .ok (.sipush 160, 3) := by decide +kernel
theorem dX12_end_46 : decode cX12_end 46 = .ok (.iload_n 1, 1) := by decide +kernel
theorem dX12_end_47 : decode cX12_end 47 = .ok (.imul, 1) := by decide +kernel
theorem dX12_end_48 : decode cX12_end 48 = .ok (.iconst 4, 1) := by decide +kernel
theorem dX12_end_49 : decode cX12_end 49 = .ok (.iload_n 2, 1) := by decide +kernel
theorem dX12_end_50 : decode cX12_end 50 = .ok (.imul, 1) := by decide +kernel
theorem dX12_end_51 : decode cX12_end 51 = .ok (.iadd, 1) := by decide +kernel
theorem dX12_end_52 : decode cX12_end 52 = .ok (.iload_n 3, 1) := by decide +kernel
theorem dX12_end_53 : decode cX12_end 53 = .ok (.iadd, 1) := by decide +kernel
theorem dX12_end_54 : decode cX12_end 54 = .ok (.iaload, 1) := by decide +kernel
theorem dX12_end_55 : decode cX12_end 55 = .ok (.invokevirtual 180, 3) := by decide +kernel
theorem dX12_end_58 : decode cX12_end 58 = .ok (.ireturn, 1) := by decide +kernel
theorem dX12_put_0 : decode cX12_put 0 = .ok (.aload_n 0, 1) := by decide +kernel
theorem dX12_put_1 : decode cX12_put 1 = .ok (.iload_n 1, 1) := by decide +kernel
theorem dX12_put_2 : decode cX12_put 2 = .ok (.invokevirtual 187, 3) := by decide +kernel
theorem dX12_put_5 : decode cX12_put 5 = .ok (.ifCond .eq 11, 3) := by decide +kernel
theorem dX12_put_8 : decode cX12_put 8 = .ok (.iload 4, 2) := by decide +kernel
theorem dX12_put_10 : decode cX12_put 10 = .ok (.invokestatic 191, 3) := by decide +kernel
theorem dX12_put_13 : decode cX12_put 13 = .ok (.ifCond .ne 10, 3) := by decide +kernel
theorem dX12_put_16 : decode cX12_put 16 = .ok (.aload_n 0, 1) := by decide +kernel
theorem dX12_put_17 : decode cX12_put 17 = .ok (.bipush (-2), 2) := by decide +kernel
theorem dX12_put_19 : decode cX12_put 19 = .ok (.invokevirtual 165, 3) := by decide +kernel
theorem dX12_put_22 : decode cX12_put 22 = .ok (.ireturn, 1) := by decide +kernel
theorem dX12_put_23 : decode cX12_put 23 = .ok (.aload_n 0, 1) := by decide +kernel
theorem dX12_put_24 : decode cX12_put 24 = .ok (.iload_n 1, 1) := by decide +kernel
theorem dX12_put_25 : decode cX12_put 25 = .ok (.iload_n 2, 1) := by decide +kernel
theorem dX12_put_26 : decode cX12_put 26 = .ok (.iload_n 3, 1) := by decide +kernel
theorem dX12_put_27 : decode cX12_put 27 = .ok (.invokevirtual 203, 3) := by decide +kernel
theorem dX12_put_30 : decode cX12_put 30 = .ok (.istore 5, 2) := by decide +kernel
theorem dX12_put_32 : decode cX12_put 32 = .ok (.iload 5, 2) := by decide +kernel
theorem dX12_put_34 : decode cX12_put 34 = .ok (.ifCond .le 10, 3) := by decide +kernel
theorem dX12_put_37 : decode cX12_put 37 = .ok (.aload_n 0, 1) := by decide +kernel
theorem dX12_put_38 : decode cX12_put 38 = .ok (.iload 5, 2) := by decide +kernel
theorem dX12_put_40 : decode cX12_put 40 = .ok (.invokevirtual 200, 3) := by decide +kernel
theorem dX12_put_43 : decode cX12_put 43 = .ok (.ireturn, 1) := by decide +kernel
theorem dX12_put_44 : decode cX12_put 44 = .ok (.aload_n 0, 1) := by decide +kernel
theorem dX12_put_45 : decode cX12_put 45 = .ok (.getfield 23, 3) := by decide +kernel
theorem dX12_put_48 : decode cX12_put 48 = .ok (.sipush 160, 3) := by decide +kernel
theorem dX12_put_51 : decode cX12_put 51 = .ok (.iload_n 1, 1) := by decide +kernel
theorem dX12_put_52 : decode cX12_put 52 = .ok (.imul, 1) := by decide +kernel
theorem dX12_put_53 : decode cX12_put 53 = .ok (.iconst 4, 1) := by decide +kernel
theorem dX12_put_54 : decode cX12_put 54 = .ok (.iload_n 2, 1) := by decide +kernel
theorem dX12_put_55 : decode cX12_put 55 = .ok (.imul, 1) := by decide +kernel
theorem dX12_put_56 : decode cX12_put 56 = .ok (.iadd, 1) := by decide +kernel
theorem dX12_put_57 : decode cX12_put 57 = .ok (.iload_n 3, 1) := by decide +kernel
theorem dX12_put_58 : decode cX12_put 58 = .ok (.iadd, 1) := by decide +kernel
theorem dX12_put_59 : decode cX12_put 59 = .ok (.iload 4, 2) := by decide +kernel
theorem dX12_put_61 : decode cX12_put 61 = .ok (.iastore, 1) := by decide +kernel
theorem dX12_put_62 : decode cX12_put 62 = .ok (.aload_n 0, 1) := by decide +kernel
theorem dX12_put_63 : decode cX12_put 63 = .ok (.getfield 26, 3) := by decide +kernel
theorem dX12_put_66 : decode cX12_put 66 = .ok (.iload_n 1, 1) := by decide +kernel
theorem dX12_put_67 : decode cX12_put 67 = .ok (.iconst 0, 1) := by decide +kernel
theorem dX12_put_68 : decode cX12_put 68 = .ok (.iastore, 1) := by decide +kernel
theorem dX12_put_69 : decode cX12_put 69 = .ok (.aload_n 0, 1) := by decide +kernel
theorem dX12_put_70 : decode cX12_put 70 = .ok (.iconst 1, 1) := by decide +kernel
theorem dX12_put_71 : decode cX12_put 71 = .ok (.invokevirtual 180, 3) := by decide +kernel
theorem dX12_put_74 : decode cX12_put 74 = .ok (.ireturn, 1) := by decide +kernel
theorem dX12_copy_0 : decode cX12_copy 0 = .ok (.aload_n 0, 1) := by decide +kernel
theorem dX12_copy_1 : decode cX12_copy 1 = .ok (.iload_n 1, 1) := by decide +kernel
theorem dX12_copy_2 : decode cX12_copy 2 = .ok (.invokevirtual 187, 3) := by decide +kernel
theorem dX12_copy_5 : decode cX12_copy 5 = .ok (.ifCond .eq 12, 3) := by decide +kernel
theorem dX12_copy_8 : decode cX12_copy 8 = .ok (.aload_n 0, 1) := by decide +kernel
theorem dX12_copy_9 : decode cX12_copy 9 = .ok (.iload 4, 2) := by decide +kernel
theorem dX12_copy_11 : decode cX12_copy 11 = .ok (.invokevirtual 187, 3) := by decide +kernel
theorem dX12_copy_14 : decode cX12_copy 14 = .ok (.ifCond .ne 10, 3) := by decide +kernel
theorem dX12_copy_17 : decode cX12_copy 17 = .ok (.aload_n 0, 1) := by decide +kernel
theorem dX12_copy_18 : decode cX12_copy 18 = .ok (.bipush (-2), 2) := by decide +kernel
theorem dX12_copy_20 : decode cX12_copy 20 = .ok (.invokevirtual 165, 3) := by decide +kernel
theorem dX12_copy_23 : decode cX12_copy 23 = .ok (.ireturn, 1) := by decide +kernel
theorem dX12_copy_24 : decode cX12_copy 24 = .ok (.iload_n 2, 1) := by decide +kernel
theorem dX12_copy_25 : decode cX12_copy 25 = .ok (.i2l, 1) := by decide +kernel
theorem dX12_copy_26 : decode cX12_copy 26 = .ok (.lconst 0, 1) := by decide +kernel
theorem dX12_copy_27 : decode cX12_copy 27 = .ok (.aload_n 0, 1) := by decide +kernel
theorem dX12_copy_28 : decode cX12_copy 28 = .ok (.getfield 13, 3) := by decide +kernel
theorem dX12_copy_31 : decode cX12_copy 31 = .ok (.iload_n 1, 1) := by decide +kernel
theorem dX12_copy_32 : decode cX12_copy 32 = .ok (.iaload, 1) := by decide +kernel
theorem dX12_copy_33 : decode cX12_copy 33 = .ok (.iconst 1, 1) := by decide +kernel
theorem dX12_copy_34 : decode cX12_copy 34 = .ok (.isub, 1) := by decide +kernel
theorem dX12_copy_35 : decode cX12_copy 35 = .ok (.i2l, 1) := by decide +kernel
theorem dX12_copy_36 : decode cX12_copy 36 = .ok (.invokestatic 172, 3) := by decide +kernel
theorem dX12_copy_39 : decode cX12_copy 39 = .ok (.ifCond .eq 23, 3) := by decide +kernel
theorem dX12_copy_42 : decode cX12_copy 42 = .ok (.iload 5, 2) := by decide +kernel
theorem dX12_copy_44 : decode cX12_copy 44 = .ok (.i2l, 1) := by decide +kernel
theorem dX12_copy_45 : decode cX12_copy 45 = .ok (.lconst 0, 1) := by decide +kernel
theorem dX12_copy_46 : decode cX12_copy 46 = .ok (.aload_n 0, 1) := by decide +kernel
theorem dX12_copy_47 : decode cX12_copy 47 = .ok (.getfield 13, 3) := by decide +kernel
theorem dX12_copy_50 : decode cX12_copy 50 = .ok (.iload 4, 2) := by decide +kernel
theorem dX12_copy_52 : decode cX12_copy 52 = .ok (.iaload, 1) := by decide +kernel
theorem dX12_copy_53 : decode cX12_copy 53 = .ok (.iconst 1, 1) := by decide +kernel
theorem dX12_copy_54 : decode cX12_copy 54 = .ok (.isub, 1) := by decide +kernel
theorem dX12_copy_55 : decode cX12_copy 55 = .ok (.i2l, 1) := by decide +kernel
theorem dX12_copy_56 : decode cX12_copy 56 = .ok (.invokestatic 172, 3) := by decide +kernel
theorem dX12_copy_59 : decode cX12_copy 59 = .ok (.ifCond .ne 9, 3) := by decide +kernel
theorem dX12_copy_62 : decode cX12_copy 62 = .ok (.aload_n 0, 1) := by decide +kernel
theorem dX12_copy_63 : decode cX12_copy 63 = .ok (.iconst 2, 1) := by decide +kernel
theorem dX12_copy_64 : decode cX12_copy 64 = .ok (.invokevirtual 200, 3) := by decide +kernel
theorem dX12_copy_67 : decode cX12_copy 67 = .ok (.ireturn, 1) := by decide +kernel
theorem dX12_copy_68 : decode cX12_copy 68 = .ok (.aload_n 0, 1) := by decide +kernel
theorem dX12_copy_69 : decode cX12_copy 69 = .ok (.getfield 19, 3) := by decide +kernel
theorem dX12_copy_72 : decode cX12_copy 72 = .ok (.bipush 40, 2) := by decide +kernel
theorem dX12_copy_74 : decode cX12_copy 74 = .ok (.iload_n 1, 1) := by decide +kernel
theorem dX12_copy_75 : decode cX12_copy 75 = .ok (.imul, 1) := by decide +kernel
theorem dX12_copy_76 : decode cX12_copy 76 = .ok (.iload_n 2, 1) := by decide +kernel
theorem dX12_copy_77 : decode cX12_copy 77 = .ok (.iadd, 1) := by decide +kernel
theorem dX12_copy_78 : decode cX12_copy 78 = .ok (.iaload, 1) := by decide +kernel
theorem dX12_copy_79 : decode cX12_copy 79 = .ok (.istore 8, 2) := by decide +kernel
theorem dX12_copy_81 : decode cX12_copy 81 = .ok (.aload_n 0, 1) := by decide +kernel
theorem dX12_copy_82 : decode cX12_copy 82 = .ok (.getfield 19, 3) := by decide +kernel
theorem dX12_copy_85 : decode cX12_copy 85 = .ok (.bipush 40, 2) := by decide +kernel
theorem dX12_copy_87 : decode cX12_copy 87 = .ok (.iload 4, 2) := by decide +kernel
theorem dX12_copy_89 : decode cX12_copy 89 = .ok (.imul, 1) := by decide +kernel
theorem dX12_copy_90 : decode cX12_copy 90 = .ok (.iload 5, 2) := by decide +kernel
theorem dX12_copy_92 : decode cX12_copy 92 = .ok (.iadd, 1) := by decide +kernel
theorem dX12_copy_93 : decode cX12_copy 93 = .ok (.iaload, 1) := by decide +kernel
theorem dX12_copy_94 : decode cX12_copy 94 = .ok (.istore 9, 2) := by decide +kernel
theorem dX12_copy_96 : decode cX12_copy 96 = .ok (.iload 8, 2) := by decide +kernel
theorem dX12_copy_98 : decode cX12_copy 98 = .ok (.ifCond .lt 8, 3) := by decide +kernel
theorem dX12_copy_101 : decode cX12_copy 101 = .ok (.iload 9, 2) := by decide +kernel
theorem dX12_copy_103 : decode cX12_copy 103 = .ok (.ifCond .ge 9, 3) := by decide +kernel
theorem dX12_copy_106 : decode cX12_copy 106 = .ok (.aload_n 0, 1) := by decide +kernel
theorem dX12_copy_107 : decode cX12_copy 107 = .ok (.iconst 1, 1) := by decide +kernel
theorem dX12_copy_108 : decode cX12_copy 108 = .ok (.invokevirtual 200, 3) := by decide +kernel
theorem dX12_copy_111 : decode cX12_copy 111 = .ok (.ireturn, 1) := by decide +kernel
theorem dX12_copy_112 : decode cX12_copy 112 = .ok (.iload_n 3, 1) := by decide +kernel
theorem dX12_copy_113 : decode cX12_copy 113 = .ok (.ifCond .lt 40, 3) := by decide +kernel
theorem dX12_copy_116 : decode cX12_copy 116 = .ok (.iload 6, 2) := by decide +kernel
theorem dX12_copy_118 : decode cX12_copy 118 = .ok (.ifCond .lt 35, 3) := by decide +kernel
theorem dX12_copy_121 : decode cX12_copy 121 = .ok (.iload 7, 2) := by decide +kernel
theorem dX12_copy_123 : decode cX12_copy 123 = .ok (.ifCond .lt 30, 3) := by decide +kernel
theorem dX12_copy_126 : decode cX12_copy 126 = .ok (.iload_n 3, 1) := by decide +kernel
theorem dX12_copy_127 : decode cX12_copy 127 = .ok (.i2l, 1) := by decide +kernel
theorem dX12_copy_128 : decode cX12_copy 128 = .ok (.iload 7, 2) := by decide +kernel
theorem dX12_copy_130 : decode cX12_copy 130 = .ok (.i2l, 1) := by decide +kernel
theorem dX12_copy_131 : decode cX12_copy 131 = .ok (.ladd, 1) := by decide +kernel
theorem dX12_copy_132 : decode cX12_copy 132 = .ok (.iload 8, 2) := by decide +kernel
theorem dX12_copy_134 : decode cX12_copy 134 = .ok (.i2l, 1) := by decide +kernel
theorem dX12_copy_135 : decode cX12_copy 135 = .ok (.lcmp, 1) := by decide +kernel
theorem dX12_copy_136 : decode cX12_copy 136 = .ok (.ifCond .gt 17, 3) := by decide +kernel
theorem dX12_copy_139 : decode cX12_copy 139 = .ok (.iload 6, 2) := by decide +kernel
theorem dX12_copy_141 : decode cX12_copy 141 = .ok (.i2l, 1) := by decide +kernel
theorem dX12_copy_142 : decode cX12_copy 142 = .ok (.iload 7, 2) := by decide +kernel
theorem dX12_copy_144 : decode cX12_copy 144 = .ok (.i2l, 1) := by decide +kernel
theorem dX12_copy_145 : decode cX12_copy 145 = .ok (.ladd, 1) := by decide +kernel
theorem dX12_copy_146 : decode cX12_copy 146 = .ok (.iload 9, 2) := by decide +kernel
theorem dX12_copy_148 : decode cX12_copy 148 = .ok (.i2l, 1) := by decide +kernel
theorem dX12_copy_149 : decode cX12_copy 149 = .ok (.lcmp, 1) := by decide +kernel
theorem dX12_copy_150 : decode cX12_copy 150 = .ok (.ifCond .le 9, 3) := by decide +kernel
theorem dX12_copy_153 : decode cX12_copy 153 = .ok (.aload_n 0, 1) := by decide +kernel
theorem dX12_copy_154 : decode cX12_copy 154 = .ok (.iconst 2, 1) := by decide +kernel
theorem dX12_copy_155 : decode cX12_copy 155 = .ok (.invokevirtual 200, 3) := by decide +kernel
theorem dX12_copy_158 : decode cX12_copy 158 = .ok (.ireturn, 1) := by decide +kernel
theorem dX12_copy_159 : decode cX12_copy 159 = .ok (.iconst 0, 1) := by decide +kernel
theorem dX12_copy_160 : decode cX12_copy 160 = .ok (.istore 10, 2) := by decide +kernel
theorem dX12_copy_162 : decode cX12_copy 162 = .ok (.iload 10, 2) := by decide +kernel
theorem dX12_copy_164 : decode cX12_copy 164 = .ok (.iload 7, 2) := by decide +kernel
theorem dX12_copy_166 : decode cX12_copy 166 = .ok (.if_icmp .ge 35, 3) := by decide +kernel
theorem dX12_copy_169 : decode cX12_copy 169 = .ok (.aload_n 0, 1) := by decide +kernel
theorem dX12_copy_170 : decode cX12_copy 170 = .ok (.getfield 29, 3) := by decide +kernel
theorem dX12_copy_173 : decode cX12_copy 173 = .ok (.iload 10, 2) := by decide +kernel
theorem dX12_copy_175 : decode cX12_copy 175 = .ok (.aload_n 0, 1) := by decide +kernel
theorem dX12_copy_176 : decode cX12_copy 176 = .ok (.getfield 23, 3) := by decide +kernel
theorem dX12_copy_179 : decode cX12_copy 179 = .ok (.sipush 160, 3) := by decide +kernel
theorem dX12_copy_182 : decode cX12_copy 182 = .ok (.iload_n 1, 1) := by decide +kernel
theorem dX12_copy_183 : decode cX12_copy 183 = .ok (.imul, 1) := by decide +kernel
theorem dX12_copy_184 : decode cX12_copy 184 = .ok (.iconst 4, 1) := by decide +kernel
theorem dX12_copy_185 : decode cX12_copy 185 = .ok (.iload_n 2, 1) := by decide +kernel
theorem dX12_copy_186 : decode cX12_copy 186 = .ok (.imul, 1) := by decide +kernel
theorem dX12_copy_187 : decode cX12_copy 187 = .ok (.iadd, 1) := by decide +kernel
theorem dX12_copy_188 : decode cX12_copy 188 = .ok (.iload_n 3, 1) := by decide +kernel
theorem dX12_copy_189 : decode cX12_copy 189 = .ok (.iadd, 1) := by decide +kernel
theorem dX12_copy_190 : decode cX12_copy 190 = .ok (.iload 10, 2) := by decide +kernel
theorem dX12_copy_192 : decode cX12_copy 192 = .ok (.iadd, 1) := by decide +kernel
theorem dX12_copy_193 : decode cX12_copy 193 = .ok (.iaload, 1) := by decide +kernel
theorem dX12_copy_194 : decode cX12_copy 194 = .ok (.iastore, 1) := by decide +kernel
theorem dX12_copy_195 : decode cX12_copy 195 = .ok (.iinc 10 1, 3) := by decide +kernel
theorem dX12_copy_198 : decode cX12_copy 198 = .ok (.goto (-36), 3) := by decide +kernel
theorem dX12_copy_201 : decode cX12_copy 201 = .ok (.iconst 0, 1) := by decide +kernel
theorem dX12_copy_202 : decode cX12_copy 202 = .ok (.istore 10, 2) := by decide +kernel
theorem dX12_copy_204 : decode cX12_copy 204 = .ok (.iload 10, 2) := by decide +kernel
theorem dX12_copy_206 : decode cX12_copy 206 = .ok (.iload 7, 2) := by decide +kernel
theorem dX12_copy_208 : decode cX12_copy 208 = .ok (.if_icmp .ge 38, 3) := by decide +kernel
theorem dX12_copy_211 : decode cX12_copy 211 = .ok (.aload_n 0, 1) := by decide +kernel
theorem dX12_copy_212 : decode cX12_copy 212 = .ok (.getfield 23, 3) := by decide +kernel
theorem dX12_copy_215 : decode cX12_copy 215 = .ok (.sipush 160, 3) := by decide +kernel
theorem dX12_copy_218 : decode cX12_copy 218 = .ok (.iload 4, 2) := by decide +kernel
theorem dX12_copy_220 : decode cX12_copy 220 = .ok (.imul, 1) := by decide +kernel
theorem dX12_copy_221 : decode cX12_copy 221 = .ok (.iconst 4, 1) := by decide +kernel
theorem dX12_copy_222 : decode cX12_copy 222 = .ok (.iload 5, 2) := by decide +kernel
theorem dX12_copy_224 : decode cX12_copy 224 = .ok (.imul, 1) := by decide +kernel
theorem dX12_copy_225 : decode cX12_copy 225 = .ok (.iadd, 1) := by decide +kernel
theorem dX12_copy_226 : decode cX12_copy 226 = .ok (.iload 6, 2) := by decide +kernel
theorem dX12_copy_228 : decode cX12_copy 228 = .ok (.iadd, 1) := by decide +kernel
theorem dX12_copy_229 : decode cX12_copy 229 = .ok (.iload 10, 2) := by decide +kernel
theorem dX12_copy_231 : decode cX12_copy 231 = .ok (.iadd, 1) := by decide +kernel
theorem dX12_copy_232 : decode cX12_copy 232 = .ok (.aload_n 0, 1) := by decide +kernel
theorem dX12_copy_233 : decode cX12_copy 233 = .ok (.getfield 29, 3) := by decide +kernel
theorem dX12_copy_236 : decode cX12_copy 236 = .ok (.iload 10, 2) := by decide +kernel
theorem dX12_copy_238 : decode cX12_copy 238 = .ok (.iaload, 1) := by decide +kernel
theorem dX12_copy_239 : decode cX12_copy 239 = .ok (.iastore, 1) := by decide +kernel
theorem dX12_copy_240 : decode cX12_copy 240 = .ok (.iinc 10 1, 3) := by decide +kernel
theorem dX12_copy_243 : decode cX12_copy 243 = .ok (.goto (-39), 3) := by decide +kernel
theorem dX12_copy_246 : decode cX12_copy 246 = .ok (.aload_n 0, 1) := by decide +kernel
theorem dX12_copy_247 : decode cX12_copy 247 = .ok (.getfield 26, 3) := by decide +kernel
theorem dX12_copy_250 : decode cX12_copy 250 = .ok (.iload 4, 2) := by decide +kernel
theorem dX12_copy_252 : decode cX12_copy 252 = .ok (.iconst 0, 1) := by decide +kernel
theorem dX12_copy_253 : decode cX12_copy 253 = .ok (.iastore, 1) := by decide +kernel
theorem dX12_copy_254 : decode cX12_copy 254 = .ok (.aload_n 0, 1) := by decide +kernel
theorem dX12_copy_255 : decode cX12_copy 255 = .ok (.iconst 1, 1) := by decide +kernel
theorem dX12_copy_256 : decode cX12_copy 256 = .ok (.invokevirtual 180, 3) := by decide +kernel
theorem dX12_copy_259 : decode cX12_copy 259 = .ok (.ireturn, 1) := by decide +kernel
theorem dX12_loose_0 : decode cX12_loose 0 = .ok (.aload_n 0, 1) := by decide +kernel
theorem dX12_loose_1 : decode cX12_loose 1 = .ok (.iload_n 1, 1) := by decide +kernel
theorem dX12_loose_2 : decode cX12_loose 2 = .ok (.invokevirtual 187, 3) := by decide +kernel
theorem dX12_loose_5 : decode cX12_loose 5 = .ok (.ifCond .eq 15, 3) := by decide +kernel
theorem dX12_loose_8 : decode cX12_loose 8 = .ok (.iload_n 2, 1) := by decide +kernel
theorem dX12_loose_9 : decode cX12_loose 9 = .ok (.i2l, 1) := by decide +kernel
theorem dX12_loose_10 : decode cX12_loose 10 = .ok (.lconst 0, 1) := by decide +kernel
theorem dX12_loose_11 : decode cX12_loose 11 = .ok (.ldc2_w 207, 3) := by decide +kernel
theorem dX12_loose_14 : decode cX12_loose 14 = .ok (.invokestatic 172, 3) := by decide +kernel
theorem dX12_loose_17 : decode cX12_loose 17 = .ok (.ifCond .ne 10, 3) := by decide +kernel
theorem dX12_loose_20 : decode cX12_loose 20 = .ok (.aload_n 0, 1) := by decide +kernel
theorem dX12_loose_21 : decode cX12_loose 21 = .ok (.bipush (-2), 2) := by decide +kernel
theorem dX12_loose_23 : decode cX12_loose 23 = .ok (.invokevirtual 165, 3) := by decide +kernel
theorem dX12_loose_26 : decode cX12_loose 26 = .ok (.ireturn, 1) := by decide +kernel
theorem dX12_loose_27 : decode cX12_loose 27 = .ok (.aload_n 0, 1) := by decide +kernel
theorem dX12_loose_28 : decode cX12_loose 28 = .ok (.getfield 16, 3) := by decide +kernel
theorem dX12_loose_31 : decode cX12_loose 31 = .ok (.iload_n 1, 1) := by decide +kernel
theorem dX12_loose_32 : decode cX12_loose 32 = .ok (.iaload, 1) := by decide +kernel
theorem dX12_loose_33 : decode cX12_loose 33 = .ok (.istore_n 3, 1) := by decide +kernel
theorem dX12_loose_34 : decode cX12_loose 34 = .ok (.aload_n 0, 1) := by decide +kernel
theorem dX12_loose_35 : decode cX12_loose 35 = .ok (.getfield 16, 3) := by decide +kernel
theorem dX12_loose_38 : decode cX12_loose 38 = .ok (.iload_n 1, 1) := by decide +kernel
theorem dX12_loose_39 : decode cX12_loose 39 = .ok (.iload_n 2, 1) := by decide +kernel
theorem dX12_loose_40 : decode cX12_loose 40 = .ok (.iastore, 1) := by decide +kernel
theorem dX12_loose_41 : decode cX12_loose 41 = .ok (.aload_n 0, 1) := by decide +kernel
theorem dX12_loose_42 : decode cX12_loose 42 = .ok (.getfield 26, 3) := by decide +kernel
theorem dX12_loose_45 : decode cX12_loose 45 = .ok (.iload_n 1, 1) := by decide +kernel
theorem dX12_loose_46 : decode cX12_loose 46 = .ok (.iconst 0, 1) := by decide +kernel
theorem dX12_loose_47 : decode cX12_loose 47 = .ok (.iastore, 1) := by decide +kernel
theorem dX12_loose_48 : decode cX12_loose 48 = .ok (.aload_n 0, 1) := by decide +kernel
theorem dX12_loose_49 : decode cX12_loose 49 = .ok (.iload_n 3, 1) := by decide +kernel
theorem dX12_loose_50 : decode cX12_loose 50 = .ok (.invokevirtual 180, 3) := by decide +kernel
theorem dX12_loose_53 : decode cX12_loose 53 = .ok (.ireturn, 1) := by decide +kernel
theorem dX12_link_0 : decode cX12_link 0 = .ok (.iconst 0, 1) := by decide +kernel
theorem dX12_link_1 : decode cX12_link 1 = .ok (.istore_n 2, 1) := by decide +kernel
theorem dX12_link_2 : decode cX12_link 2 = .ok (.iload_n 2, 1) := by decide +kernel
theorem dX12_link_3 : decode cX12_link 3 = .ok (.bipush 100, 2) := by decide +kernel
theorem dX12_link_5 : decode cX12_link 5 = .ok (.if_icmp .ge 16, 3) := by decide +kernel
theorem dX12_link_8 : decode cX12_link 8 = .ok (.aload_n 0, 1) := by decide +kernel
theorem dX12_link_9 : decode cX12_link 9 = .ok (.getfield 46, 3) := by decide +kernel
theorem dX12_link_12 : decode cX12_link 12 = .ok (.iload_n 2, 1) := by decide +kernel
theorem dX12_link_13 : decode cX12_link 13 = .ok (.iconst (-1), 1) := by decide +kernel
theorem dX12_link_14 : decode cX12_link 14 = .ok (.iastore, 1) := by decide +kernel
theorem dX12_link_15 : decode cX12_link 15 = .ok (.iinc 2 1, 3) := by decide +kernel
theorem dX12_link_18 : decode cX12_link 18 = .ok (.goto (-16), 3) := by decide +kernel
theorem dX12_link_21 : decode cX12_link 21 = .ok (.iconst 0, 1) := by decide +kernel
theorem dX12_link_22 : decode cX12_link 22 = .ok (.istore_n 2, 1) := by decide +kernel
theorem dX12_link_23 : decode cX12_link 23 = .ok (.iload_n 2, 1) := by decide +kernel
theorem dX12_link_24 : decode cX12_link 24 = .ok (.iconst 4, 1) := by decide +kernel
theorem dX12_link_25 : decode cX12_link 25 = .ok (.aload_n 0, 1) := by decide +kernel
theorem dX12_link_26 : decode cX12_link 26 = .ok (.getfield 13, 3) := by decide +kernel
theorem dX12_link_29 : decode cX12_link 29 = .ok (.iload_n 1, 1) := by decide +kernel
theorem dX12_link_30 : decode cX12_link 30 = .ok (.iaload, 1) := by decide +kernel
theorem dX12_link_31 : decode cX12_link 31 = .ok (.imul, 1) := by decide +kernel
theorem dX12_link_32 : decode cX12_link 32 = .ok (.if_icmp .ge 66, 3) := by decide +kernel
theorem dX12_link_35 : decode cX12_link 35 = .ok (.aload_n 0, 1) := by decide +kernel
theorem dX12_link_36 : decode cX12_link 36 = .ok (.getfield 23, 3) := by decide +kernel
theorem dX12_link_39 : decode cX12_link 39 = .ok (.sipush 160, 3) := by decide +kernel
theorem dX12_link_42 : decode cX12_link 42 = .ok (.iload_n 1, 1) := by decide +kernel
theorem dX12_link_43 : decode cX12_link 43 = .ok (.imul, 1) := by decide +kernel
theorem dX12_link_44 : decode cX12_link 44 = .ok (.iload_n 2, 1) := by decide +kernel
theorem dX12_link_45 : decode cX12_link 45 = .ok (.iadd, 1) := by decide +kernel
theorem dX12_link_46 : decode cX12_link 46 = .ok (.iaload, 1) := by decide +kernel
theorem dX12_link_47 : decode cX12_link 47 = .ok (.istore_n 3, 1) := by decide +kernel
theorem dX12_link_48 : decode cX12_link 48 = .ok (.aload_n 0, 1) := by decide +kernel
theorem dX12_link_49 : decode cX12_link 49 = .ok (.getfield 46, 3) := by decide +kernel
theorem dX12_link_52 : decode cX12_link 52 = .ok (.iload_n 3, 1) := by decide +kernel
theorem dX12_link_53 : decode cX12_link 53 = .ok (.iaload, 1) := by decide +kernel
theorem dX12_link_54 : decode cX12_link 54 = .ok (.iconst (-1), 1) := by decide +kernel
theorem dX12_link_55 : decode cX12_link 55 = .ok (.if_icmp .ne 13, 3) := by decide +kernel
theorem dX12_link_58 : decode cX12_link 58 = .ok (.aload_n 0, 1) := by decide +kernel
theorem dX12_link_59 : decode cX12_link 59 = .ok (.getfield 46, 3) := by decide +kernel
theorem dX12_link_62 : decode cX12_link 62 = .ok (.iload_n 3, 1) := by decide +kernel
theorem dX12_link_63 : decode cX12_link 63 = .ok (.iload_n 2, 1) := by decide +kernel
theorem dX12_link_64 : decode cX12_link 64 = .ok (.iastore, 1) := by decide +kernel
theorem dX12_link_65 : decode cX12_link 65 = .ok (.goto 27, 3) := by decide +kernel
theorem dX12_link_68 : decode cX12_link 68 = .ok (.aload_n 0, 1) := by decide +kernel
theorem dX12_link_69 : decode cX12_link 69 = .ok (.getfield 36, 3) := by decide +kernel
theorem dX12_link_72 : decode cX12_link 72 = .ok (.iload_n 2, 1) := by decide +kernel
theorem dX12_link_73 : decode cX12_link 73 = .ok (.aload_n 0, 1) := by decide +kernel
theorem dX12_link_74 : decode cX12_link 74 = .ok (.getfield 46, 3) := by decide +kernel
theorem dX12_link_77 : decode cX12_link 77 = .ok (.iload_n 3, 1) := by decide +kernel
theorem dX12_link_78 : decode cX12_link 78 = .ok (.iaload, 1) := by decide +kernel
theorem dX12_link_79 : decode cX12_link 79 = .ok (.iastore, 1) := by decide +kernel
theorem dX12_link_80 : decode cX12_link 80 = .ok (.aload_n 0, 1) := by decide +kernel
theorem dX12_link_81 : decode cX12_link 81 = .ok (.getfield 36, 3) := by decide +kernel
theorem dX12_link_84 : decode cX12_link 84 = .ok (.aload_n 0, 1) := by decide +kernel
theorem dX12_link_85 : decode cX12_link 85 = .ok (.getfield 46, 3) := by decide +kernel
theorem dX12_link_88 : decode cX12_link 88 = .ok (.iload_n 3, 1) := by decide +kernel
theorem dX12_link_89 : decode cX12_link 89 = .ok (.iaload, 1) := by decide +kernel
theorem dX12_link_90 : decode cX12_link 90 = .ok (.iload_n 2, 1) := by decide +kernel
theorem dX12_link_91 : decode cX12_link 91 = .ok (.iastore, 1) := by decide +kernel
theorem dX12_link_92 : decode cX12_link 92 = .ok (.iinc 2 1, 3) := by decide +kernel
theorem dX12_link_95 : decode cX12_link 95 = .ok (.goto (-72), 3) := by decide +kernel
theorem dX12_link_98 : decode cX12_link 98 = .ok (.return_, 1) := by decide +kernel
theorem dX12_turned_0 : decode cX12_turned 0 = .ok (.iload_n 0, 1) := by decide +kernel
theorem dX12_turned_1 : decode cX12_turned 1 = .ok (.iconst 4, 1) := by decide +kernel
theorem dX12_turned_2 : decode cX12_turned 2 = .ok (.idiv, 1) := by decide +kernel
theorem dX12_turned_3 : decode cX12_turned 3 = .ok (.iconst 4, 1) := by decide +kernel
theorem dX12_turned_4 : decode cX12_turned 4 = .ok (.imul, 1) := by decide +kernel
theorem dX12_turned_5 : decode cX12_turned 5 = .ok (.iload_n 0, 1) := by decide +kernel
theorem dX12_turned_6 : decode cX12_turned 6 = .ok (.iload_n 1, 1) := by decide +kernel
theorem dX12_turned_7 : decode cX12_turned 7 = .ok (.iadd, 1) := by decide +kernel
theorem dX12_turned_8 : decode cX12_turned 8 = .ok (.iconst 3, 1) := by decide +kernel
theorem dX12_turned_9 : decode cX12_turned 9 = .ok (.iand, 1) := by decide +kernel
theorem dX12_turned_10 : decode cX12_turned 10 = .ok (.iadd, 1) := by decide +kernel
theorem dX12_turned_11 : decode cX12_turned 11 = .ok (.ireturn, 1) := by decide +kernel
theorem dX12_nextOfFace_0 : decode cX12_nextOfFace 0 = .ok (.aload_n 0, 1) := by decide +kernel
theorem dX12_nextOfFace_1 : decode cX12_nextOfFace 1 = .ok (.getfield 36, 3) := by decide +kernel
theorem dX12_nextOfFace_4 : decode cX12_nextOfFace 4 = .ok (.iload_n 1, 1) := by decide +kernel
theorem dX12_nextOfFace_5 : decode cX12_nextOfFace 5 = .ok (.iaload, 1) := by decide +kernel
theorem dX12_nextOfFace_6 : decode cX12_nextOfFace 6 = .ok (.iconst 3, 1) := by decide +kernel
theorem dX12_nextOfFace_7 : decode cX12_nextOfFace 7 = .ok (.invokestatic 209, 3) := by decide +kernel
theorem dX12_nextOfFace_10 : decode cX12_nextOfFace 10 = .ok (.ireturn, 1) := by decide +kernel
theorem dX12_facesOf_0 : decode cX12_facesOf 0 = .ok (.iconst 0, 1) := by decide +kernel
theorem dX12_facesOf_1 : decode cX12_facesOf 1 = .ok (.istore_n 2, 1) := by decide +kernel
theorem dX12_facesOf_2 : decode cX12_facesOf 2 = .ok (.iconst 0, 1) := by decide +kernel
theorem dX12_facesOf_3 : decode cX12_facesOf 3 = .ok (.istore_n 3, 1) := by decide +kernel
theorem dX12_facesOf_4 : decode cX12_facesOf 4 = .ok (.iload_n 3, 1) := by decide +kernel
theorem dX12_facesOf_5 : decode cX12_facesOf 5 = .ok (.iconst 4, 1) := by decide +kernel
theorem dX12_facesOf_6 : decode cX12_facesOf 6 = .ok (.aload_n 0, 1) := by decide +kernel
theorem dX12_facesOf_7 : decode cX12_facesOf 7 = .ok (.getfield 13, 3) := by decide +kernel
theorem dX12_facesOf_10 : decode cX12_facesOf 10 = .ok (.iload_n 1, 1) := by decide +kernel
theorem dX12_facesOf_11 : decode cX12_facesOf 11 = .ok (.iaload, 1) := by decide +kernel
theorem dX12_facesOf_12 : decode cX12_facesOf 12 = .ok (.imul, 1) := by decide +kernel
theorem dX12_facesOf_13 : decode cX12_facesOf 13 = .ok (.if_icmp .ge 16, 3) := by decide +kernel
theorem dX12_facesOf_16 : decode cX12_facesOf 16 = .ok (.aload_n 0, 1) := by decide +kernel
theorem dX12_facesOf_17 : decode cX12_facesOf 17 = .ok (.getfield 42, 3) := by decide +kernel
theorem dX12_facesOf_20 : decode cX12_facesOf 20 = .ok (.iload_n 3, 1) := by decide +kernel
theorem dX12_facesOf_21 : decode cX12_facesOf 21 = .ok (.iconst 0, 1) := by decide +kernel
theorem dX12_facesOf_22 : decode cX12_facesOf 22 = .ok (.bastore, 1) := by decide +kernel
theorem dX12_facesOf_23 : decode cX12_facesOf 23 = .ok (.iinc 3 1, 3) := by decide +kernel
theorem dX12_facesOf_26 : decode cX12_facesOf 26 = .ok (.goto (-22), 3) := by decide +kernel
theorem dX12_facesOf_29 : decode cX12_facesOf 29 = .ok (.iconst 0, 1) := by decide +kernel
theorem dX12_facesOf_30 : decode cX12_facesOf 30 = .ok (.istore_n 3, 1) := by decide +kernel
theorem dX12_facesOf_31 : decode cX12_facesOf 31 = .ok (.iload_n 3, 1) := by decide +kernel
theorem dX12_facesOf_32 : decode cX12_facesOf 32 = .ok (.iconst 4, 1) := by decide +kernel
theorem dX12_facesOf_33 : decode cX12_facesOf 33 = .ok (.aload_n 0, 1) := by decide +kernel
theorem dX12_facesOf_34 : decode cX12_facesOf 34 = .ok (.getfield 13, 3) := by decide +kernel
theorem dX12_facesOf_37 : decode cX12_facesOf 37 = .ok (.iload_n 1, 1) := by decide +kernel
theorem dX12_facesOf_38 : decode cX12_facesOf 38 = .ok (.iaload, 1) := by decide +kernel
theorem dX12_facesOf_39 : decode cX12_facesOf 39 = .ok (.imul, 1) := by decide +kernel
theorem dX12_facesOf_40 : decode cX12_facesOf 40 = .ok (.if_icmp .ge 58, 3) := by decide +kernel
theorem dX12_facesOf_43 : decode cX12_facesOf 43 = .ok (.iload_n 2, 1) := by decide +kernel
theorem dX12_facesOf_44 : decode cX12_facesOf 44 = .ok (.aload_n 0, 1) := by decide +kernel
theorem dX12_facesOf_45 : decode cX12_facesOf 45 = .ok (.getfield 42, 3) := by decide +kernel
theorem dX12_facesOf_48 : decode cX12_facesOf 48 = .ok (.iload_n 3, 1) := by decide +kernel
theorem dX12_facesOf_49 : decode cX12_facesOf 49 = .ok (.baload, 1) := by decide +kernel
theorem dX12_facesOf_50 : decode cX12_facesOf 50 = .ok (.ifCond .eq 7, 3) := by decide +kernel
theorem dX12_facesOf_53 : decode cX12_facesOf 53 = .ok (.iconst 0, 1) := by decide +kernel
theorem dX12_facesOf_54 : decode cX12_facesOf 54 = .ok (.goto 4, 3) := by decide +kernel
theorem dX12_facesOf_57 : decode cX12_facesOf 57 = .ok (.iconst 1, 1) := by decide +kernel
theorem dX12_facesOf_58 : decode cX12_facesOf 58 = .ok (.iadd, 1) := by decide +kernel
theorem dX12_facesOf_59 : decode cX12_facesOf 59 = .ok (.istore_n 2, 1) := by decide +kernel
theorem dX12_facesOf_60 : decode cX12_facesOf 60 = .ok (.iload_n 3, 1) := by decide +kernel
theorem dX12_facesOf_61 : decode cX12_facesOf 61 = .ok (.istore 4, 2) := by decide +kernel
theorem dX12_facesOf_63 : decode cX12_facesOf 63 = .ok (.aload_n 0, 1) := by decide +kernel
theorem dX12_facesOf_64 : decode cX12_facesOf 64 = .ok (.getfield 42, 3) := by decide +kernel
theorem dX12_facesOf_67 : decode cX12_facesOf 67 = .ok (.iload 4, 2) := by decide +kernel
theorem dX12_facesOf_69 : decode cX12_facesOf 69 = .ok (.baload, 1) := by decide +kernel
theorem dX12_facesOf_70 : decode cX12_facesOf 70 = .ok (.ifCond .ne 22, 3) := by decide +kernel
theorem dX12_facesOf_73 : decode cX12_facesOf 73 = .ok (.aload_n 0, 1) := by decide +kernel
theorem dX12_facesOf_74 : decode cX12_facesOf 74 = .ok (.getfield 42, 3) := by decide +kernel
theorem dX12_facesOf_77 : decode cX12_facesOf 77 = .ok (.iload 4, 2) := by decide +kernel
theorem dX12_facesOf_79 : decode cX12_facesOf 79 = .ok (.iconst 1, 1) := by decide +kernel
theorem dX12_facesOf_80 : decode cX12_facesOf 80 = .ok (.bastore, 1) := by decide +kernel
theorem dX12_facesOf_81 : decode cX12_facesOf 81 = .ok (.aload_n 0, 1) := by decide +kernel
theorem dX12_facesOf_82 : decode cX12_facesOf 82 = .ok (.iload 4, 2) := by decide +kernel
theorem dX12_facesOf_84 : decode cX12_facesOf 84 = .ok (.invokevirtual 213, 3) := by decide +kernel
theorem dX12_facesOf_87 : decode cX12_facesOf 87 = .ok (.istore 4, 2) := by decide +kernel
theorem dX12_facesOf_89 : decode cX12_facesOf 89 = .ok (.goto (-26), 3) := by decide +kernel
theorem dX12_facesOf_92 : decode cX12_facesOf 92 = .ok (.iinc 3 1, 3) := by decide +kernel
theorem dX12_facesOf_95 : decode cX12_facesOf 95 = .ok (.goto (-64), 3) := by decide +kernel
theorem dX12_facesOf_98 : decode cX12_facesOf 98 = .ok (.iload_n 2, 1) := by decide +kernel
theorem dX12_facesOf_99 : decode cX12_facesOf 99 = .ok (.ireturn, 1) := by decide +kernel
theorem dX12_partsOf_0 : decode cX12_partsOf 0 = .ok (.iconst 0, 1) := by decide +kernel
theorem dX12_partsOf_1 : decode cX12_partsOf 1 = .ok (.istore_n 2, 1) := by decide +kernel
theorem dX12_partsOf_2 : decode cX12_partsOf 2 = .ok (.iload_n 2, 1) := by decide +kernel
theorem dX12_partsOf_3 : decode cX12_partsOf 3 = .ok (.aload_n 0, 1) := by decide +kernel
theorem dX12_partsOf_4 : decode cX12_partsOf 4 = .ok (.getfield 13, 3) := by decide +kernel
theorem dX12_partsOf_7 : decode cX12_partsOf 7 = .ok (.iload_n 1, 1) := by decide +kernel
theorem dX12_partsOf_8 : decode cX12_partsOf 8 = .ok (.iaload, 1) := by decide +kernel
theorem dX12_partsOf_9 : decode cX12_partsOf 9 = .ok (.if_icmp .ge 16, 3) := by decide +kernel
theorem dX12_partsOf_12 : decode cX12_partsOf 12 = .ok (.aload_n 0, 1) := by decide +kernel
theorem dX12_partsOf_13 : decode cX12_partsOf 13 = .ok (.getfield 39, 3) := by decide +kernel
theorem dX12_partsOf_16 : decode cX12_partsOf 16 = .ok (.iload_n 2, 1) := by decide +kernel
theorem dX12_partsOf_17 : decode cX12_partsOf 17 = .ok (.iload_n 2, 1) := by decide +kernel
theorem dX12_partsOf_18 : decode cX12_partsOf 18 = .ok (.iastore, 1) := by decide +kernel
theorem dX12_partsOf_19 : decode cX12_partsOf 19 = .ok (.iinc 2 1, 3) := by decide +kernel
theorem dX12_partsOf_22 : decode cX12_partsOf 22 = .ok (.goto (-20), 3) := by decide +kernel
theorem dX12_partsOf_25 : decode cX12_partsOf 25 = .ok (.iconst 1, 1) := by decide +kernel
theorem dX12_partsOf_26 : decode cX12_partsOf 26 = .ok (.istore_n 2, 1) := by decide +kernel
theorem dX12_partsOf_27 : decode cX12_partsOf 27 = .ok (.iload_n 2, 1) := by decide +kernel
theorem dX12_partsOf_28 : decode cX12_partsOf 28 = .ok (.ifCond .eq 68, 3) := by decide +kernel
theorem dX12_partsOf_31 : decode cX12_partsOf 31 = .ok (.iconst 0, 1) := by decide +kernel
theorem dX12_partsOf_32 : decode cX12_partsOf 32 = .ok (.istore_n 2, 1) := by decide +kernel
theorem dX12_partsOf_33 : decode cX12_partsOf 33 = .ok (.iconst 0, 1) := by decide +kernel
theorem dX12_partsOf_34 : decode cX12_partsOf 34 = .ok (.istore_n 3, 1) := by decide +kernel
theorem dX12_partsOf_35 : decode cX12_partsOf 35 = .ok (.iload_n 3, 1) := by decide +kernel
theorem dX12_partsOf_36 : decode cX12_partsOf 36 = .ok (.iconst 4, 1) := by decide +kernel
theorem dX12_partsOf_37 : decode cX12_partsOf 37 = .ok (.aload_n 0, 1) := by decide +kernel
theorem dX12_partsOf_38 : decode cX12_partsOf 38 = .ok (.getfield 13, 3) := by decide +kernel
theorem dX12_partsOf_41 : decode cX12_partsOf 41 = .ok (.iload_n 1, 1) := by decide +kernel
theorem dX12_partsOf_42 : decode cX12_partsOf 42 = .ok (.iaload, 1) := by decide +kernel
theorem dX12_partsOf_43 : decode cX12_partsOf 43 = .ok (.imul, 1) := by decide +kernel
theorem dX12_partsOf_44 : decode cX12_partsOf 44 = .ok (.if_icmp .ge 49, 3) := by decide +kernel
theorem dX12_partsOf_47 : decode cX12_partsOf 47 = .ok (.aload_n 0, 1) := by decide +kernel
theorem dX12_partsOf_48 : decode cX12_partsOf 48 = .ok (.getfield 39, 3) := by decide +kernel
theorem dX12_partsOf_51 : decode cX12_partsOf 51 = .ok (.aload_n 0, 1) := by decide +kernel
theorem dX12_partsOf_52 : decode cX12_partsOf 52 = .ok (.getfield 36, 3) := by decide +kernel
theorem dX12_partsOf_55 : decode cX12_partsOf 55 = .ok (.iload_n 3, 1) := by decide +kernel
theorem dX12_partsOf_56 : decode cX12_partsOf 56 = .ok (.iaload, 1) := by decide +kernel
theorem dX12_partsOf_57 : decode cX12_partsOf 57 = .ok (.iconst 4, 1) := by decide +kernel
theorem dX12_partsOf_58 : decode cX12_partsOf 58 = .ok (.idiv, 1) := by decide +kernel
theorem dX12_partsOf_59 : decode cX12_partsOf 59 = .ok (.iaload, 1) := by decide +kernel
theorem dX12_partsOf_60 : decode cX12_partsOf 60 = .ok (.istore 4, 2) := by decide +kernel
theorem dX12_partsOf_62 : decode cX12_partsOf 62 = .ok (.iload 4, 2) := by decide +kernel
theorem dX12_partsOf_64 : decode cX12_partsOf 64 = .ok (.aload_n 0, 1) := by decide +kernel
theorem dX12_partsOf_65 : decode cX12_partsOf 65 = .ok (.getfield 39, 3) := by decide +kernel
theorem dX12_partsOf_68 : decode cX12_partsOf 68 = .ok (.iload_n 3, 1) := by decide +kernel
theorem dX12_partsOf_69 : decode cX12_partsOf 69 = .ok (.iconst 4, 1) := by decide +kernel
theorem dX12_partsOf_70 : decode cX12_partsOf 70 = .ok (.idiv, 1) := by decide +kernel
theorem dX12_partsOf_71 : decode cX12_partsOf 71 = .ok (.iaload, 1) := by decide +kernel
theorem dX12_partsOf_72 : decode cX12_partsOf 72 = .ok (.if_icmp .ge 15, 3) := by decide +kernel
theorem dX12_partsOf_75 : decode cX12_partsOf 75 = .ok (.aload_n 0, 1) := by decide +kernel
theorem dX12_partsOf_76 : decode cX12_partsOf 76 = .ok (.getfield 39, 3) := by decide +kernel
theorem dX12_partsOf_79 : decode cX12_partsOf 79 = .ok (.iload_n 3, 1) := by decide +kernel
theorem dX12_partsOf_80 : decode cX12_partsOf 80 = .ok (.iconst 4, 1) := by decide +kernel
theorem dX12_partsOf_81 : decode cX12_partsOf 81 = .ok (.idiv, 1) := by decide +kernel
theorem dX12_partsOf_82 : decode cX12_partsOf 82 = .ok (.iload 4, 2) := by decide +kernel
theorem dX12_partsOf_84 : decode cX12_partsOf 84 = .ok (.iastore, 1) := by decide +kernel
theorem dX12_partsOf_85 : decode cX12_partsOf 85 = .ok (.iconst 1, 1) := by decide +kernel
theorem dX12_partsOf_86 : decode cX12_partsOf 86 = .ok (.istore_n 2, 1) := by decide +kernel
theorem dX12_partsOf_87 : decode cX12_partsOf 87 = .ok (.iinc 3 1, 3) := by decide +kernel
theorem dX12_partsOf_90 : decode cX12_partsOf 90 = .ok (.goto (-55), 3) := by decide +kernel
theorem dX12_partsOf_93 : decode cX12_partsOf 93 = .ok (.goto (-66), 3) := by decide +kernel
theorem dX12_partsOf_96 : decode cX12_partsOf 96 = .ok (.iconst 0, 1) := by decide +kernel
theorem dX12_partsOf_97 : decode cX12_partsOf 97 = .ok (.istore_n 3, 1) := by decide +kernel
theorem dX12_partsOf_98 : decode cX12_partsOf 98 = .ok (.iconst 0, 1) := by decide +kernel
theorem dX12_partsOf_99 : decode cX12_partsOf 99 = .ok (.istore 4, 2) := by decide +kernel
theorem dX12_partsOf_101 : decode cX12_partsOf 101 = .ok (.iload 4, 2) := by decide +kernel
theorem dX12_partsOf_103 : decode cX12_partsOf 103 = .ok (.aload_n 0, 1) := by decide +kernel
theorem dX12_partsOf_104 : decode cX12_partsOf 104 = .ok (.getfield 13, 3) := by decide +kernel
theorem dX12_partsOf_107 : decode cX12_partsOf 107 = .ok (.iload_n 1, 1) := by decide +kernel
theorem dX12_partsOf_108 : decode cX12_partsOf 108 = .ok (.iaload, 1) := by decide +kernel
theorem dX12_partsOf_109 : decode cX12_partsOf 109 = .ok (.if_icmp .ge 29, 3) := by decide +kernel
theorem dX12_partsOf_112 : decode cX12_partsOf 112 = .ok (.iload_n 3, 1) := by decide +kernel
theorem dX12_partsOf_113 : decode cX12_partsOf 113 = .ok (.aload_n 0, 1) := by decide +kernel
theorem dX12_partsOf_114 : decode cX12_partsOf 114 = .ok (.getfield 39, 3) := by decide +kernel
theorem dX12_partsOf_117 : decode cX12_partsOf 117 = .ok (.iload 4, 2) := by decide +kernel
theorem dX12_partsOf_119 : decode cX12_partsOf 119 = .ok (.iaload, 1) := by decide +kernel
theorem dX12_partsOf_120 : decode cX12_partsOf 120 = .ok (.iload 4, 2) := by decide +kernel
theorem dX12_partsOf_122 : decode cX12_partsOf 122 = .ok (.if_icmp .ne 7, 3) := by decide +kernel
theorem dX12_partsOf_125 : decode cX12_partsOf 125 = .ok (.iconst 1, 1) := by decide +kernel
theorem dX12_partsOf_126 : decode cX12_partsOf 126 = .ok (.goto 4, 3) := by decide +kernel
theorem dX12_partsOf_129 : decode cX12_partsOf 129 = .ok (.iconst 0, 1) := by decide +kernel
theorem dX12_partsOf_130 : decode cX12_partsOf 130 = .ok (.iadd, 1) := by decide +kernel
theorem dX12_partsOf_131 : decode cX12_partsOf 131 = .ok (.istore_n 3, 1) := by decide +kernel
theorem dX12_partsOf_132 : decode cX12_partsOf 132 = .ok (.iinc 4 1, 3) := by decide +kernel
theorem dX12_partsOf_135 : decode cX12_partsOf 135 = .ok (.goto (-34), 3) := by decide +kernel
theorem dX12_partsOf_138 : decode cX12_partsOf 138 = .ok (.iload_n 3, 1) := by decide +kernel
theorem dX12_partsOf_139 : decode cX12_partsOf 139 = .ok (.ireturn, 1) := by decide +kernel
theorem dX12_openOf_0 : decode cX12_openOf 0 = .ok (.aload_n 0, 1) := by decide +kernel
theorem dX12_openOf_1 : decode cX12_openOf 1 = .ok (.iconst (-1), 1) := by decide +kernel
theorem dX12_openOf_2 : decode cX12_openOf 2 = .ok (.putfield 32, 3) := by decide +kernel
theorem dX12_openOf_5 : decode cX12_openOf 5 = .ok (.iconst 0, 1) := by decide +kernel
theorem dX12_openOf_6 : decode cX12_openOf 6 = .ok (.istore_n 2, 1) := by decide +kernel
theorem dX12_openOf_7 : decode cX12_openOf 7 = .ok (.iload_n 2, 1) := by decide +kernel
theorem dX12_openOf_8 : decode cX12_openOf 8 = .ok (.aload_n 0, 1) := by decide +kernel
theorem dX12_openOf_9 : decode cX12_openOf 9 = .ok (.getfield 13, 3) := by decide +kernel
theorem dX12_openOf_12 : decode cX12_openOf 12 = .ok (.iload_n 1, 1) := by decide +kernel
theorem dX12_openOf_13 : decode cX12_openOf 13 = .ok (.iaload, 1) := by decide +kernel
theorem dX12_openOf_14 : decode cX12_openOf 14 = .ok (.if_icmp .ge 31, 3) := by decide +kernel
theorem dX12_openOf_17 : decode cX12_openOf 17 = .ok (.aload_n 0, 1) := by decide +kernel
theorem dX12_openOf_18 : decode cX12_openOf 18 = .ok (.getfield 19, 3) := by decide +kernel
theorem dX12_openOf_21 : decode cX12_openOf 21 = .ok (.bipush 40, 2) := by decide +kernel
theorem dX12_openOf_23 : decode cX12_openOf 23 = .ok (.iload_n 1, 1) := by decide +kernel
theorem dX12_openOf_24 : decode cX12_openOf 24 = .ok (.imul, 1) := by decide +kernel
theorem dX12_openOf_25 : decode cX12_openOf 25 = .ok (.iload_n 2, 1) := by decide +kernel
theorem dX12_openOf_26 : decode cX12_openOf 26 = .ok (.iadd, 1) := by decide +kernel
theorem dX12_openOf_27 : decode cX12_openOf 27 = .ok (.iaload, 1) := by decide +kernel
theorem dX12_openOf_28 : decode cX12_openOf 28 = .ok (.iconst 4, 1) := by decide +kernel
theorem dX12_openOf_29 : decode cX12_openOf 29 = .ok (.if_icmp .ge 10, 3) := by decide +kernel
theorem dX12_openOf_32 : decode cX12_openOf 32 = .ok (.aload_n 0, 1) := by decide +kernel
theorem dX12_openOf_33 : decode cX12_openOf 33 = .ok (.iload_n 2, 1) := by decide +kernel
theorem dX12_openOf_34 : decode cX12_openOf 34 = .ok (.putfield 32, 3) := by decide +kernel
theorem dX12_openOf_37 : decode cX12_openOf 37 = .ok (.iconst 1, 1) := by decide +kernel
theorem dX12_openOf_38 : decode cX12_openOf 38 = .ok (.ireturn, 1) := by decide +kernel
theorem dX12_openOf_39 : decode cX12_openOf 39 = .ok (.iinc 2 1, 3) := by decide +kernel
theorem dX12_openOf_42 : decode cX12_openOf 42 = .ok (.goto (-35), 3) := by decide +kernel
theorem dX12_openOf_45 : decode cX12_openOf 45 = .ok (.iconst 0, 1) := by decide +kernel
theorem dX12_openOf_46 : decode cX12_openOf 46 = .ok (.istore_n 2, 1) := by decide +kernel
theorem dX12_openOf_47 : decode cX12_openOf 47 = .ok (.iload_n 2, 1) := by decide +kernel
theorem dX12_openOf_48 : decode cX12_openOf 48 = .ok (.bipush 100, 2) := by decide +kernel
theorem dX12_openOf_50 : decode cX12_openOf 50 = .ok (.if_icmp .ge 16, 3) := by decide +kernel
theorem dX12_openOf_53 : decode cX12_openOf 53 = .ok (.aload_n 0, 1) := by decide +kernel
theorem dX12_openOf_54 : decode cX12_openOf 54 = .ok (.getfield 49, 3) := by decide +kernel
theorem dX12_openOf_57 : decode cX12_openOf 57 = .ok (.iload_n 2, 1) := by decide +kernel
theorem dX12_openOf_58 : decode cX12_openOf 58 = .ok (.iconst 0, 1) := by decide +kernel
theorem dX12_openOf_59 : decode cX12_openOf 59 = .ok (.iastore, 1) := by decide +kernel
theorem dX12_openOf_60 : decode cX12_openOf 60 = .ok (.iinc 2 1, 3) := by decide +kernel
theorem dX12_openOf_63 : decode cX12_openOf 63 = .ok (.goto (-16), 3) := by decide +kernel
theorem dX12_openOf_66 : decode cX12_openOf 66 = .ok (.iconst 0, 1) := by decide +kernel
theorem dX12_openOf_67 : decode cX12_openOf 67 = .ok (.istore_n 2, 1) := by decide +kernel
theorem dX12_openOf_68 : decode cX12_openOf 68 = .ok (.iload_n 2, 1) := by decide +kernel
theorem dX12_openOf_69 : decode cX12_openOf 69 = .ok (.iconst 4, 1) := by decide +kernel
theorem dX12_openOf_70 : decode cX12_openOf 70 = .ok (.aload_n 0, 1) := by decide +kernel
theorem dX12_openOf_71 : decode cX12_openOf 71 = .ok (.getfield 13, 3) := by decide +kernel
theorem dX12_openOf_74 : decode cX12_openOf 74 = .ok (.iload_n 1, 1) := by decide +kernel
theorem dX12_openOf_75 : decode cX12_openOf 75 = .ok (.iaload, 1) := by decide +kernel
theorem dX12_openOf_76 : decode cX12_openOf 76 = .ok (.imul, 1) := by decide +kernel
theorem dX12_openOf_77 : decode cX12_openOf 77 = .ok (.if_icmp .ge 45, 3) := by decide +kernel
theorem dX12_openOf_80 : decode cX12_openOf 80 = .ok (.aload_n 0, 1) := by decide +kernel
theorem dX12_openOf_81 : decode cX12_openOf 81 = .ok (.getfield 23, 3) := by decide +kernel
theorem dX12_openOf_84 : decode cX12_openOf 84 = .ok (.sipush 160, 3) := by decide +kernel
theorem dX12_openOf_87 : decode cX12_openOf 87 = .ok (.iload_n 1, 1) := by decide +kernel
theorem dX12_openOf_88 : decode cX12_openOf 88 = .ok (.imul, 1) := by decide +kernel
theorem dX12_openOf_89 : decode cX12_openOf 89 = .ok (.iload_n 2, 1) := by decide +kernel
theorem dX12_openOf_90 : decode cX12_openOf 90 = .ok (.iadd, 1) := by decide +kernel
theorem dX12_openOf_91 : decode cX12_openOf 91 = .ok (.iaload, 1) := by decide +kernel
theorem dX12_openOf_92 : decode cX12_openOf 92 = .ok (.istore_n 3, 1) := by decide +kernel
theorem dX12_openOf_93 : decode cX12_openOf 93 = .ok (.iload_n 3, 1) := by decide +kernel
theorem dX12_openOf_94 : decode cX12_openOf 94 = .ok (.ifCond .ge 12, 3) := by decide +kernel
theorem dX12_openOf_97 : decode cX12_openOf 97 = .ok (.aload_n 0, 1) := by decide +kernel
theorem dX12_openOf_98 : decode cX12_openOf 98 = .ok (.iload_n 2, 1) := by decide +kernel
theorem dX12_openOf_99 : decode cX12_openOf 99 = .ok (.iconst 4, 1) := by decide +kernel
theorem dX12_openOf_100 : decode cX12_openOf 100 = .ok (.idiv, 1) := by decide +kernel
theorem dX12_openOf_101 : decode cX12_openOf 101 = .ok (.putfield 32, 3) := by decide +kernel
theorem dX12_openOf_104 : decode cX12_openOf 104 = .ok (.iconst 2, 1) := by decide +kernel
theorem dX12_openOf_105 : decode cX12_openOf 105 = .ok (.ireturn, 1) := by decide +kernel
theorem dX12_openOf_106 : decode cX12_openOf 106 = .ok (.aload_n 0, 1) := by decide +kernel
theorem dX12_openOf_107 : decode cX12_openOf 107 = .ok (.getfield 49, 3) := by decide +kernel
theorem dX12_openOf_110 : decode cX12_openOf 110 = .ok (.iload_n 3, 1) := by decide +kernel
theorem dX12_openOf_111 : decode cX12_openOf 111 = .ok (.dup2, 1) := by decide +kernel
theorem dX12_openOf_112 : decode cX12_openOf 112 = .ok (.iaload, 1) := by decide +kernel
theorem dX12_openOf_113 : decode cX12_openOf 113 = .ok (.iconst 1, 1) := by decide +kernel
theorem dX12_openOf_114 : decode cX12_openOf 114 = .ok (.iadd, 1) := by decide +kernel
theorem dX12_openOf_115 : decode cX12_openOf 115 = .ok (.iastore, 1) := by decide +kernel
theorem dX12_openOf_116 : decode cX12_openOf 116 = .ok (.iinc 2 1, 3) := by decide +kernel
theorem dX12_openOf_119 : decode cX12_openOf 119 = .ok (.goto (-51), 3) := by decide +kernel
theorem dX12_openOf_122 : decode cX12_openOf 122 = .ok (.iconst 0, 1) := by decide +kernel
theorem dX12_openOf_123 : decode cX12_openOf 123 = .ok (.istore_n 2, 1) := by decide +kernel
theorem dX12_openOf_124 : decode cX12_openOf 124 = .ok (.iload_n 2, 1) := by decide +kernel
theorem dX12_openOf_125 : decode cX12_openOf 125 = .ok (.iconst 4, 1) := by decide +kernel
theorem dX12_openOf_126 : decode cX12_openOf 126 = .ok (.aload_n 0, 1) := by decide +kernel
theorem dX12_openOf_127 : decode cX12_openOf 127 = .ok (.getfield 13, 3) := by decide +kernel
theorem dX12_openOf_130 : decode cX12_openOf 130 = .ok (.iload_n 1, 1) := by decide +kernel
theorem dX12_openOf_131 : decode cX12_openOf 131 = .ok (.iaload, 1) := by decide +kernel
theorem dX12_openOf_132 : decode cX12_openOf 132 = .ok (.imul, 1) := by decide +kernel
theorem dX12_openOf_133 : decode cX12_openOf 133 = .ok (.if_icmp .ge 39, 3) := by decide +kernel
theorem dX12_openOf_136 : decode cX12_openOf 136 = .ok (.aload_n 0, 1) := by decide +kernel
theorem dX12_openOf_137 : decode cX12_openOf 137 = .ok (.getfield 49, 3) := by decide +kernel
theorem dX12_openOf_140 : decode cX12_openOf 140 = .ok (.aload_n 0, 1) := by decide +kernel
theorem dX12_openOf_141 : decode cX12_openOf 141 = .ok (.getfield 23, 3) := by decide +kernel
theorem dX12_openOf_144 : decode cX12_openOf 144 = .ok (.sipush 160, 3) := by decide +kernel
theorem dX12_openOf_147 : decode cX12_openOf 147 = .ok (.iload_n 1, 1) := by decide +kernel
theorem dX12_openOf_148 : decode cX12_openOf 148 = .ok (.imul, 1) := by decide +kernel
theorem dX12_openOf_149 : decode cX12_openOf 149 = .ok (.iload_n 2, 1) := by decide +kernel
theorem dX12_openOf_150 : decode cX12_openOf 150 = .ok (.iadd, 1) := by decide +kernel
theorem dX12_openOf_151 : decode cX12_openOf 151 = .ok (.iaload, 1) := by decide +kernel
theorem dX12_openOf_152 : decode cX12_openOf 152 = .ok (.iaload, 1) := by decide +kernel
theorem dX12_openOf_153 : decode cX12_openOf 153 = .ok (.iconst 2, 1) := by decide +kernel
theorem dX12_openOf_154 : decode cX12_openOf 154 = .ok (.if_icmp .eq 12, 3) := by decide +kernel
theorem dX12_openOf_157 : decode cX12_openOf 157 = .ok (.aload_n 0, 1) := by decide +kernel
theorem dX12_openOf_158 : decode cX12_openOf 158 = .ok (.iload_n 2, 1) := by decide +kernel
theorem dX12_openOf_159 : decode cX12_openOf 159 = .ok (.iconst 4, 1) := by decide +kernel
theorem dX12_openOf_160 : decode cX12_openOf 160 = .ok (.idiv, 1) := by decide +kernel
theorem dX12_openOf_161 : decode cX12_openOf 161 = .ok (.putfield 32, 3) := by decide +kernel
theorem dX12_openOf_164 : decode cX12_openOf 164 = .ok (.iconst 3, 1) := by decide +kernel
theorem dX12_openOf_165 : decode cX12_openOf 165 = .ok (.ireturn, 1) := by decide +kernel
theorem dX12_openOf_166 : decode cX12_openOf 166 = .ok (.iinc 2 1, 3) := by decide +kernel
theorem dX12_openOf_169 : decode cX12_openOf 169 = .ok (.goto (-45), 3) := by decide +kernel
theorem dX12_openOf_172 : decode cX12_openOf 172 = .ok (.aload_n 0, 1) := by decide +kernel
theorem dX12_openOf_173 : decode cX12_openOf 173 = .ok (.iload_n 1, 1) := by decide +kernel
theorem dX12_openOf_174 : decode cX12_openOf 174 = .ok (.invokevirtual 216, 3) := by decide +kernel
theorem dX12_openOf_177 : decode cX12_openOf 177 = .ok (.aload_n 0, 1) := by decide +kernel
theorem dX12_openOf_178 : decode cX12_openOf 178 = .ok (.iload_n 1, 1) := by decide +kernel
theorem dX12_openOf_179 : decode cX12_openOf 179 = .ok (.invokevirtual 220, 3) := by decide +kernel
theorem dX12_openOf_182 : decode cX12_openOf 182 = .ok (.aload_n 0, 1) := by decide +kernel
theorem dX12_openOf_183 : decode cX12_openOf 183 = .ok (.getfield 13, 3) := by decide +kernel
theorem dX12_openOf_186 : decode cX12_openOf 186 = .ok (.iload_n 1, 1) := by decide +kernel
theorem dX12_openOf_187 : decode cX12_openOf 187 = .ok (.iaload, 1) := by decide +kernel
theorem dX12_openOf_188 : decode cX12_openOf 188 = .ok (.iconst 2, 1) := by decide +kernel
theorem dX12_openOf_189 : decode cX12_openOf 189 = .ok (.aload_n 0, 1) := by decide +kernel
theorem dX12_openOf_190 : decode cX12_openOf 190 = .ok (.iload_n 1, 1) := by decide +kernel
theorem dX12_openOf_191 : decode cX12_openOf 191 = .ok (.invokevirtual 223, 3) := by decide +kernel
theorem dX12_openOf_194 : decode cX12_openOf 194 = .ok (.imul, 1) := by decide +kernel
theorem dX12_openOf_195 : decode cX12_openOf 195 = .ok (.iadd, 1) := by decide +kernel
theorem dX12_openOf_196 : decode cX12_openOf 196 = .ok (.if_icmp .ne 7, 3) := by decide +kernel
theorem dX12_openOf_199 : decode cX12_openOf 199 = .ok (.iconst 0, 1) := by decide +kernel
theorem dX12_openOf_200 : decode cX12_openOf 200 = .ok (.goto 4, 3) := by decide +kernel
theorem dX12_openOf_203 : decode cX12_openOf 203 = .ok (.iconst 4, 1) := by decide +kernel
theorem dX12_openOf_204 : decode cX12_openOf 204 = .ok (.ireturn, 1) := by decide +kernel
theorem dX12_open_0 : decode cX12_open 0 = .ok (.aload_n 0, 1) := by decide +kernel
theorem dX12_open_1 : decode cX12_open 1 = .ok (.iload_n 1, 1) := by decide +kernel
theorem dX12_open_2 : decode cX12_open 2 = .ok (.invokevirtual 187, 3) := by decide +kernel
theorem dX12_open_5 : decode cX12_open 5 = .ok (.ifCond .ne 10, 3) := by decide +kernel
theorem dX12_open_8 : decode cX12_open 8 = .ok (.aload_n 0, 1) := by decide +kernel
theorem dX12_open_9 : decode cX12_open 9 = .ok (.bipush (-2), 2) := by decide +kernel
theorem dX12_open_11 : decode cX12_open 11 = .ok (.invokevirtual 165, 3) := by decide +kernel
theorem dX12_open_14 : decode cX12_open 14 = .ok (.ireturn, 1) := by decide +kernel
theorem dX12_open_15 : decode cX12_open 15 = .ok (.aload_n 0, 1) := by decide +kernel
theorem dX12_open_16 : decode cX12_open 16 = .ok (.iload_n 1, 1) := by decide +kernel
theorem dX12_open_17 : decode cX12_open 17 = .ok (.invokevirtual 226, 3) := by decide +kernel
theorem dX12_open_20 : decode cX12_open 20 = .ok (.istore_n 2, 1) := by decide +kernel
theorem dX12_open_21 : decode cX12_open 21 = .ok (.aload_n 0, 1) := by decide +kernel
theorem dX12_open_22 : decode cX12_open 22 = .ok (.aload_n 0, 1) := by decide +kernel
theorem dX12_open_23 : decode cX12_open 23 = .ok (.getfield 32, 3) := by decide +kernel
theorem dX12_open_26 : decode cX12_open 26 = .ok (.putfield 52, 3) := by decide +kernel
theorem dX12_open_29 : decode cX12_open 29 = .ok (.aload_n 0, 1) := by decide +kernel
theorem dX12_open_30 : decode cX12_open 30 = .ok (.iload_n 2, 1) := by decide +kernel
theorem dX12_open_31 : decode cX12_open 31 = .ok (.invokevirtual 180, 3) := by decide +kernel
theorem dX12_open_34 : decode cX12_open 34 = .ok (.ireturn, 1) := by decide +kernel
theorem dX12_where_0 : decode cX12_where 0 = .ok (.aload_n 0, 1) := by decide +kernel
theorem dX12_where_1 : decode cX12_where 1 = .ok (.getfield 52, 3) := by decide +kernel
theorem dX12_where_4 : decode cX12_where 4 = .ok (.ireturn, 1) := by decide +kernel
theorem dX12_refusal_0 : decode cX12_refusal 0 = .ok (.aload_n 0, 1) := by decide +kernel
theorem dX12_refusal_1 : decode cX12_refusal 1 = .ok (.iload_n 1, 1) := by decide +kernel
theorem dX12_refusal_2 : decode cX12_refusal 2 = .ok (.invokevirtual 187, 3) := by decide +kernel
theorem dX12_refusal_5 : decode cX12_refusal 5 = .ok (.ifCond .ne 12, 3) := by decide +kernel
theorem dX12_refusal_8 : decode cX12_refusal 8 = .ok (.aload_n 0, 1) := by decide +kernel
theorem dX12_refusal_9 : decode cX12_refusal 9 = .ok (.bipush (-2), 2) := by decide +kernel
theorem dX12_refusal_11 : decode cX12_refusal 11 = .ok (.invokevirtual 165, 3) := by decide +kernel
theorem dX12_refusal_14 : decode cX12_refusal 14 = .ok (.goto 20, 3) := by decide +kernel
theorem dX12_refusal_17 : decode cX12_refusal 17 = .ok (.aload_n 0, 1) := by decide +kernel
theorem dX12_refusal_18 : decode cX12_refusal 18 = .ok (.iload_n 1, 1) := by decide +kernel
theorem dX12_refusal_19 : decode cX12_refusal 19 = .ok (.invokevirtual 226, 3) := by decide +kernel
theorem dX12_refusal_22 : decode cX12_refusal 22 = .ok (.ifCond .le 11, 3) := by decide +kernel
theorem dX12_refusal_25 : decode cX12_refusal 25 = .ok (.aload_n 0, 1) := by decide +kernel
theorem dX12_refusal_26 : decode cX12_refusal 26 = .ok (.iconst 3, 1) := by decide +kernel
theorem dX12_refusal_27 : decode cX12_refusal 27 = .ok (.invokevirtual 200, 3) := by decide +kernel
theorem dX12_refusal_30 : decode cX12_refusal 30 = .ok (.goto 4, 3) := by decide +kernel
theorem dX12_refusal_33 : decode cX12_refusal 33 = .ok (.iconst 0, 1) := by decide +kernel
theorem dX12_refusal_34 : decode cX12_refusal 34 = .ok (.ireturn, 1) := by decide +kernel
theorem dX12_piecesOf_0 : decode cX12_piecesOf 0 = .ok (.iconst 0, 1) := by decide +kernel
theorem dX12_piecesOf_1 : decode cX12_piecesOf 1 = .ok (.istore_n 2, 1) := by decide +kernel
theorem dX12_piecesOf_2 : decode cX12_piecesOf 2 = .ok (.iconst 0, 1) := by decide +kernel
theorem dX12_piecesOf_3 : decode cX12_piecesOf 3 = .ok (.istore_n 3, 1) := by decide +kernel
theorem dX12_piecesOf_4 : decode cX12_piecesOf 4 = .ok (.iload_n 3, 1) := by decide +kernel
theorem dX12_piecesOf_5 : decode cX12_piecesOf 5 = .ok (.iconst 4, 1) := by decide +kernel
theorem dX12_piecesOf_6 : decode cX12_piecesOf 6 = .ok (.aload_n 0, 1) := by decide +kernel
theorem dX12_piecesOf_7 : decode cX12_piecesOf 7 = .ok (.getfield 13, 3) := by decide +kernel
theorem dX12_piecesOf_10 : decode cX12_piecesOf 10 = .ok (.iload_n 1, 1) := by decide +kernel
theorem dX12_piecesOf_11 : decode cX12_piecesOf 11 = .ok (.iaload, 1) := by decide +kernel
theorem dX12_piecesOf_12 : decode cX12_piecesOf 12 = .ok (.imul, 1) := by decide +kernel
theorem dX12_piecesOf_13 : decode cX12_piecesOf 13 = .ok (.if_icmp .ge 16, 3) := by decide +kernel
theorem dX12_piecesOf_16 : decode cX12_piecesOf 16 = .ok (.aload_n 0, 1) := by decide +kernel
theorem dX12_piecesOf_17 : decode cX12_piecesOf 17 = .ok (.getfield 55, 3) := by decide +kernel
theorem dX12_piecesOf_20 : decode cX12_piecesOf 20 = .ok (.iload_n 3, 1) := by decide +kernel
theorem dX12_piecesOf_21 : decode cX12_piecesOf 21 = .ok (.iconst (-1), 1) := by decide +kernel
theorem dX12_piecesOf_22 : decode cX12_piecesOf 22 = .ok (.iastore, 1) := by decide +kernel
theorem dX12_piecesOf_23 : decode cX12_piecesOf 23 = .ok (.iinc 3 1, 3) := by decide +kernel
theorem dX12_piecesOf_26 : decode cX12_piecesOf 26 = .ok (.goto (-22), 3) := by decide +kernel
theorem dX12_piecesOf_29 : decode cX12_piecesOf 29 = .ok (.iconst 0, 1) := by decide +kernel
theorem dX12_piecesOf_30 : decode cX12_piecesOf 30 = .ok (.istore_n 3, 1) := by decide +kernel
theorem dX12_piecesOf_31 : decode cX12_piecesOf 31 = .ok (.iload_n 3, 1) := by decide +kernel
theorem dX12_piecesOf_32 : decode cX12_piecesOf 32 = .ok (.iconst 4, 1) := by decide +kernel
theorem dX12_piecesOf_33 : decode cX12_piecesOf 33 = .ok (.aload_n 0, 1) := by decide +kernel
theorem dX12_piecesOf_34 : decode cX12_piecesOf 34 = .ok (.getfield 13, 3) := by decide +kernel
theorem dX12_piecesOf_37 : decode cX12_piecesOf 37 = .ok (.iload_n 1, 1) := by decide +kernel
theorem dX12_piecesOf_38 : decode cX12_piecesOf 38 = .ok (.iaload, 1) := by decide +kernel
theorem dX12_piecesOf_39 : decode cX12_piecesOf 39 = .ok (.imul, 1) := by decide +kernel
theorem dX12_piecesOf_40 : decode cX12_piecesOf 40 = .ok (.if_icmp .ge 94, 3) := by decide +kernel
theorem dX12_piecesOf_43 : decode cX12_piecesOf 43 = .ok (.aload_n 0, 1) := by decide +kernel
theorem dX12_piecesOf_44 : decode cX12_piecesOf 44 = .ok (.getfield 55, 3) := by decide +kernel
theorem dX12_piecesOf_47 : decode cX12_piecesOf 47 = .ok (.iload_n 3, 1) := by decide +kernel
theorem dX12_piecesOf_48 : decode cX12_piecesOf 48 = .ok (.iaload, 1) := by decide +kernel
theorem dX12_piecesOf_49 : decode cX12_piecesOf 49 = .ok (.iconst (-1), 1) := by decide +kernel
theorem dX12_piecesOf_50 : decode cX12_piecesOf 50 = .ok (.if_icmp .ne 78, 3) := by decide +kernel
theorem dX12_piecesOf_53 : decode cX12_piecesOf 53 = .ok (.iload_n 3, 1) := by decide +kernel
theorem dX12_piecesOf_54 : decode cX12_piecesOf 54 = .ok (.istore 4, 2) := by decide +kernel
theorem dX12_piecesOf_56 : decode cX12_piecesOf 56 = .ok (.aload_n 0, 1) := by decide +kernel
theorem dX12_piecesOf_57 : decode cX12_piecesOf 57 = .ok (.getfield 55, 3) := by decide +kernel
theorem dX12_piecesOf_60 : decode cX12_piecesOf 60 = .ok (.iload 4, 2) := by decide +kernel
theorem dX12_piecesOf_62 : decode cX12_piecesOf 62 = .ok (.iaload, 1) := by decide +kernel
theorem dX12_piecesOf_63 : decode cX12_piecesOf 63 = .ok (.iconst (-1), 1) := by decide +kernel
theorem dX12_piecesOf_64 : decode cX12_piecesOf 64 = .ok (.if_icmp .ne 61, 3) := by decide +kernel
theorem dX12_piecesOf_67 : decode cX12_piecesOf 67 = .ok (.aload_n 0, 1) := by decide +kernel
theorem dX12_piecesOf_68 : decode cX12_piecesOf 68 = .ok (.getfield 55, 3) := by decide +kernel
theorem dX12_piecesOf_71 : decode cX12_piecesOf 71 = .ok (.iload 4, 2) := by decide +kernel
theorem dX12_piecesOf_73 : decode cX12_piecesOf 73 = .ok (.iload_n 2, 1) := by decide +kernel
theorem dX12_piecesOf_74 : decode cX12_piecesOf 74 = .ok (.iastore, 1) := by decide +kernel
theorem dX12_piecesOf_75 : decode cX12_piecesOf 75 = .ok (.aload_n 0, 1) := by decide +kernel
theorem dX12_piecesOf_76 : decode cX12_piecesOf 76 = .ok (.getfield 58, 3) := by decide +kernel
theorem dX12_piecesOf_79 : decode cX12_piecesOf 79 = .ok (.iload 4, 2) := by decide +kernel
theorem dX12_piecesOf_81 : decode cX12_piecesOf 81 = .ok (.iconst 0, 1) := by decide +kernel
theorem dX12_piecesOf_82 : decode cX12_piecesOf 82 = .ok (.bastore, 1) := by decide +kernel
theorem dX12_piecesOf_83 : decode cX12_piecesOf 83 = .ok (.aload_n 0, 1) := by decide +kernel
theorem dX12_piecesOf_84 : decode cX12_piecesOf 84 = .ok (.getfield 55, 3) := by decide +kernel
theorem dX12_piecesOf_87 : decode cX12_piecesOf 87 = .ok (.aload_n 0, 1) := by decide +kernel
theorem dX12_piecesOf_88 : decode cX12_piecesOf 88 = .ok (.getfield 36, 3) := by decide +kernel
theorem dX12_piecesOf_91 : decode cX12_piecesOf 91 = .ok (.iload 4, 2) := by decide +kernel
theorem dX12_piecesOf_93 : decode cX12_piecesOf 93 = .ok (.iaload, 1) := by decide +kernel
theorem dX12_piecesOf_94 : decode cX12_piecesOf 94 = .ok (.iload_n 2, 1) := by decide +kernel
theorem dX12_piecesOf_95 : decode cX12_piecesOf 95 = .ok (.iastore, 1) := by decide +kernel
theorem dX12_piecesOf_96 : decode cX12_piecesOf 96 = .ok (.aload_n 0, 1) := by decide +kernel
theorem dX12_piecesOf_97 : decode cX12_piecesOf 97 = .ok (.getfield 58, 3) := by decide +kernel
theorem dX12_piecesOf_100 : decode cX12_piecesOf 100 = .ok (.aload_n 0, 1) := by decide +kernel
theorem dX12_piecesOf_101 : decode cX12_piecesOf 101 = .ok (.getfield 36, 3) := by decide +kernel
theorem dX12_piecesOf_104 : decode cX12_piecesOf 104 = .ok (.iload 4, 2) := by decide +kernel
theorem dX12_piecesOf_106 : decode cX12_piecesOf 106 = .ok (.iaload, 1) := by decide +kernel
theorem dX12_piecesOf_107 : decode cX12_piecesOf 107 = .ok (.iconst 1, 1) := by decide +kernel
theorem dX12_piecesOf_108 : decode cX12_piecesOf 108 = .ok (.bastore, 1) := by decide +kernel
theorem dX12_piecesOf_109 : decode cX12_piecesOf 109 = .ok (.aload_n 0, 1) := by decide +kernel
theorem dX12_piecesOf_110 : decode cX12_piecesOf 110 = .ok (.getfield 36, 3) := by decide +kernel
theorem dX12_piecesOf_113 : decode cX12_piecesOf 113 = .ok (.iload 4, 2) := by decide +kernel
theorem dX12_piecesOf_115 : decode cX12_piecesOf 115 = .ok (.iaload, 1) := by decide +kernel
theorem dX12_piecesOf_116 : decode cX12_piecesOf 116 = .ok (.iconst 2, 1) := by decide +kernel
theorem dX12_piecesOf_117 : decode cX12_piecesOf 117 = .ok (.invokestatic 209, 3) := by decide +kernel
theorem dX12_piecesOf_120 : decode cX12_piecesOf 120 = .ok (.istore 4, 2) := by decide +kernel
theorem dX12_piecesOf_122 : decode cX12_piecesOf 122 = .ok (.goto (-66), 3) := by decide +kernel
theorem dX12_piecesOf_125 : decode cX12_piecesOf 125 = .ok (.iinc 2 1, 3) := by decide +kernel
theorem dX12_piecesOf_128 : decode cX12_piecesOf 128 = .ok (.iinc 3 1, 3) := by decide +kernel
theorem dX12_piecesOf_131 : decode cX12_piecesOf 131 = .ok (.goto (-100), 3) := by decide +kernel
theorem dX12_piecesOf_134 : decode cX12_piecesOf 134 = .ok (.iload_n 2, 1) := by decide +kernel
theorem dX12_piecesOf_135 : decode cX12_piecesOf 135 = .ok (.ireturn, 1) := by decide +kernel
theorem dX12_signAt_0 : decode cX12_signAt 0 = .ok (.aload_n 0, 1) := by decide +kernel
theorem dX12_signAt_1 : decode cX12_signAt 1 = .ok (.getfield 58, 3) := by decide +kernel
theorem dX12_signAt_4 : decode cX12_signAt 4 = .ok (.iconst 4, 1) := by decide +kernel
theorem dX12_signAt_5 : decode cX12_signAt 5 = .ok (.iload_n 1, 1) := by decide +kernel
theorem dX12_signAt_6 : decode cX12_signAt 6 = .ok (.imul, 1) := by decide +kernel
theorem dX12_signAt_7 : decode cX12_signAt 7 = .ok (.baload, 1) := by decide +kernel
theorem dX12_signAt_8 : decode cX12_signAt 8 = .ok (.ifCond .eq 7, 3) := by decide +kernel
theorem dX12_signAt_11 : decode cX12_signAt 11 = .ok (.iconst 0, 1) := by decide +kernel
theorem dX12_signAt_12 : decode cX12_signAt 12 = .ok (.goto 4, 3) := by decide +kernel
theorem dX12_signAt_15 : decode cX12_signAt 15 = .ok (.iconst 2, 1) := by decide +kernel
theorem dX12_signAt_16 : decode cX12_signAt 16 = .ok (.istore_n 2, 1) := by decide +kernel
theorem dX12_signAt_17 : decode cX12_signAt 17 = .ok (.aload_n 0, 1) := by decide +kernel
theorem dX12_signAt_18 : decode cX12_signAt 18 = .ok (.getfield 58, 3) := by decide +kernel
theorem dX12_signAt_21 : decode cX12_signAt 21 = .ok (.iconst 4, 1) := by decide +kernel
theorem dX12_signAt_22 : decode cX12_signAt 22 = .ok (.iload_n 1, 1) := by decide +kernel
theorem dX12_signAt_23 : decode cX12_signAt 23 = .ok (.imul, 1) := by decide +kernel
theorem dX12_signAt_24 : decode cX12_signAt 24 = .ok (.iload_n 2, 1) := by decide +kernel
theorem dX12_signAt_25 : decode cX12_signAt 25 = .ok (.iadd, 1) := by decide +kernel
theorem dX12_signAt_26 : decode cX12_signAt 26 = .ok (.iconst 3, 1) := by decide +kernel
theorem dX12_signAt_27 : decode cX12_signAt 27 = .ok (.invokestatic 209, 3) := by decide +kernel
theorem dX12_signAt_30 : decode cX12_signAt 30 = .ok (.baload, 1) := by decide +kernel
theorem dX12_signAt_31 : decode cX12_signAt 31 = .ok (.ifCond .eq 7, 3) := by decide +kernel
theorem dX12_signAt_34 : decode cX12_signAt 34 = .ok (.iconst 1, 1) := by decide +kernel
theorem dX12_signAt_35 : decode cX12_signAt 35 = .ok (.goto 4, 3) := by decide +kernel
theorem dX12_signAt_38 : decode cX12_signAt 38 = .ok (.iconst (-1), 1) := by decide +kernel
theorem dX12_signAt_39 : decode cX12_signAt 39 = .ok (.ireturn, 1) := by decide +kernel
theorem dX12_writheOf_0 : decode cX12_writheOf 0 = .ok (.aload_n 0, 1) := by decide +kernel
theorem dX12_writheOf_1 : decode cX12_writheOf 1 = .ok (.iload_n 1, 1) := by decide +kernel
theorem dX12_writheOf_2 : decode cX12_writheOf 2 = .ok (.invokevirtual 229, 3) := by decide +kernel
theorem dX12_writheOf_5 : decode cX12_writheOf 5 = .ok (.istore_n 2, 1) := by decide +kernel
theorem dX12_writheOf_6 : decode cX12_writheOf 6 = .ok (.iconst 0, 1) := by decide +kernel
theorem dX12_writheOf_7 : decode cX12_writheOf 7 = .ok (.istore_n 3, 1) := by decide +kernel
theorem dX12_writheOf_8 : decode cX12_writheOf 8 = .ok (.iconst 0, 1) := by decide +kernel
theorem dX12_writheOf_9 : decode cX12_writheOf 9 = .ok (.istore 4, 2) := by decide +kernel
theorem dX12_writheOf_11 : decode cX12_writheOf 11 = .ok (.iload 4, 2) := by decide +kernel
theorem dX12_writheOf_13 : decode cX12_writheOf 13 = .ok (.aload_n 0, 1) := by decide +kernel
theorem dX12_writheOf_14 : decode cX12_writheOf 14 = .ok (.getfield 13, 3) := by decide +kernel
theorem dX12_writheOf_17 : decode cX12_writheOf 17 = .ok (.iload_n 1, 1) := by decide +kernel
theorem dX12_writheOf_18 : decode cX12_writheOf 18 = .ok (.iaload, 1) := by decide +kernel
theorem dX12_writheOf_19 : decode cX12_writheOf 19 = .ok (.if_icmp .ge 18, 3) := by decide +kernel
theorem dX12_writheOf_22 : decode cX12_writheOf 22 = .ok (.iload_n 3, 1) := by decide +kernel
theorem dX12_writheOf_23 : decode cX12_writheOf 23 = .ok (.aload_n 0, 1) := by decide +kernel
theorem dX12_writheOf_24 : decode cX12_writheOf 24 = .ok (.iload 4, 2) := by decide +kernel
theorem dX12_writheOf_26 : decode cX12_writheOf 26 = .ok (.invokevirtual 232, 3) := by decide +kernel
theorem dX12_writheOf_29 : decode cX12_writheOf 29 = .ok (.iadd, 1) := by decide +kernel
theorem dX12_writheOf_30 : decode cX12_writheOf 30 = .ok (.istore_n 3, 1) := by decide +kernel
theorem dX12_writheOf_31 : decode cX12_writheOf 31 = .ok (.iinc 4 1, 3) := by decide +kernel
theorem dX12_writheOf_34 : decode cX12_writheOf 34 = .ok (.goto (-23), 3) := by decide +kernel
theorem dX12_writheOf_37 : decode cX12_writheOf 37 = .ok (.iload_n 3, 1) := by decide +kernel
theorem dX12_writheOf_38 : decode cX12_writheOf 38 = .ok (.ireturn, 1) := by decide +kernel
theorem dX12_told_0 : decode cX12_told 0 = .ok (.aload_n 0, 1) := by decide +kernel
theorem dX12_told_1 : decode cX12_told 1 = .ok (.iload_n 1, 1) := by decide +kernel
theorem dX12_told_2 : decode cX12_told 2 = .ok (.invokevirtual 187, 3) := by decide +kernel
theorem dX12_told_5 : decode cX12_told 5 = .ok (.ifCond .eq 15, 3) := by decide +kernel
theorem dX12_told_8 : decode cX12_told 8 = .ok (.iload_n 2, 1) := by decide +kernel
theorem dX12_told_9 : decode cX12_told 9 = .ok (.i2l, 1) := by decide +kernel
theorem dX12_told_10 : decode cX12_told 10 = .ok (.lconst 0, 1) := by decide +kernel
theorem dX12_told_11 : decode cX12_told 11 = .ok (.ldc2_w 235, 3) := by decide +kernel
theorem dX12_told_14 : decode cX12_told 14 = .ok (.invokestatic 172, 3) := by decide +kernel
theorem dX12_told_17 : decode cX12_told 17 = .ok (.ifCond .ne 10, 3) := by decide +kernel
theorem dX12_told_20 : decode cX12_told 20 = .ok (.aload_n 0, 1) := by decide +kernel
theorem dX12_told_21 : decode cX12_told 21 = .ok (.bipush (-2), 2) := by decide +kernel
theorem dX12_told_23 : decode cX12_told 23 = .ok (.invokevirtual 165, 3) := by decide +kernel
theorem dX12_told_26 : decode cX12_told 26 = .ok (.ireturn, 1) := by decide +kernel
theorem dX12_told_27 : decode cX12_told 27 = .ok (.iload_n 2, 1) := by decide +kernel
theorem dX12_told_28 : decode cX12_told 28 = .ok (.iconst 2, 1) := by decide +kernel
theorem dX12_told_29 : decode cX12_told 29 = .ok (.if_icmp .ge 27, 3) := by decide +kernel
theorem dX12_told_32 : decode cX12_told 32 = .ok (.aload_n 0, 1) := by decide +kernel
theorem dX12_told_33 : decode cX12_told 33 = .ok (.iload_n 2, 1) := by decide +kernel
theorem dX12_told_34 : decode cX12_told 34 = .ok (.ifCond .ne 12, 3) := by decide +kernel
theorem dX12_told_37 : decode cX12_told 37 = .ok (.aload_n 0, 1) := by decide +kernel
theorem dX12_told_38 : decode cX12_told 38 = .ok (.getfield 13, 3) := by decide +kernel
theorem dX12_told_41 : decode cX12_told 41 = .ok (.iload_n 1, 1) := by decide +kernel
theorem dX12_told_42 : decode cX12_told 42 = .ok (.iaload, 1) := by decide +kernel
theorem dX12_told_43 : decode cX12_told 43 = .ok (.goto 9, 3) := by decide +kernel
theorem dX12_told_46 : decode cX12_told 46 = .ok (.aload_n 0, 1) := by decide +kernel
theorem dX12_told_47 : decode cX12_told 47 = .ok (.getfield 16, 3) := by decide +kernel
theorem dX12_told_50 : decode cX12_told 50 = .ok (.iload_n 1, 1) := by decide +kernel
theorem dX12_told_51 : decode cX12_told 51 = .ok (.iaload, 1) := by decide +kernel
theorem dX12_told_52 : decode cX12_told 52 = .ok (.invokevirtual 180, 3) := by decide +kernel
theorem dX12_told_55 : decode cX12_told 55 = .ok (.ireturn, 1) := by decide +kernel
theorem dX12_told_56 : decode cX12_told 56 = .ok (.aload_n 0, 1) := by decide +kernel
theorem dX12_told_57 : decode cX12_told 57 = .ok (.iload_n 1, 1) := by decide +kernel
theorem dX12_told_58 : decode cX12_told 58 = .ok (.invokevirtual 237, 3) := by decide +kernel
theorem dX12_told_61 : decode cX12_told 61 = .ok (.istore_n 3, 1) := by decide +kernel
theorem dX12_told_62 : decode cX12_told 62 = .ok (.iload_n 3, 1) := by decide +kernel
theorem dX12_told_63 : decode cX12_told 63 = .ok (.ifCond .ge 5, 3) := by decide +kernel
theorem dX12_told_66 : decode cX12_told 66 = .ok (.iload_n 3, 1) := by decide +kernel
theorem dX12_told_67 : decode cX12_told 67 = .ok (.ireturn, 1) := by decide +kernel
theorem dX12_told_68 : decode cX12_told 68 = .ok (.aload_n 0, 1) := by decide +kernel
theorem dX12_told_69 : decode cX12_told 69 = .ok (.iload_n 2, 1) := by decide +kernel
theorem dX12_told_70 : decode cX12_told 70 = .ok (.iconst 2, 1) := by decide +kernel
theorem dX12_told_71 : decode cX12_told 71 = .ok (.if_icmp .ne 18, 3) := by decide +kernel
theorem dX12_told_74 : decode cX12_told 74 = .ok (.aload_n 0, 1) := by decide +kernel
theorem dX12_told_75 : decode cX12_told 75 = .ok (.iload_n 1, 1) := by decide +kernel
theorem dX12_told_76 : decode cX12_told 76 = .ok (.invokevirtual 229, 3) := by decide +kernel
theorem dX12_told_79 : decode cX12_told 79 = .ok (.aload_n 0, 1) := by decide +kernel
theorem dX12_told_80 : decode cX12_told 80 = .ok (.getfield 16, 3) := by decide +kernel
theorem dX12_told_83 : decode cX12_told 83 = .ok (.iload_n 1, 1) := by decide +kernel
theorem dX12_told_84 : decode cX12_told 84 = .ok (.iaload, 1) := by decide +kernel
theorem dX12_told_85 : decode cX12_told 85 = .ok (.iadd, 1) := by decide +kernel
theorem dX12_told_86 : decode cX12_told 86 = .ok (.goto 34, 3) := by decide +kernel
theorem dX12_told_89 : decode cX12_told 89 = .ok (.iload_n 2, 1) := by decide +kernel
theorem dX12_told_90 : decode cX12_told 90 = .ok (.iconst 3, 1) := by decide +kernel
theorem dX12_told_91 : decode cX12_told 91 = .ok (.if_icmp .ne 11, 3) := by decide +kernel
theorem dX12_told_94 : decode cX12_told 94 = .ok (.aload_n 0, 1) := by decide +kernel
theorem dX12_told_95 : decode cX12_told 95 = .ok (.iload_n 1, 1) := by decide +kernel
theorem dX12_told_96 : decode cX12_told 96 = .ok (.invokevirtual 220, 3) := by decide +kernel
theorem dX12_told_99 : decode cX12_told 99 = .ok (.goto 21, 3) := by decide +kernel
theorem dX12_told_102 : decode cX12_told 102 = .ok (.iload_n 2, 1) := by decide +kernel
theorem dX12_told_103 : decode cX12_told 103 = .ok (.iconst 4, 1) := by decide +kernel
theorem dX12_told_104 : decode cX12_told 104 = .ok (.if_icmp .ne 11, 3) := by decide +kernel
theorem dX12_told_107 : decode cX12_told 107 = .ok (.aload_n 0, 1) := by decide +kernel
theorem dX12_told_108 : decode cX12_told 108 = .ok (.iload_n 1, 1) := by decide +kernel
theorem dX12_told_109 : decode cX12_told 109 = .ok (.invokevirtual 223, 3) := by decide +kernel
theorem dX12_told_112 : decode cX12_told 112 = .ok (.goto 8, 3) := by decide +kernel
theorem dX12_told_115 : decode cX12_told 115 = .ok (.aload_n 0, 1) := by decide +kernel
theorem dX12_told_116 : decode cX12_told 116 = .ok (.iload_n 1, 1) := by decide +kernel
theorem dX12_told_117 : decode cX12_told 117 = .ok (.invokevirtual 240, 3) := by decide +kernel
theorem dX12_told_120 : decode cX12_told 120 = .ok (.invokevirtual 180, 3) := by decide +kernel
theorem dX12_told_123 : decode cX12_told 123 = .ok (.ireturn, 1) := by decide +kernel
theorem dX12_sign_0 : decode cX12_sign 0 = .ok (.aload_n 0, 1) := by decide +kernel
theorem dX12_sign_1 : decode cX12_sign 1 = .ok (.iload_n 1, 1) := by decide +kernel
theorem dX12_sign_2 : decode cX12_sign 2 = .ok (.invokevirtual 237, 3) := by decide +kernel
theorem dX12_sign_5 : decode cX12_sign 5 = .ok (.istore_n 3, 1) := by decide +kernel
theorem dX12_sign_6 : decode cX12_sign 6 = .ok (.iload_n 3, 1) := by decide +kernel
theorem dX12_sign_7 : decode cX12_sign 7 = .ok (.ifCond .ge 5, 3) := by decide +kernel
theorem dX12_sign_10 : decode cX12_sign 10 = .ok (.iload_n 3, 1) := by decide +kernel
theorem dX12_sign_11 : decode cX12_sign 11 = .ok (.ireturn, 1) := by decide +kernel
theorem dX12_sign_12 : decode cX12_sign 12 = .ok (.iload_n 2, 1) := by decide +kernel
theorem dX12_sign_13 : decode cX12_sign 13 = .ok (.i2l, 1) := by decide +kernel
theorem dX12_sign_14 : decode cX12_sign 14 = .ok (.lconst 0, 1) := by decide +kernel
theorem dX12_sign_15 : decode cX12_sign 15 = .ok (.aload_n 0, 1) := by decide +kernel
theorem dX12_sign_16 : decode cX12_sign 16 = .ok (.getfield 13, 3) := by decide +kernel
theorem dX12_sign_19 : decode cX12_sign 19 = .ok (.iload_n 1, 1) := by decide +kernel
theorem dX12_sign_20 : decode cX12_sign 20 = .ok (.iaload, 1) := by decide +kernel
theorem dX12_sign_21 : decode cX12_sign 21 = .ok (.iconst 1, 1) := by decide +kernel
theorem dX12_sign_22 : decode cX12_sign 22 = .ok (.isub, 1) := by decide +kernel
theorem dX12_sign_23 : decode cX12_sign 23 = .ok (.i2l, 1) := by decide +kernel
theorem dX12_sign_24 : decode cX12_sign 24 = .ok (.invokestatic 172, 3) := by decide +kernel
theorem dX12_sign_27 : decode cX12_sign 27 = .ok (.ifCond .ne 9, 3) := by decide +kernel
theorem dX12_sign_30 : decode cX12_sign 30 = .ok (.aload_n 0, 1) := by decide +kernel
theorem dX12_sign_31 : decode cX12_sign 31 = .ok (.iconst 2, 1) := by decide +kernel
theorem dX12_sign_32 : decode cX12_sign 32 = .ok (.invokevirtual 200, 3) := by decide +kernel
theorem dX12_sign_35 : decode cX12_sign 35 = .ok (.ireturn, 1) := by decide +kernel
theorem dX12_sign_36 : decode cX12_sign 36 = .ok (.aload_n 0, 1) := by decide +kernel
theorem dX12_sign_37 : decode cX12_sign 37 = .ok (.iload_n 1, 1) := by decide +kernel
theorem dX12_sign_38 : decode cX12_sign 38 = .ok (.invokevirtual 229, 3) := by decide +kernel
theorem dX12_sign_41 : decode cX12_sign 41 = .ok (.istore 4, 2) := by decide +kernel
theorem dX12_sign_43 : decode cX12_sign 43 = .ok (.aload_n 0, 1) := by decide +kernel
theorem dX12_sign_44 : decode cX12_sign 44 = .ok (.aload_n 0, 1) := by decide +kernel
theorem dX12_sign_45 : decode cX12_sign 45 = .ok (.iload_n 2, 1) := by decide +kernel
theorem dX12_sign_46 : decode cX12_sign 46 = .ok (.invokevirtual 232, 3) := by decide +kernel
theorem dX12_sign_49 : decode cX12_sign 49 = .ok (.invokevirtual 180, 3) := by decide +kernel
theorem dX12_sign_52 : decode cX12_sign 52 = .ok (.ireturn, 1) := by decide +kernel
theorem dX12_pieceOf_0 : decode cX12_pieceOf 0 = .ok (.aload_n 0, 1) := by decide +kernel
theorem dX12_pieceOf_1 : decode cX12_pieceOf 1 = .ok (.iload_n 1, 1) := by decide +kernel
theorem dX12_pieceOf_2 : decode cX12_pieceOf 2 = .ok (.invokevirtual 237, 3) := by decide +kernel
theorem dX12_pieceOf_5 : decode cX12_pieceOf 5 = .ok (.istore_n 3, 1) := by decide +kernel
theorem dX12_pieceOf_6 : decode cX12_pieceOf 6 = .ok (.iload_n 3, 1) := by decide +kernel
theorem dX12_pieceOf_7 : decode cX12_pieceOf 7 = .ok (.ifCond .ge 5, 3) := by decide +kernel
theorem dX12_pieceOf_10 : decode cX12_pieceOf 10 = .ok (.iload_n 3, 1) := by decide +kernel
theorem dX12_pieceOf_11 : decode cX12_pieceOf 11 = .ok (.ireturn, 1) := by decide +kernel
theorem dX12_pieceOf_12 : decode cX12_pieceOf 12 = .ok (.iload_n 2, 1) := by decide +kernel
theorem dX12_pieceOf_13 : decode cX12_pieceOf 13 = .ok (.i2l, 1) := by decide +kernel
theorem dX12_pieceOf_14 : decode cX12_pieceOf 14 = .ok (.lconst 0, 1) := by decide +kernel
theorem dX12_pieceOf_15 : decode cX12_pieceOf 15 = .ok (.iconst 4, 1) := by decide +kernel
theorem dX12_pieceOf_16 : decode cX12_pieceOf 16 = .ok (.aload_n 0, 1) := by decide +kernel
theorem dX12_pieceOf_17 : decode cX12_pieceOf 17 = .ok (.getfield 13, 3) := by decide +kernel
theorem dX12_pieceOf_20 : decode cX12_pieceOf 20 = .ok (.iload_n 1, 1) := by decide +kernel
theorem dX12_pieceOf_21 : decode cX12_pieceOf 21 = .ok (.iaload, 1) := by decide +kernel
theorem dX12_pieceOf_22 : decode cX12_pieceOf 22 = .ok (.imul, 1) := by decide +kernel
theorem dX12_pieceOf_23 : decode cX12_pieceOf 23 = .ok (.iconst 1, 1) := by decide +kernel
theorem dX12_pieceOf_24 : decode cX12_pieceOf 24 = .ok (.isub, 1) := by decide +kernel
theorem dX12_pieceOf_25 : decode cX12_pieceOf 25 = .ok (.i2l, 1) := by decide +kernel
theorem dX12_pieceOf_26 : decode cX12_pieceOf 26 = .ok (.invokestatic 172, 3) := by decide +kernel
theorem dX12_pieceOf_29 : decode cX12_pieceOf 29 = .ok (.ifCond .ne 9, 3) := by decide +kernel
theorem dX12_pieceOf_32 : decode cX12_pieceOf 32 = .ok (.aload_n 0, 1) := by decide +kernel
theorem dX12_pieceOf_33 : decode cX12_pieceOf 33 = .ok (.iconst 2, 1) := by decide +kernel
theorem dX12_pieceOf_34 : decode cX12_pieceOf 34 = .ok (.invokevirtual 200, 3) := by decide +kernel
theorem dX12_pieceOf_37 : decode cX12_pieceOf 37 = .ok (.ireturn, 1) := by decide +kernel
theorem dX12_pieceOf_38 : decode cX12_pieceOf 38 = .ok (.aload_n 0, 1) := by decide +kernel
theorem dX12_pieceOf_39 : decode cX12_pieceOf 39 = .ok (.iload_n 1, 1) := by decide +kernel
theorem dX12_pieceOf_40 : decode cX12_pieceOf 40 = .ok (.invokevirtual 229, 3) := by decide +kernel
theorem dX12_pieceOf_43 : decode cX12_pieceOf 43 = .ok (.istore 4, 2) := by decide +kernel
theorem dX12_pieceOf_45 : decode cX12_pieceOf 45 = .ok (.aload_n 0, 1) := by decide +kernel
theorem dX12_pieceOf_46 : decode cX12_pieceOf 46 = .ok (.aload_n 0, 1) := by decide +kernel
theorem dX12_pieceOf_47 : decode cX12_pieceOf 47 = .ok (.getfield 55, 3) := by decide +kernel
theorem dX12_pieceOf_50 : decode cX12_pieceOf 50 = .ok (.iload_n 2, 1) := by decide +kernel
theorem dX12_pieceOf_51 : decode cX12_pieceOf 51 = .ok (.iaload, 1) := by decide +kernel
theorem dX12_pieceOf_52 : decode cX12_pieceOf 52 = .ok (.invokevirtual 180, 3) := by decide +kernel
theorem dX12_pieceOf_55 : decode cX12_pieceOf 55 = .ok (.ireturn, 1) := by decide +kernel
theorem dX12_linking_0 : decode cX12_linking 0 = .ok (.aload_n 0, 1) := by decide +kernel
theorem dX12_linking_1 : decode cX12_linking 1 = .ok (.iload_n 1, 1) := by decide +kernel
theorem dX12_linking_2 : decode cX12_linking 2 = .ok (.invokevirtual 237, 3) := by decide +kernel
theorem dX12_linking_5 : decode cX12_linking 5 = .ok (.istore 4, 2) := by decide +kernel
theorem dX12_linking_7 : decode cX12_linking 7 = .ok (.iload 4, 2) := by decide +kernel
theorem dX12_linking_9 : decode cX12_linking 9 = .ok (.ifCond .ge 6, 3) := by decide +kernel
theorem dX12_linking_12 : decode cX12_linking 12 = .ok (.iload 4, 2) := by decide +kernel
theorem dX12_linking_14 : decode cX12_linking 14 = .ok (.ireturn, 1) := by decide +kernel
theorem dX12_linking_15 : decode cX12_linking 15 = .ok (.aload_n 0, 1) := by decide +kernel
theorem dX12_linking_16 : decode cX12_linking 16 = .ok (.iload_n 1, 1) := by decide +kernel
theorem dX12_linking_17 : decode cX12_linking 17 = .ok (.invokevirtual 229, 3) := by decide +kernel
theorem dX12_linking_20 : decode cX12_linking 20 = .ok (.aload_n 0, 1) := by decide +kernel
theorem dX12_linking_21 : decode cX12_linking 21 = .ok (.getfield 16, 3) := by decide +kernel
theorem dX12_linking_24 : decode cX12_linking 24 = .ok (.iload_n 1, 1) := by decide +kernel
theorem dX12_linking_25 : decode cX12_linking 25 = .ok (.iaload, 1) := by decide +kernel
theorem dX12_linking_26 : decode cX12_linking 26 = .ok (.iadd, 1) := by decide +kernel
theorem dX12_linking_27 : decode cX12_linking 27 = .ok (.istore 5, 2) := by decide +kernel
theorem dX12_linking_29 : decode cX12_linking 29 = .ok (.iload_n 2, 1) := by decide +kernel
theorem dX12_linking_30 : decode cX12_linking 30 = .ok (.i2l, 1) := by decide +kernel
theorem dX12_linking_31 : decode cX12_linking 31 = .ok (.lconst 0, 1) := by decide +kernel
theorem dX12_linking_32 : decode cX12_linking 32 = .ok (.iload 5, 2) := by decide +kernel
theorem dX12_linking_34 : decode cX12_linking 34 = .ok (.iconst 1, 1) := by decide +kernel
theorem dX12_linking_35 : decode cX12_linking 35 = .ok (.isub, 1) := by decide +kernel
theorem dX12_linking_36 : decode cX12_linking 36 = .ok (.i2l, 1) := by decide +kernel
theorem dX12_linking_37 : decode cX12_linking 37 = .ok (.invokestatic 172, 3) := by decide +kernel
theorem dX12_linking_40 : decode cX12_linking 40 = .ok (.ifCond .eq 22, 3) := by decide +kernel
theorem dX12_linking_43 : decode cX12_linking 43 = .ok (.iload_n 3, 1) := by decide +kernel
theorem dX12_linking_44 : decode cX12_linking 44 = .ok (.i2l, 1) := by decide +kernel
theorem dX12_linking_45 : decode cX12_linking 45 = .ok (.lconst 0, 1) := by decide +kernel
theorem dX12_linking_46 : decode cX12_linking 46 = .ok (.iload 5, 2) := by decide +kernel
theorem dX12_linking_48 : decode cX12_linking 48 = .ok (.iconst 1, 1) := by decide +kernel
theorem dX12_linking_49 : decode cX12_linking 49 = .ok (.isub, 1) := by decide +kernel
theorem dX12_linking_50 : decode cX12_linking 50 = .ok (.i2l, 1) := by decide +kernel
theorem dX12_linking_51 : decode cX12_linking 51 = .ok (.invokestatic 172, 3) := by decide +kernel
theorem dX12_linking_54 : decode cX12_linking 54 = .ok (.ifCond .eq 8, 3) := by decide +kernel
theorem dX12_linking_57 : decode cX12_linking 57 = .ok (.iload_n 2, 1) := by decide +kernel
theorem dX12_linking_58 : decode cX12_linking 58 = .ok (.iload_n 3, 1) := by decide +kernel
theorem dX12_linking_59 : decode cX12_linking 59 = .ok (.if_icmp .ne 9, 3) := by decide +kernel
theorem dX12_linking_62 : decode cX12_linking 62 = .ok (.aload_n 0, 1) := by decide +kernel
theorem dX12_linking_63 : decode cX12_linking 63 = .ok (.iconst 5, 1) := by decide +kernel
theorem dX12_linking_64 : decode cX12_linking 64 = .ok (.invokevirtual 200, 3) := by decide +kernel
theorem dX12_linking_67 : decode cX12_linking 67 = .ok (.ireturn, 1) := by decide +kernel
theorem dX12_linking_68 : decode cX12_linking 68 = .ok (.iconst 0, 1) := by decide +kernel
theorem dX12_linking_69 : decode cX12_linking 69 = .ok (.istore 6, 2) := by decide +kernel
theorem dX12_linking_71 : decode cX12_linking 71 = .ok (.iconst 0, 1) := by decide +kernel
theorem dX12_linking_72 : decode cX12_linking 72 = .ok (.istore 7, 2) := by decide +kernel
theorem dX12_linking_74 : decode cX12_linking 74 = .ok (.iload 7, 2) := by decide +kernel
theorem dX12_linking_76 : decode cX12_linking 76 = .ok (.aload_n 0, 1) := by decide +kernel
theorem dX12_linking_77 : decode cX12_linking 77 = .ok (.getfield 13, 3) := by decide +kernel
theorem dX12_linking_80 : decode cX12_linking 80 = .ok (.iload_n 1, 1) := by decide +kernel
theorem dX12_linking_81 : decode cX12_linking 81 = .ok (.iaload, 1) := by decide +kernel
theorem dX12_linking_82 : decode cX12_linking 82 = .ok (.if_icmp .ge 72, 3) := by decide +kernel
theorem dX12_linking_85 : decode cX12_linking 85 = .ok (.aload_n 0, 1) := by decide +kernel
theorem dX12_linking_86 : decode cX12_linking 86 = .ok (.getfield 55, 3) := by decide +kernel
theorem dX12_linking_89 : decode cX12_linking 89 = .ok (.iconst 4, 1) := by decide +kernel
theorem dX12_linking_90 : decode cX12_linking 90 = .ok (.iload 7, 2) := by decide +kernel
theorem dX12_linking_92 : decode cX12_linking 92 = .ok (.imul, 1) := by decide +kernel
theorem dX12_linking_93 : decode cX12_linking 93 = .ok (.iaload, 1) := by decide +kernel
theorem dX12_linking_94 : decode cX12_linking 94 = .ok (.istore 8, 2) := by decide +kernel
theorem dX12_linking_96 : decode cX12_linking 96 = .ok (.aload_n 0, 1) := by decide +kernel
theorem dX12_linking_97 : decode cX12_linking 97 = .ok (.getfield 55, 3) := by decide +kernel
theorem dX12_linking_100 : decode cX12_linking 100 = .ok (.iconst 4, 1) := by decide +kernel
theorem dX12_linking_101 : decode cX12_linking 101 = .ok (.iload 7, 2) := by decide +kernel
theorem dX12_linking_103 : decode cX12_linking 103 = .ok (.imul, 1) := by decide +kernel
theorem dX12_linking_104 : decode cX12_linking 104 = .ok (.iconst 1, 1) := by decide +kernel
theorem dX12_linking_105 : decode cX12_linking 105 = .ok (.iadd, 1) := by decide +kernel
theorem dX12_linking_106 : decode cX12_linking 106 = .ok (.iaload, 1) := by decide +kernel
theorem dX12_linking_107 : decode cX12_linking 107 = .ok (.istore 9, 2) := by decide +kernel
theorem dX12_linking_109 : decode cX12_linking 109 = .ok (.iload 6, 2) := by decide +kernel
theorem dX12_linking_111 : decode cX12_linking 111 = .ok (.iload 8, 2) := by decide +kernel
theorem dX12_linking_113 : decode cX12_linking 113 = .ok (.iload_n 2, 1) := by decide +kernel
theorem dX12_linking_114 : decode cX12_linking 114 = .ok (.if_icmp .ne 9, 3) := by decide +kernel
theorem dX12_linking_117 : decode cX12_linking 117 = .ok (.iload 9, 2) := by decide +kernel
theorem dX12_linking_119 : decode cX12_linking 119 = .ok (.iload_n 3, 1) := by decide +kernel
theorem dX12_linking_120 : decode cX12_linking 120 = .ok (.if_icmp .eq 15, 3) := by decide +kernel
theorem dX12_linking_123 : decode cX12_linking 123 = .ok (.iload 8, 2) := by decide +kernel
theorem dX12_linking_125 : decode cX12_linking 125 = .ok (.iload_n 3, 1) := by decide +kernel
theorem dX12_linking_126 : decode cX12_linking 126 = .ok (.if_icmp .ne 18, 3) := by decide +kernel
theorem dX12_linking_129 : decode cX12_linking 129 = .ok (.iload 9, 2) := by decide +kernel
theorem dX12_linking_131 : decode cX12_linking 131 = .ok (.iload_n 2, 1) := by decide +kernel
theorem dX12_linking_132 : decode cX12_linking 132 = .ok (.if_icmp .ne 12, 3) := by decide +kernel
theorem dX12_linking_135 : decode cX12_linking 135 = .ok (.aload_n 0, 1) := by decide +kernel
theorem dX12_linking_136 : decode cX12_linking 136 = .ok (.iload 7, 2) := by decide +kernel
theorem dX12_linking_138 : decode cX12_linking 138 = .ok (.invokevirtual 232, 3) := by decide +kernel
theorem dX12_linking_141 : decode cX12_linking 141 = .ok (.goto 4, 3) := by decide +kernel
theorem dX12_linking_144 : decode cX12_linking 144 = .ok (.iconst 0, 1) := by decide +kernel
theorem dX12_linking_145 : decode cX12_linking 145 = .ok (.iadd, 1) := by decide +kernel
theorem dX12_linking_146 : decode cX12_linking 146 = .ok (.istore 6, 2) := by decide +kernel
theorem dX12_linking_148 : decode cX12_linking 148 = .ok (.iinc 7 1, 3) := by decide +kernel
theorem dX12_linking_151 : decode cX12_linking 151 = .ok (.goto (-77), 3) := by decide +kernel
theorem dX12_linking_154 : decode cX12_linking 154 = .ok (.aload_n 0, 1) := by decide +kernel
theorem dX12_linking_155 : decode cX12_linking 155 = .ok (.iload 6, 2) := by decide +kernel
theorem dX12_linking_157 : decode cX12_linking 157 = .ok (.iconst 2, 1) := by decide +kernel
theorem dX12_linking_158 : decode cX12_linking 158 = .ok (.idiv, 1) := by decide +kernel
theorem dX12_linking_159 : decode cX12_linking 159 = .ok (.invokevirtual 180, 3) := by decide +kernel
theorem dX12_linking_162 : decode cX12_linking 162 = .ok (.ireturn, 1) := by decide +kernel
theorem dX12_coloursOf_0 : decode cX12_coloursOf 0 = .ok (.iconst 0, 1) := by decide +kernel
theorem dX12_coloursOf_1 : decode cX12_coloursOf 1 = .ok (.istore_n 3, 1) := by decide +kernel
theorem dX12_coloursOf_2 : decode cX12_coloursOf 2 = .ok (.iload_n 3, 1) := by decide +kernel
theorem dX12_coloursOf_3 : decode cX12_coloursOf 3 = .ok (.bipush 100, 2) := by decide +kernel
theorem dX12_coloursOf_5 : decode cX12_coloursOf 5 = .ok (.if_icmp .ge 16, 3) := by decide +kernel
theorem dX12_coloursOf_8 : decode cX12_coloursOf 8 = .ok (.aload_n 0, 1) := by decide +kernel
theorem dX12_coloursOf_9 : decode cX12_coloursOf 9 = .ok (.getfield 61, 3) := by decide +kernel
theorem dX12_coloursOf_12 : decode cX12_coloursOf 12 = .ok (.iload_n 3, 1) := by decide +kernel
theorem dX12_coloursOf_13 : decode cX12_coloursOf 13 = .ok (.iconst (-1), 1) := by decide +kernel
theorem dX12_coloursOf_14 : decode cX12_coloursOf 14 = .ok (.iastore, 1) := by decide +kernel
theorem dX12_coloursOf_15 : decode cX12_coloursOf 15 = .ok (.iinc 3 1, 3) := by decide +kernel
theorem dX12_coloursOf_18 : decode cX12_coloursOf 18 = .ok (.goto (-16), 3) := by decide +kernel
theorem dX12_coloursOf_21 : decode cX12_coloursOf 21 = .ok (.iconst 0, 1) := by decide +kernel
theorem dX12_coloursOf_22 : decode cX12_coloursOf 22 = .ok (.istore_n 3, 1) := by decide +kernel
theorem dX12_coloursOf_23 : decode cX12_coloursOf 23 = .ok (.iload_n 3, 1) := by decide +kernel
theorem dX12_coloursOf_24 : decode cX12_coloursOf 24 = .ok (.iconst 4, 1) := by decide +kernel
theorem dX12_coloursOf_25 : decode cX12_coloursOf 25 = .ok (.aload_n 0, 1) := by decide +kernel
theorem dX12_coloursOf_26 : decode cX12_coloursOf 26 = .ok (.getfield 13, 3) := by decide +kernel
theorem dX12_coloursOf_29 : decode cX12_coloursOf 29 = .ok (.iload_n 1, 1) := by decide +kernel
theorem dX12_coloursOf_30 : decode cX12_coloursOf 30 = .ok (.iaload, 1) := by decide +kernel
theorem dX12_coloursOf_31 : decode cX12_coloursOf 31 = .ok (.imul, 1) := by decide +kernel
theorem dX12_coloursOf_32 : decode cX12_coloursOf 32 = .ok (.if_icmp .ge 32, 3) := by decide +kernel
theorem dX12_coloursOf_35 : decode cX12_coloursOf 35 = .ok (.aload_n 0, 1) := by decide +kernel
theorem dX12_coloursOf_36 : decode cX12_coloursOf 36 = .ok (.getfield 23, 3) := by decide +kernel
theorem dX12_coloursOf_39 : decode cX12_coloursOf 39 = .ok (.sipush 160, 3) := by decide +kernel
theorem dX12_coloursOf_42 : decode cX12_coloursOf 42 = .ok (.iload_n 1, 1) := by decide +kernel
theorem dX12_coloursOf_43 : decode cX12_coloursOf 43 = .ok (.imul, 1) := by decide +kernel
theorem dX12_coloursOf_44 : decode cX12_coloursOf 44 = .ok (.iload_n 3, 1) := by decide +kernel
theorem dX12_coloursOf_45 : decode cX12_coloursOf 45 = .ok (.iadd, 1) := by decide +kernel
theorem dX12_coloursOf_46 : decode cX12_coloursOf 46 = .ok (.iaload, 1) := by decide +kernel
theorem dX12_coloursOf_47 : decode cX12_coloursOf 47 = .ok (.istore 4, 2) := by decide +kernel
theorem dX12_coloursOf_49 : decode cX12_coloursOf 49 = .ok (.aload_n 0, 1) := by decide +kernel
theorem dX12_coloursOf_50 : decode cX12_coloursOf 50 = .ok (.getfield 61, 3) := by decide +kernel
theorem dX12_coloursOf_53 : decode cX12_coloursOf 53 = .ok (.iload 4, 2) := by decide +kernel
theorem dX12_coloursOf_55 : decode cX12_coloursOf 55 = .ok (.iload 4, 2) := by decide +kernel
theorem dX12_coloursOf_57 : decode cX12_coloursOf 57 = .ok (.iastore, 1) := by decide +kernel
theorem dX12_coloursOf_58 : decode cX12_coloursOf 58 = .ok (.iinc 3 1, 3) := by decide +kernel
theorem dX12_coloursOf_61 : decode cX12_coloursOf 61 = .ok (.goto (-38), 3) := by decide +kernel
theorem dX12_coloursOf_64 : decode cX12_coloursOf 64 = .ok (.iconst 0, 1) := by decide +kernel
theorem dX12_coloursOf_65 : decode cX12_coloursOf 65 = .ok (.istore_n 3, 1) := by decide +kernel
theorem dX12_coloursOf_66 : decode cX12_coloursOf 66 = .ok (.iload_n 3, 1) := by decide +kernel
theorem dX12_coloursOf_67 : decode cX12_coloursOf 67 = .ok (.aload_n 0, 1) := by decide +kernel
theorem dX12_coloursOf_68 : decode cX12_coloursOf 68 = .ok (.getfield 13, 3) := by decide +kernel
theorem dX12_coloursOf_71 : decode cX12_coloursOf 71 = .ok (.iload_n 1, 1) := by decide +kernel
theorem dX12_coloursOf_72 : decode cX12_coloursOf 72 = .ok (.iaload, 1) := by decide +kernel
theorem dX12_coloursOf_73 : decode cX12_coloursOf 73 = .ok (.if_icmp .ge 102, 3) := by decide +kernel
theorem dX12_coloursOf_76 : decode cX12_coloursOf 76 = .ok (.aload_n 0, 1) := by decide +kernel
theorem dX12_coloursOf_77 : decode cX12_coloursOf 77 = .ok (.getfield 61, 3) := by decide +kernel
theorem dX12_coloursOf_80 : decode cX12_coloursOf 80 = .ok (.aload_n 0, 1) := by decide +kernel
theorem dX12_coloursOf_81 : decode cX12_coloursOf 81 = .ok (.getfield 23, 3) := by decide +kernel
theorem dX12_coloursOf_84 : decode cX12_coloursOf 84 = .ok (.sipush 160, 3) := by decide +kernel
theorem dX12_coloursOf_87 : decode cX12_coloursOf 87 = .ok (.iload_n 1, 1) := by decide +kernel
theorem dX12_coloursOf_88 : decode cX12_coloursOf 88 = .ok (.imul, 1) := by decide +kernel
theorem dX12_coloursOf_89 : decode cX12_coloursOf 89 = .ok (.iconst 4, 1) := by decide +kernel
theorem dX12_coloursOf_90 : decode cX12_coloursOf 90 = .ok (.iload_n 3, 1) := by decide +kernel
theorem dX12_coloursOf_91 : decode cX12_coloursOf 91 = .ok (.imul, 1) := by decide +kernel
theorem dX12_coloursOf_92 : decode cX12_coloursOf 92 = .ok (.iadd, 1) := by decide +kernel
theorem dX12_coloursOf_93 : decode cX12_coloursOf 93 = .ok (.iconst 1, 1) := by decide +kernel
theorem dX12_coloursOf_94 : decode cX12_coloursOf 94 = .ok (.iadd, 1) := by decide +kernel
theorem dX12_coloursOf_95 : decode cX12_coloursOf 95 = .ok (.iaload, 1) := by decide +kernel
theorem dX12_coloursOf_96 : decode cX12_coloursOf 96 = .ok (.iaload, 1) := by decide +kernel
theorem dX12_coloursOf_97 : decode cX12_coloursOf 97 = .ok (.istore 4, 2) := by decide +kernel
theorem dX12_coloursOf_99 : decode cX12_coloursOf 99 = .ok (.aload_n 0, 1) := by decide +kernel
theorem dX12_coloursOf_100 : decode cX12_coloursOf 100 = .ok (.getfield 61, 3) := by decide +kernel
theorem dX12_coloursOf_103 : decode cX12_coloursOf 103 = .ok (.aload_n 0, 1) := by decide +kernel
theorem dX12_coloursOf_104 : decode cX12_coloursOf 104 = .ok (.getfield 23, 3) := by decide +kernel
theorem dX12_coloursOf_107 : decode cX12_coloursOf 107 = .ok (.sipush 160, 3) := by decide +kernel
theorem dX12_coloursOf_110 : decode cX12_coloursOf 110 = .ok (.iload_n 1, 1) := by decide +kernel
theorem dX12_coloursOf_111 : decode cX12_coloursOf 111 = .ok (.imul, 1) := by decide +kernel
theorem dX12_coloursOf_112 : decode cX12_coloursOf 112 = .ok (.iconst 4, 1) := by decide +kernel
theorem dX12_coloursOf_113 : decode cX12_coloursOf 113 = .ok (.iload_n 3, 1) := by decide +kernel
theorem dX12_coloursOf_114 : decode cX12_coloursOf 114 = .ok (.imul, 1) := by decide +kernel
theorem dX12_coloursOf_115 : decode cX12_coloursOf 115 = .ok (.iadd, 1) := by decide +kernel
theorem dX12_coloursOf_116 : decode cX12_coloursOf 116 = .ok (.iconst 3, 1) := by decide +kernel
theorem dX12_coloursOf_117 : decode cX12_coloursOf 117 = .ok (.iadd, 1) := by decide +kernel
theorem dX12_coloursOf_118 : decode cX12_coloursOf 118 = .ok (.iaload, 1) := by decide +kernel
theorem dX12_coloursOf_119 : decode cX12_coloursOf 119 = .ok (.iaload, 1) := by decide +kernel
theorem dX12_coloursOf_120 : decode cX12_coloursOf 120 = .ok (.istore 5, 2) := by decide +kernel
theorem dX12_coloursOf_122 : decode cX12_coloursOf 122 = .ok (.iconst 0, 1) := by decide +kernel
theorem dX12_coloursOf_123 : decode cX12_coloursOf 123 = .ok (.istore 6, 2) := by decide +kernel
theorem dX12_coloursOf_125 : decode cX12_coloursOf 125 = .ok (.iload 6, 2) := by decide +kernel
theorem dX12_coloursOf_127 : decode cX12_coloursOf 127 = .ok (.bipush 100, 2) := by decide +kernel
theorem dX12_coloursOf_129 : decode cX12_coloursOf 129 = .ok (.if_icmp .ge 40, 3) := by decide +kernel
theorem dX12_coloursOf_132 : decode cX12_coloursOf 132 = .ok (.aload_n 0, 1) := by decide +kernel
theorem dX12_coloursOf_133 : decode cX12_coloursOf 133 = .ok (.getfield 61, 3) := by decide +kernel
theorem dX12_coloursOf_136 : decode cX12_coloursOf 136 = .ok (.iload 6, 2) := by decide +kernel
theorem dX12_coloursOf_138 : decode cX12_coloursOf 138 = .ok (.aload_n 0, 1) := by decide +kernel
theorem dX12_coloursOf_139 : decode cX12_coloursOf 139 = .ok (.getfield 61, 3) := by decide +kernel
theorem dX12_coloursOf_142 : decode cX12_coloursOf 142 = .ok (.iload 6, 2) := by decide +kernel
theorem dX12_coloursOf_144 : decode cX12_coloursOf 144 = .ok (.iaload, 1) := by decide +kernel
theorem dX12_coloursOf_145 : decode cX12_coloursOf 145 = .ok (.iload 5, 2) := by decide +kernel
theorem dX12_coloursOf_147 : decode cX12_coloursOf 147 = .ok (.if_icmp .ne 8, 3) := by decide +kernel
theorem dX12_coloursOf_150 : decode cX12_coloursOf 150 = .ok (.iload 4, 2) := by decide +kernel
theorem dX12_coloursOf_152 : decode cX12_coloursOf 152 = .ok (.goto 10, 3) := by decide +kernel
theorem dX12_coloursOf_155 : decode cX12_coloursOf 155 = .ok (.aload_n 0, 1) := by decide +kernel
theorem dX12_coloursOf_156 : decode cX12_coloursOf 156 = .ok (.getfield 61, 3) := by decide +kernel
theorem dX12_coloursOf_159 : decode cX12_coloursOf 159 = .ok (.iload 6, 2) := by decide +kernel
theorem dX12_coloursOf_161 : decode cX12_coloursOf 161 = .ok (.iaload, 1) := by decide +kernel
theorem dX12_coloursOf_162 : decode cX12_coloursOf 162 = .ok (.iastore, 1) := by decide +kernel
theorem dX12_coloursOf_163 : decode cX12_coloursOf 163 = .ok (.iinc 6 1, 3) := by decide +kernel
theorem dX12_coloursOf_166 : decode cX12_coloursOf 166 = .ok (.goto (-41), 3) := by decide +kernel
theorem dX12_coloursOf_169 : decode cX12_coloursOf 169 = .ok (.iinc 3 1, 3) := by decide +kernel
theorem dX12_coloursOf_172 : decode cX12_coloursOf 172 = .ok (.goto (-106), 3) := by decide +kernel
theorem dX12_coloursOf_175 : decode cX12_coloursOf 175 = .ok (.iconst 0, 1) := by decide +kernel
theorem dX12_coloursOf_176 : decode cX12_coloursOf 176 = .ok (.istore_n 3, 1) := by decide +kernel
theorem dX12_coloursOf_177 : decode cX12_coloursOf 177 = .ok (.iconst 0, 1) := by decide +kernel
theorem dX12_coloursOf_178 : decode cX12_coloursOf 178 = .ok (.istore 4, 2) := by decide +kernel
theorem dX12_coloursOf_180 : decode cX12_coloursOf 180 = .ok (.iload 4, 2) := by decide +kernel
theorem dX12_coloursOf_182 : decode cX12_coloursOf 182 = .ok (.bipush 100, 2) := by decide +kernel
theorem dX12_coloursOf_184 : decode cX12_coloursOf 184 = .ok (.if_icmp .ge 29, 3) := by decide +kernel
theorem dX12_coloursOf_187 : decode cX12_coloursOf 187 = .ok (.iload_n 3, 1) := by decide +kernel
theorem dX12_coloursOf_188 : decode cX12_coloursOf 188 = .ok (.aload_n 0, 1) := by decide +kernel
theorem dX12_coloursOf_189 : decode cX12_coloursOf 189 = .ok (.getfield 61, 3) := by decide +kernel
theorem dX12_coloursOf_192 : decode cX12_coloursOf 192 = .ok (.iload 4, 2) := by decide +kernel
theorem dX12_coloursOf_194 : decode cX12_coloursOf 194 = .ok (.iaload, 1) := by decide +kernel
theorem dX12_coloursOf_195 : decode cX12_coloursOf 195 = .ok (.iload 4, 2) := by decide +kernel
theorem dX12_coloursOf_197 : decode cX12_coloursOf 197 = .ok (.if_icmp .ne 7, 3) := by decide +kernel
theorem dX12_coloursOf_200 : decode cX12_coloursOf 200 = .ok (.iconst 1, 1) := by decide +kernel
theorem dX12_coloursOf_201 : decode cX12_coloursOf 201 = .ok (.goto 4, 3) := by decide +kernel
theorem dX12_coloursOf_204 : decode cX12_coloursOf 204 = .ok (.iconst 0, 1) := by decide +kernel
theorem dX12_coloursOf_205 : decode cX12_coloursOf 205 = .ok (.iadd, 1) := by decide +kernel
theorem dX12_coloursOf_206 : decode cX12_coloursOf 206 = .ok (.istore_n 3, 1) := by decide +kernel
theorem dX12_coloursOf_207 : decode cX12_coloursOf 207 = .ok (.iinc 4 1, 3) := by decide +kernel
theorem dX12_coloursOf_210 : decode cX12_coloursOf 210 = .ok (.goto (-30), 3) := by decide +kernel
theorem dX12_coloursOf_213 : decode cX12_coloursOf 213 = .ok (.iconst 0, 1) := by decide +kernel
theorem dX12_coloursOf_214 : decode cX12_coloursOf 214 = .ok (.istore 4, 2) := by decide +kernel
theorem dX12_coloursOf_216 : decode cX12_coloursOf 216 = .ok (.iload 4, 2) := by decide +kernel
theorem dX12_coloursOf_218 : decode cX12_coloursOf 218 = .ok (.bipush 100, 2) := by decide +kernel
theorem dX12_coloursOf_220 : decode cX12_coloursOf 220 = .ok (.aload_n 0, 1) := by decide +kernel
theorem dX12_coloursOf_221 : decode cX12_coloursOf 221 = .ok (.getfield 13, 3) := by decide +kernel
theorem dX12_coloursOf_224 : decode cX12_coloursOf 224 = .ok (.iload_n 1, 1) := by decide +kernel
theorem dX12_coloursOf_225 : decode cX12_coloursOf 225 = .ok (.iaload, 1) := by decide +kernel
theorem dX12_coloursOf_226 : decode cX12_coloursOf 226 = .ok (.imul, 1) := by decide +kernel
theorem dX12_coloursOf_227 : decode cX12_coloursOf 227 = .ok (.if_icmp .ge 17, 3) := by decide +kernel
theorem dX12_coloursOf_230 : decode cX12_coloursOf 230 = .ok (.aload_n 0, 1) := by decide +kernel
theorem dX12_coloursOf_231 : decode cX12_coloursOf 231 = .ok (.getfield 64, 3) := by decide +kernel
theorem dX12_coloursOf_234 : decode cX12_coloursOf 234 = .ok (.iload 4, 2) := by decide +kernel
theorem dX12_coloursOf_236 : decode cX12_coloursOf 236 = .ok (.iconst 0, 1) := by decide +kernel
theorem dX12_coloursOf_237 : decode cX12_coloursOf 237 = .ok (.iastore, 1) := by decide +kernel
theorem dX12_coloursOf_238 : decode cX12_coloursOf 238 = .ok (.iinc 4 1, 3) := by decide +kernel
theorem dX12_coloursOf_241 : decode cX12_coloursOf 241 = .ok (.goto (-25), 3) := by decide +kernel
theorem dX12_coloursOf_244 : decode cX12_coloursOf 244 = .ok (.iconst 0, 1) := by decide +kernel
theorem dX12_coloursOf_245 : decode cX12_coloursOf 245 = .ok (.istore 4, 2) := by decide +kernel
theorem dX12_coloursOf_247 : decode cX12_coloursOf 247 = .ok (.iload 4, 2) := by decide +kernel
theorem dX12_coloursOf_249 : decode cX12_coloursOf 249 = .ok (.aload_n 0, 1) := by decide +kernel
theorem dX12_coloursOf_250 : decode cX12_coloursOf 250 = .ok (.getfield 13, 3) := by decide +kernel
theorem dX12_coloursOf_253 : decode cX12_coloursOf 253 = .ok (.iload_n 1, 1) := by decide +kernel
theorem dX12_coloursOf_254 : decode cX12_coloursOf 254 = .ok (.iaload, 1) := by decide +kernel
theorem dX12_coloursOf_255 : decode cX12_coloursOf 255 = .ok (.if_icmp .ge 108, 3) := by decide +kernel
theorem dX12_coloursOf_258 : decode cX12_coloursOf 258 = .ok (.sipush 160, 3) := by decide +kernel
theorem dX12_coloursOf_261 : decode cX12_coloursOf 261 = .ok (.iload_n 1, 1) := by decide +kernel
theorem dX12_coloursOf_262 : decode cX12_coloursOf 262 = .ok (.imul, 1) := by decide +kernel
theorem dX12_coloursOf_263 : decode cX12_coloursOf 263 = .ok (.iconst 4, 1) := by decide +kernel
theorem dX12_coloursOf_264 : decode cX12_coloursOf 264 = .ok (.iload 4, 2) := by decide +kernel
theorem dX12_coloursOf_266 : decode cX12_coloursOf 266 = .ok (.imul, 1) := by decide +kernel
theorem dX12_coloursOf_267 : decode cX12_coloursOf 267 = .ok (.iadd, 1) := by decide +kernel
theorem dX12_coloursOf_268 : decode cX12_coloursOf 268 = .ok (.istore 5, 2) := by decide +kernel
theorem dX12_coloursOf_270 : decode cX12_coloursOf 270 = .ok (.aload_n 0, 1) := by decide +kernel
theorem dX12_coloursOf_271 : decode cX12_coloursOf 271 = .ok (.getfield 64, 3) := by decide +kernel
theorem dX12_coloursOf_274 : decode cX12_coloursOf 274 = .ok (.bipush 100, 2) := by decide +kernel
theorem dX12_coloursOf_276 : decode cX12_coloursOf 276 = .ok (.iload 4, 2) := by decide +kernel
theorem dX12_coloursOf_278 : decode cX12_coloursOf 278 = .ok (.imul, 1) := by decide +kernel
theorem dX12_coloursOf_279 : decode cX12_coloursOf 279 = .ok (.aload_n 0, 1) := by decide +kernel
theorem dX12_coloursOf_280 : decode cX12_coloursOf 280 = .ok (.getfield 61, 3) := by decide +kernel
theorem dX12_coloursOf_283 : decode cX12_coloursOf 283 = .ok (.aload_n 0, 1) := by decide +kernel
theorem dX12_coloursOf_284 : decode cX12_coloursOf 284 = .ok (.getfield 23, 3) := by decide +kernel
theorem dX12_coloursOf_287 : decode cX12_coloursOf 287 = .ok (.iload 5, 2) := by decide +kernel
theorem dX12_coloursOf_289 : decode cX12_coloursOf 289 = .ok (.iaload, 1) := by decide +kernel
theorem dX12_coloursOf_290 : decode cX12_coloursOf 290 = .ok (.iaload, 1) := by decide +kernel
theorem dX12_coloursOf_291 : decode cX12_coloursOf 291 = .ok (.iadd, 1) := by decide +kernel
theorem dX12_coloursOf_292 : decode cX12_coloursOf 292 = .ok (.dup2, 1) := by decide +kernel
theorem dX12_coloursOf_293 : decode cX12_coloursOf 293 = .ok (.iaload, 1) := by decide +kernel
theorem dX12_coloursOf_294 : decode cX12_coloursOf 294 = .ok (.iconst 1, 1) := by decide +kernel
theorem dX12_coloursOf_295 : decode cX12_coloursOf 295 = .ok (.iadd, 1) := by decide +kernel
theorem dX12_coloursOf_296 : decode cX12_coloursOf 296 = .ok (.iastore, 1) := by decide +kernel
theorem dX12_coloursOf_297 : decode cX12_coloursOf 297 = .ok (.aload_n 0, 1) := by decide +kernel
theorem dX12_coloursOf_298 : decode cX12_coloursOf 298 = .ok (.getfield 64, 3) := by decide +kernel
theorem dX12_coloursOf_301 : decode cX12_coloursOf 301 = .ok (.bipush 100, 2) := by decide +kernel
theorem dX12_coloursOf_303 : decode cX12_coloursOf 303 = .ok (.iload 4, 2) := by decide +kernel
theorem dX12_coloursOf_305 : decode cX12_coloursOf 305 = .ok (.imul, 1) := by decide +kernel
theorem dX12_coloursOf_306 : decode cX12_coloursOf 306 = .ok (.aload_n 0, 1) := by decide +kernel
theorem dX12_coloursOf_307 : decode cX12_coloursOf 307 = .ok (.getfield 61, 3) := by decide +kernel
theorem dX12_coloursOf_310 : decode cX12_coloursOf 310 = .ok (.aload_n 0, 1) := by decide +kernel
theorem dX12_coloursOf_311 : decode cX12_coloursOf 311 = .ok (.getfield 23, 3) := by decide +kernel
theorem dX12_coloursOf_314 : decode cX12_coloursOf 314 = .ok (.iload 5, 2) := by decide +kernel
theorem dX12_coloursOf_316 : decode cX12_coloursOf 316 = .ok (.iconst 2, 1) := by decide +kernel
theorem dX12_coloursOf_317 : decode cX12_coloursOf 317 = .ok (.iadd, 1) := by decide +kernel
theorem dX12_coloursOf_318 : decode cX12_coloursOf 318 = .ok (.iaload, 1) := by decide +kernel
theorem dX12_coloursOf_319 : decode cX12_coloursOf 319 = .ok (.iaload, 1) := by decide +kernel
theorem dX12_coloursOf_320 : decode cX12_coloursOf 320 = .ok (.iadd, 1) := by decide +kernel
theorem dX12_coloursOf_321 : decode cX12_coloursOf 321 = .ok (.dup2, 1) := by decide +kernel
theorem dX12_coloursOf_322 : decode cX12_coloursOf 322 = .ok (.iaload, 1) := by decide +kernel
theorem dX12_coloursOf_323 : decode cX12_coloursOf 323 = .ok (.iconst 1, 1) := by decide +kernel
theorem dX12_coloursOf_324 : decode cX12_coloursOf 324 = .ok (.iadd, 1) := by decide +kernel
theorem dX12_coloursOf_325 : decode cX12_coloursOf 325 = .ok (.iastore, 1) := by decide +kernel
theorem dX12_coloursOf_326 : decode cX12_coloursOf 326 = .ok (.aload_n 0, 1) := by decide +kernel
theorem dX12_coloursOf_327 : decode cX12_coloursOf 327 = .ok (.getfield 64, 3) := by decide +kernel
theorem dX12_coloursOf_330 : decode cX12_coloursOf 330 = .ok (.bipush 100, 2) := by decide +kernel
theorem dX12_coloursOf_332 : decode cX12_coloursOf 332 = .ok (.iload 4, 2) := by decide +kernel
theorem dX12_coloursOf_334 : decode cX12_coloursOf 334 = .ok (.imul, 1) := by decide +kernel
theorem dX12_coloursOf_335 : decode cX12_coloursOf 335 = .ok (.aload_n 0, 1) := by decide +kernel
theorem dX12_coloursOf_336 : decode cX12_coloursOf 336 = .ok (.getfield 61, 3) := by decide +kernel
theorem dX12_coloursOf_339 : decode cX12_coloursOf 339 = .ok (.aload_n 0, 1) := by decide +kernel
theorem dX12_coloursOf_340 : decode cX12_coloursOf 340 = .ok (.getfield 23, 3) := by decide +kernel
theorem dX12_coloursOf_343 : decode cX12_coloursOf 343 = .ok (.iload 5, 2) := by decide +kernel
theorem dX12_coloursOf_345 : decode cX12_coloursOf 345 = .ok (.iconst 1, 1) := by decide +kernel
theorem dX12_coloursOf_346 : decode cX12_coloursOf 346 = .ok (.iadd, 1) := by decide +kernel
theorem dX12_coloursOf_347 : decode cX12_coloursOf 347 = .ok (.iaload, 1) := by decide +kernel
theorem dX12_coloursOf_348 : decode cX12_coloursOf 348 = .ok (.iaload, 1) := by decide +kernel
theorem dX12_coloursOf_349 : decode cX12_coloursOf 349 = .ok (.iadd, 1) := by decide +kernel
theorem dX12_coloursOf_350 : decode cX12_coloursOf 350 = .ok (.dup2, 1) := by decide +kernel
theorem dX12_coloursOf_351 : decode cX12_coloursOf 351 = .ok (.iaload, 1) := by decide +kernel
theorem dX12_coloursOf_352 : decode cX12_coloursOf 352 = .ok (.iload_n 2, 1) := by decide +kernel
theorem dX12_coloursOf_353 : decode cX12_coloursOf 353 = .ok (.iconst 2, 1) := by decide +kernel
theorem dX12_coloursOf_354 : decode cX12_coloursOf 354 = .ok (.isub, 1) := by decide +kernel
theorem dX12_coloursOf_355 : decode cX12_coloursOf 355 = .ok (.iadd, 1) := by decide +kernel
theorem dX12_coloursOf_356 : decode cX12_coloursOf 356 = .ok (.iastore, 1) := by decide +kernel
theorem dX12_coloursOf_357 : decode cX12_coloursOf 357 = .ok (.iinc 4 1, 3) := by decide +kernel
theorem dX12_coloursOf_360 : decode cX12_coloursOf 360 = .ok (.goto (-113), 3) := by decide +kernel
theorem dX12_coloursOf_363 : decode cX12_coloursOf 363 = .ok (.iconst 0, 1) := by decide +kernel
theorem dX12_coloursOf_364 : decode cX12_coloursOf 364 = .ok (.istore 4, 2) := by decide +kernel
theorem dX12_coloursOf_366 : decode cX12_coloursOf 366 = .ok (.iconst 0, 1) := by decide +kernel
theorem dX12_coloursOf_367 : decode cX12_coloursOf 367 = .ok (.istore 5, 2) := by decide +kernel
theorem dX12_coloursOf_369 : decode cX12_coloursOf 369 = .ok (.iload 5, 2) := by decide +kernel
theorem dX12_coloursOf_371 : decode cX12_coloursOf 371 = .ok (.bipush 100, 2) := by decide +kernel
theorem dX12_coloursOf_373 : decode cX12_coloursOf 373 = .ok (.if_icmp .ge 91, 3) := by decide +kernel
theorem dX12_coloursOf_376 : decode cX12_coloursOf 376 = .ok (.iconst (-1), 1) := by decide +kernel
theorem dX12_coloursOf_377 : decode cX12_coloursOf 377 = .ok (.istore 6, 2) := by decide +kernel
theorem dX12_coloursOf_379 : decode cX12_coloursOf 379 = .ok (.aload_n 0, 1) := by decide +kernel
theorem dX12_coloursOf_380 : decode cX12_coloursOf 380 = .ok (.getfield 13, 3) := by decide +kernel
theorem dX12_coloursOf_383 : decode cX12_coloursOf 383 = .ok (.iload_n 1, 1) := by decide +kernel
theorem dX12_coloursOf_384 : decode cX12_coloursOf 384 = .ok (.iaload, 1) := by decide +kernel
theorem dX12_coloursOf_385 : decode cX12_coloursOf 385 = .ok (.iconst 1, 1) := by decide +kernel
theorem dX12_coloursOf_386 : decode cX12_coloursOf 386 = .ok (.isub, 1) := by decide +kernel
theorem dX12_coloursOf_387 : decode cX12_coloursOf 387 = .ok (.istore 7, 2) := by decide +kernel
theorem dX12_coloursOf_389 : decode cX12_coloursOf 389 = .ok (.iload 7, 2) := by decide +kernel
theorem dX12_coloursOf_391 : decode cX12_coloursOf 391 = .ok (.iload 4, 2) := by decide +kernel
theorem dX12_coloursOf_393 : decode cX12_coloursOf 393 = .ok (.if_icmp .lt 36, 3) := by decide +kernel
theorem dX12_coloursOf_396 : decode cX12_coloursOf 396 = .ok (.aload_n 0, 1) := by decide +kernel
theorem dX12_coloursOf_397 : decode cX12_coloursOf 397 = .ok (.getfield 64, 3) := by decide +kernel
theorem dX12_coloursOf_400 : decode cX12_coloursOf 400 = .ok (.bipush 100, 2) := by decide +kernel
theorem dX12_coloursOf_402 : decode cX12_coloursOf 402 = .ok (.iload 7, 2) := by decide +kernel
theorem dX12_coloursOf_404 : decode cX12_coloursOf 404 = .ok (.imul, 1) := by decide +kernel
theorem dX12_coloursOf_405 : decode cX12_coloursOf 405 = .ok (.iload 5, 2) := by decide +kernel
theorem dX12_coloursOf_407 : decode cX12_coloursOf 407 = .ok (.iadd, 1) := by decide +kernel
theorem dX12_coloursOf_408 : decode cX12_coloursOf 408 = .ok (.iaload, 1) := by decide +kernel
theorem dX12_coloursOf_409 : decode cX12_coloursOf 409 = .ok (.iload_n 2, 1) := by decide +kernel
theorem dX12_coloursOf_410 : decode cX12_coloursOf 410 = .ok (.irem, 1) := by decide +kernel
theorem dX12_coloursOf_411 : decode cX12_coloursOf 411 = .ok (.ifCond .eq 8, 3) := by decide +kernel
theorem dX12_coloursOf_414 : decode cX12_coloursOf 414 = .ok (.iload 7, 2) := by decide +kernel
theorem dX12_coloursOf_416 : decode cX12_coloursOf 416 = .ok (.goto 5, 3) := by decide +kernel
theorem dX12_coloursOf_419 : decode cX12_coloursOf 419 = .ok (.iload 6, 2) := by decide +kernel
theorem dX12_coloursOf_421 : decode cX12_coloursOf 421 = .ok (.istore 6, 2) := by decide +kernel
theorem dX12_coloursOf_423 : decode cX12_coloursOf 423 = .ok (.iinc 7 (-1), 3) := by decide +kernel
theorem dX12_coloursOf_426 : decode cX12_coloursOf 426 = .ok (.goto (-37), 3) := by decide +kernel
theorem dX12_coloursOf_429 : decode cX12_coloursOf 429 = .ok (.iload 6, 2) := by decide +kernel
theorem dX12_coloursOf_431 : decode cX12_coloursOf 431 = .ok (.iconst (-1), 1) := by decide +kernel
theorem dX12_coloursOf_432 : decode cX12_coloursOf 432 = .ok (.if_icmp .eq 26, 3) := by decide +kernel
theorem dX12_coloursOf_435 : decode cX12_coloursOf 435 = .ok (.aload_n 0, 1) := by decide +kernel
theorem dX12_coloursOf_436 : decode cX12_coloursOf 436 = .ok (.getfield 64, 3) := by decide +kernel
theorem dX12_coloursOf_439 : decode cX12_coloursOf 439 = .ok (.aload_n 0, 1) := by decide +kernel
theorem dX12_coloursOf_440 : decode cX12_coloursOf 440 = .ok (.getfield 13, 3) := by decide +kernel
theorem dX12_coloursOf_443 : decode cX12_coloursOf 443 = .ok (.iload_n 1, 1) := by decide +kernel
theorem dX12_coloursOf_444 : decode cX12_coloursOf 444 = .ok (.iaload, 1) := by decide +kernel
theorem dX12_coloursOf_445 : decode cX12_coloursOf 445 = .ok (.iload 4, 2) := by decide +kernel
theorem dX12_coloursOf_447 : decode cX12_coloursOf 447 = .ok (.iload 6, 2) := by decide +kernel
theorem dX12_coloursOf_449 : decode cX12_coloursOf 449 = .ok (.iload 5, 2) := by decide +kernel
theorem dX12_coloursOf_451 : decode cX12_coloursOf 451 = .ok (.iload_n 2, 1) := by decide +kernel
theorem dX12_coloursOf_452 : decode cX12_coloursOf 452 = .ok (.invokestatic 243, 3) := by decide +kernel
theorem dX12_coloursOf_455 : decode cX12_coloursOf 455 = .ok (.iinc 4 1, 3) := by decide +kernel
theorem dX12_coloursOf_458 : decode cX12_coloursOf 458 = .ok (.iinc 5 1, 3) := by decide +kernel
theorem dX12_coloursOf_461 : decode cX12_coloursOf 461 = .ok (.goto (-92), 3) := by decide +kernel
theorem dX12_coloursOf_464 : decode cX12_coloursOf 464 = .ok (.iload_n 3, 1) := by decide +kernel
theorem dX12_coloursOf_465 : decode cX12_coloursOf 465 = .ok (.aload_n 0, 1) := by decide +kernel
theorem dX12_coloursOf_466 : decode cX12_coloursOf 466 = .ok (.getfield 16, 3) := by decide +kernel
theorem dX12_coloursOf_469 : decode cX12_coloursOf 469 = .ok (.iload_n 1, 1) := by decide +kernel
theorem dX12_coloursOf_470 : decode cX12_coloursOf 470 = .ok (.iaload, 1) := by decide +kernel
theorem dX12_coloursOf_471 : decode cX12_coloursOf 471 = .ok (.iadd, 1) := by decide +kernel
theorem dX12_coloursOf_472 : decode cX12_coloursOf 472 = .ok (.iload 4, 2) := by decide +kernel
theorem dX12_coloursOf_474 : decode cX12_coloursOf 474 = .ok (.isub, 1) := by decide +kernel
theorem dX12_coloursOf_475 : decode cX12_coloursOf 475 = .ok (.ireturn, 1) := by decide +kernel
theorem dX12_clears_0 : decode cX12_clears 0 = .ok (.iconst 0, 1) := by decide +kernel
theorem dX12_clears_1 : decode cX12_clears 1 = .ok (.istore 6, 2) := by decide +kernel
theorem dX12_clears_3 : decode cX12_clears 3 = .ok (.iload 6, 2) := by decide +kernel
theorem dX12_clears_5 : decode cX12_clears 5 = .ok (.bipush 100, 2) := by decide +kernel
theorem dX12_clears_7 : decode cX12_clears 7 = .ok (.if_icmp .ge 52, 3) := by decide +kernel
theorem dX12_clears_10 : decode cX12_clears 10 = .ok (.aload_n 0, 1) := by decide +kernel
theorem dX12_clears_11 : decode cX12_clears 11 = .ok (.bipush 100, 2) := by decide +kernel
theorem dX12_clears_13 : decode cX12_clears 13 = .ok (.iload_n 3, 1) := by decide +kernel
theorem dX12_clears_14 : decode cX12_clears 14 = .ok (.imul, 1) := by decide +kernel
theorem dX12_clears_15 : decode cX12_clears 15 = .ok (.iload 6, 2) := by decide +kernel
theorem dX12_clears_17 : decode cX12_clears 17 = .ok (.iadd, 1) := by decide +kernel
theorem dX12_clears_18 : decode cX12_clears 18 = .ok (.iaload, 1) := by decide +kernel
theorem dX12_clears_19 : decode cX12_clears 19 = .ok (.istore 7, 2) := by decide +kernel
theorem dX12_clears_21 : decode cX12_clears 21 = .ok (.aload_n 0, 1) := by decide +kernel
theorem dX12_clears_22 : decode cX12_clears 22 = .ok (.bipush 100, 2) := by decide +kernel
theorem dX12_clears_24 : decode cX12_clears 24 = .ok (.iload_n 3, 1) := by decide +kernel
theorem dX12_clears_25 : decode cX12_clears 25 = .ok (.imul, 1) := by decide +kernel
theorem dX12_clears_26 : decode cX12_clears 26 = .ok (.iload 6, 2) := by decide +kernel
theorem dX12_clears_28 : decode cX12_clears 28 = .ok (.iadd, 1) := by decide +kernel
theorem dX12_clears_29 : decode cX12_clears 29 = .ok (.aload_n 0, 1) := by decide +kernel
theorem dX12_clears_30 : decode cX12_clears 30 = .ok (.bipush 100, 2) := by decide +kernel
theorem dX12_clears_32 : decode cX12_clears 32 = .ok (.iload_n 2, 1) := by decide +kernel
theorem dX12_clears_33 : decode cX12_clears 33 = .ok (.imul, 1) := by decide +kernel
theorem dX12_clears_34 : decode cX12_clears 34 = .ok (.iload 6, 2) := by decide +kernel
theorem dX12_clears_36 : decode cX12_clears 36 = .ok (.iadd, 1) := by decide +kernel
theorem dX12_clears_37 : decode cX12_clears 37 = .ok (.iaload, 1) := by decide +kernel
theorem dX12_clears_38 : decode cX12_clears 38 = .ok (.iastore, 1) := by decide +kernel
theorem dX12_clears_39 : decode cX12_clears 39 = .ok (.aload_n 0, 1) := by decide +kernel
theorem dX12_clears_40 : decode cX12_clears 40 = .ok (.bipush 100, 2) := by decide +kernel
theorem dX12_clears_42 : decode cX12_clears 42 = .ok (.iload_n 2, 1) := by decide +kernel
theorem dX12_clears_43 : decode cX12_clears 43 = .ok (.imul, 1) := by decide +kernel
theorem dX12_clears_44 : decode cX12_clears 44 = .ok (.iload 6, 2) := by decide +kernel
theorem dX12_clears_46 : decode cX12_clears 46 = .ok (.iadd, 1) := by decide +kernel
theorem dX12_clears_47 : decode cX12_clears 47 = .ok (.iload 7, 2) := by decide +kernel
theorem dX12_clears_49 : decode cX12_clears 49 = .ok (.iload 5, 2) := by decide +kernel
theorem dX12_clears_51 : decode cX12_clears 51 = .ok (.irem, 1) := by decide +kernel
theorem dX12_clears_52 : decode cX12_clears 52 = .ok (.iastore, 1) := by decide +kernel
theorem dX12_clears_53 : decode cX12_clears 53 = .ok (.iinc 6 1, 3) := by decide +kernel
theorem dX12_clears_56 : decode cX12_clears 56 = .ok (.goto (-53), 3) := by decide +kernel
theorem dX12_clears_59 : decode cX12_clears 59 = .ok (.aload_n 0, 1) := by decide +kernel
theorem dX12_clears_60 : decode cX12_clears 60 = .ok (.bipush 100, 2) := by decide +kernel
theorem dX12_clears_62 : decode cX12_clears 62 = .ok (.iload_n 2, 1) := by decide +kernel
theorem dX12_clears_63 : decode cX12_clears 63 = .ok (.imul, 1) := by decide +kernel
theorem dX12_clears_64 : decode cX12_clears 64 = .ok (.iload 4, 2) := by decide +kernel
theorem dX12_clears_66 : decode cX12_clears 66 = .ok (.iadd, 1) := by decide +kernel
theorem dX12_clears_67 : decode cX12_clears 67 = .ok (.iaload, 1) := by decide +kernel
theorem dX12_clears_68 : decode cX12_clears 68 = .ok (.istore 6, 2) := by decide +kernel
theorem dX12_clears_70 : decode cX12_clears 70 = .ok (.iload_n 2, 1) := by decide +kernel
theorem dX12_clears_71 : decode cX12_clears 71 = .ok (.iconst 1, 1) := by decide +kernel
theorem dX12_clears_72 : decode cX12_clears 72 = .ok (.iadd, 1) := by decide +kernel
theorem dX12_clears_73 : decode cX12_clears 73 = .ok (.istore 7, 2) := by decide +kernel
theorem dX12_clears_75 : decode cX12_clears 75 = .ok (.iload 7, 2) := by decide +kernel
theorem dX12_clears_77 : decode cX12_clears 77 = .ok (.iload_n 1, 1) := by decide +kernel
theorem dX12_clears_78 : decode cX12_clears 78 = .ok (.if_icmp .ge 90, 3) := by decide +kernel
theorem dX12_clears_81 : decode cX12_clears 81 = .ok (.aload_n 0, 1) := by decide +kernel
theorem dX12_clears_82 : decode cX12_clears 82 = .ok (.bipush 100, 2) := by decide +kernel
theorem dX12_clears_84 : decode cX12_clears 84 = .ok (.iload 7, 2) := by decide +kernel
theorem dX12_clears_86 : decode cX12_clears 86 = .ok (.imul, 1) := by decide +kernel
theorem dX12_clears_87 : decode cX12_clears 87 = .ok (.iload 4, 2) := by decide +kernel
theorem dX12_clears_89 : decode cX12_clears 89 = .ok (.iadd, 1) := by decide +kernel
theorem dX12_clears_90 : decode cX12_clears 90 = .ok (.iaload, 1) := by decide +kernel
theorem dX12_clears_91 : decode cX12_clears 91 = .ok (.iload 5, 2) := by decide +kernel
theorem dX12_clears_93 : decode cX12_clears 93 = .ok (.irem, 1) := by decide +kernel
theorem dX12_clears_94 : decode cX12_clears 94 = .ok (.istore 8, 2) := by decide +kernel
theorem dX12_clears_96 : decode cX12_clears 96 = .ok (.iconst 0, 1) := by decide +kernel
theorem dX12_clears_97 : decode cX12_clears 97 = .ok (.istore 9, 2) := by decide +kernel
theorem dX12_clears_99 : decode cX12_clears 99 = .ok (.iload 9, 2) := by decide +kernel
theorem dX12_clears_101 : decode cX12_clears 101 = .ok (.bipush 100, 2) := by decide +kernel
theorem dX12_clears_103 : decode cX12_clears 103 = .ok (.if_icmp .ge 59, 3) := by decide +kernel
theorem dX12_clears_106 : decode cX12_clears 106 = .ok (.iload 8, 2) := by decide +kernel
theorem dX12_clears_108 : decode cX12_clears 108 = .ok (.ifCond .eq 54, 3) := by decide +kernel
theorem dX12_clears_111 : decode cX12_clears 111 = .ok (.aload_n 0, 1) := by decide +kernel
theorem dX12_clears_112 : decode cX12_clears 112 = .ok (.bipush 100, 2) := by decide +kernel
theorem dX12_clears_114 : decode cX12_clears 114 = .ok (.iload 7, 2) := by decide +kernel
theorem dX12_clears_116 : decode cX12_clears 116 = .ok (.imul, 1) := by decide +kernel
theorem dX12_clears_117 : decode cX12_clears 117 = .ok (.iload 9, 2) := by decide +kernel
theorem dX12_clears_119 : decode cX12_clears 119 = .ok (.iadd, 1) := by decide +kernel
theorem dX12_clears_120 : decode cX12_clears 120 = .ok (.aload_n 0, 1) := by decide +kernel
theorem dX12_clears_121 : decode cX12_clears 121 = .ok (.bipush 100, 2) := by decide +kernel
theorem dX12_clears_123 : decode cX12_clears 123 = .ok (.iload 7, 2) := by decide +kernel
theorem dX12_clears_125 : decode cX12_clears 125 = .ok (.imul, 1) := by decide +kernel
theorem dX12_clears_126 : decode cX12_clears 126 = .ok (.iload 9, 2) := by decide +kernel
theorem dX12_clears_128 : decode cX12_clears 128 = .ok (.iadd, 1) := by decide +kernel
theorem dX12_clears_129 : decode cX12_clears 129 = .ok (.iaload, 1) := by decide +kernel
theorem dX12_clears_130 : decode cX12_clears 130 = .ok (.iload 5, 2) := by decide +kernel
theorem dX12_clears_132 : decode cX12_clears 132 = .ok (.irem, 1) := by decide +kernel
theorem dX12_clears_133 : decode cX12_clears 133 = .ok (.iload 6, 2) := by decide +kernel
theorem dX12_clears_135 : decode cX12_clears 135 = .ok (.imul, 1) := by decide +kernel
theorem dX12_clears_136 : decode cX12_clears 136 = .ok (.iload 5, 2) := by decide +kernel
theorem dX12_clears_138 : decode cX12_clears 138 = .ok (.iload 8, 2) := by decide +kernel
theorem dX12_clears_140 : decode cX12_clears 140 = .ok (.isub, 1) := by decide +kernel
theorem dX12_clears_141 : decode cX12_clears 141 = .ok (.aload_n 0, 1) := by decide +kernel
theorem dX12_clears_142 : decode cX12_clears 142 = .ok (.bipush 100, 2) := by decide +kernel
theorem dX12_clears_144 : decode cX12_clears 144 = .ok (.iload_n 2, 1) := by decide +kernel
theorem dX12_clears_145 : decode cX12_clears 145 = .ok (.imul, 1) := by decide +kernel
theorem dX12_clears_146 : decode cX12_clears 146 = .ok (.iload 9, 2) := by decide +kernel
theorem dX12_clears_148 : decode cX12_clears 148 = .ok (.iadd, 1) := by decide +kernel
theorem dX12_clears_149 : decode cX12_clears 149 = .ok (.iaload, 1) := by decide +kernel
theorem dX12_clears_150 : decode cX12_clears 150 = .ok (.imul, 1) := by decide +kernel
theorem dX12_clears_151 : decode cX12_clears 151 = .ok (.iadd, 1) := by decide +kernel
theorem dX12_clears_152 : decode cX12_clears 152 = .ok (.iload 5, 2) := by decide +kernel
theorem dX12_clears_154 : decode cX12_clears 154 = .ok (.irem, 1) := by decide +kernel
theorem dX12_clears_155 : decode cX12_clears 155 = .ok (.iastore, 1) := by decide +kernel
theorem dX12_clears_156 : decode cX12_clears 156 = .ok (.iinc 9 1, 3) := by decide +kernel
theorem dX12_clears_159 : decode cX12_clears 159 = .ok (.goto (-60), 3) := by decide +kernel
theorem dX12_clears_162 : decode cX12_clears 162 = .ok (.iinc 7 1, 3) := by decide +kernel
theorem dX12_clears_165 : decode cX12_clears 165 = .ok (.goto (-90), 3) := by decide +kernel
theorem dX12_clears_168 : decode cX12_clears 168 = .ok (.return_, 1) := by decide +kernel
theorem dX12_colours_0 : decode cX12_colours 0 = .ok (.aload_n 0, 1) := by decide +kernel
theorem dX12_colours_1 : decode cX12_colours 1 = .ok (.iload_n 1, 1) := by decide +kernel
theorem dX12_colours_2 : decode cX12_colours 2 = .ok (.invokevirtual 187, 3) := by decide +kernel
theorem dX12_colours_5 : decode cX12_colours 5 = .ok (.ifCond .eq 25, 3) := by decide +kernel
theorem dX12_colours_8 : decode cX12_colours 8 = .ok (.iload_n 2, 1) := by decide +kernel
theorem dX12_colours_9 : decode cX12_colours 9 = .ok (.iconst 3, 1) := by decide +kernel
theorem dX12_colours_10 : decode cX12_colours 10 = .ok (.if_icmp .eq 27, 3) := by decide +kernel
theorem dX12_colours_13 : decode cX12_colours 13 = .ok (.iload_n 2, 1) := by decide +kernel
theorem dX12_colours_14 : decode cX12_colours 14 = .ok (.iconst 5, 1) := by decide +kernel
theorem dX12_colours_15 : decode cX12_colours 15 = .ok (.if_icmp .eq 22, 3) := by decide +kernel
theorem dX12_colours_18 : decode cX12_colours 18 = .ok (.iload_n 2, 1) := by decide +kernel
theorem dX12_colours_19 : decode cX12_colours 19 = .ok (.bipush 7, 2) := by decide +kernel
theorem dX12_colours_21 : decode cX12_colours 21 = .ok (.if_icmp .eq 16, 3) := by decide +kernel
theorem dX12_colours_24 : decode cX12_colours 24 = .ok (.iload_n 2, 1) := by decide +kernel
theorem dX12_colours_25 : decode cX12_colours 25 = .ok (.bipush 11, 2) := by decide +kernel
theorem dX12_colours_27 : decode cX12_colours 27 = .ok (.if_icmp .eq 10, 3) := by decide +kernel
theorem dX12_colours_30 : decode cX12_colours 30 = .ok (.aload_n 0, 1) := by decide +kernel
theorem dX12_colours_31 : decode cX12_colours 31 = .ok (.bipush (-2), 2) := by decide +kernel
theorem dX12_colours_33 : decode cX12_colours 33 = .ok (.invokevirtual 165, 3) := by decide +kernel
theorem dX12_colours_36 : decode cX12_colours 36 = .ok (.ireturn, 1) := by decide +kernel
theorem dX12_colours_37 : decode cX12_colours 37 = .ok (.aload_n 0, 1) := by decide +kernel
theorem dX12_colours_38 : decode cX12_colours 38 = .ok (.iload_n 1, 1) := by decide +kernel
theorem dX12_colours_39 : decode cX12_colours 39 = .ok (.invokevirtual 237, 3) := by decide +kernel
theorem dX12_colours_42 : decode cX12_colours 42 = .ok (.istore_n 3, 1) := by decide +kernel
theorem dX12_colours_43 : decode cX12_colours 43 = .ok (.iload_n 3, 1) := by decide +kernel
theorem dX12_colours_44 : decode cX12_colours 44 = .ok (.ifCond .ge 7, 3) := by decide +kernel
theorem dX12_colours_47 : decode cX12_colours 47 = .ok (.iload_n 3, 1) := by decide +kernel
theorem dX12_colours_48 : decode cX12_colours 48 = .ok (.goto 13, 3) := by decide +kernel
theorem dX12_colours_51 : decode cX12_colours 51 = .ok (.aload_n 0, 1) := by decide +kernel
theorem dX12_colours_52 : decode cX12_colours 52 = .ok (.aload_n 0, 1) := by decide +kernel
theorem dX12_colours_53 : decode cX12_colours 53 = .ok (.iload_n 1, 1) := by decide +kernel
theorem dX12_colours_54 : decode cX12_colours 54 = .ok (.iload_n 2, 1) := by decide +kernel
theorem dX12_colours_55 : decode cX12_colours 55 = .ok (.invokevirtual 247, 3) := by decide +kernel
theorem dX12_colours_58 : decode cX12_colours 58 = .ok (.invokevirtual 180, 3) := by decide +kernel
theorem dX12_colours_61 : decode cX12_colours 61 = .ok (.ireturn, 1) := by decide +kernel
theorem dX12_circlesOf_0 : decode cX12_circlesOf 0 = .ok (.iconst 4, 1) := by decide +kernel
theorem dX12_circlesOf_1 : decode cX12_circlesOf 1 = .ok (.aload_n 0, 1) := by decide +kernel
theorem dX12_circlesOf_2 : decode cX12_circlesOf 2 = .ok (.getfield 13, 3) := by decide +kernel
theorem dX12_circlesOf_5 : decode cX12_circlesOf 5 = .ok (.iload_n 1, 1) := by decide +kernel
theorem dX12_circlesOf_6 : decode cX12_circlesOf 6 = .ok (.iaload, 1) := by decide +kernel
theorem dX12_circlesOf_7 : decode cX12_circlesOf 7 = .ok (.imul, 1) := by decide +kernel
theorem dX12_circlesOf_8 : decode cX12_circlesOf 8 = .ok (.istore_n 3, 1) := by decide +kernel
theorem dX12_circlesOf_9 : decode cX12_circlesOf 9 = .ok (.iconst 0, 1) := by decide +kernel
theorem dX12_circlesOf_10 : decode cX12_circlesOf 10 = .ok (.istore 4, 2) := by decide +kernel
theorem dX12_circlesOf_12 : decode cX12_circlesOf 12 = .ok (.iload 4, 2) := by decide +kernel
theorem dX12_circlesOf_14 : decode cX12_circlesOf 14 = .ok (.aload_n 0, 1) := by decide +kernel
theorem dX12_circlesOf_15 : decode cX12_circlesOf 15 = .ok (.getfield 13, 3) := by decide +kernel
theorem dX12_circlesOf_18 : decode cX12_circlesOf 18 = .ok (.iload_n 1, 1) := by decide +kernel
theorem dX12_circlesOf_19 : decode cX12_circlesOf 19 = .ok (.iaload, 1) := by decide +kernel
theorem dX12_circlesOf_20 : decode cX12_circlesOf 20 = .ok (.if_icmp .ge 117, 3) := by decide +kernel
theorem dX12_circlesOf_23 : decode cX12_circlesOf 23 = .ok (.iconst 4, 1) := by decide +kernel
theorem dX12_circlesOf_24 : decode cX12_circlesOf 24 = .ok (.iload 4, 2) := by decide +kernel
theorem dX12_circlesOf_26 : decode cX12_circlesOf 26 = .ok (.imul, 1) := by decide +kernel
theorem dX12_circlesOf_27 : decode cX12_circlesOf 27 = .ok (.istore 5, 2) := by decide +kernel
theorem dX12_circlesOf_29 : decode cX12_circlesOf 29 = .ok (.iload_n 2, 1) := by decide +kernel
theorem dX12_circlesOf_30 : decode cX12_circlesOf 30 = .ok (.iload 4, 2) := by decide +kernel
theorem dX12_circlesOf_32 : decode cX12_circlesOf 32 = .ok (.ishr, 1) := by decide +kernel
theorem dX12_circlesOf_33 : decode cX12_circlesOf 33 = .ok (.iconst 1, 1) := by decide +kernel
theorem dX12_circlesOf_34 : decode cX12_circlesOf 34 = .ok (.iand, 1) := by decide +kernel
theorem dX12_circlesOf_35 : decode cX12_circlesOf 35 = .ok (.ifCond .ne 7, 3) := by decide +kernel
theorem dX12_circlesOf_38 : decode cX12_circlesOf 38 = .ok (.iconst 1, 1) := by decide +kernel
theorem dX12_circlesOf_39 : decode cX12_circlesOf 39 = .ok (.goto 4, 3) := by decide +kernel
theorem dX12_circlesOf_42 : decode cX12_circlesOf 42 = .ok (.iconst 0, 1) := by decide +kernel
theorem dX12_circlesOf_43 : decode cX12_circlesOf 43 = .ok (.istore 6, 2) := by decide +kernel
theorem dX12_circlesOf_45 : decode cX12_circlesOf 45 = .ok (.aload_n 0, 1) := by decide +kernel
theorem dX12_circlesOf_46 : decode cX12_circlesOf 46 = .ok (.getfield 74, 3) := by decide +kernel
theorem dX12_circlesOf_49 : decode cX12_circlesOf 49 = .ok (.iload 5, 2) := by decide +kernel
theorem dX12_circlesOf_51 : decode cX12_circlesOf 51 = .ok (.iload 5, 2) := by decide +kernel
theorem dX12_circlesOf_53 : decode cX12_circlesOf 53 = .ok (.iload 6, 2) := by decide +kernel
theorem dX12_circlesOf_55 : decode cX12_circlesOf 55 = .ok (.ifCond .eq 7, 3) := by decide +kernel
theorem dX12_circlesOf_58 : decode cX12_circlesOf 58 = .ok (.iconst 1, 1) := by decide +kernel
theorem dX12_circlesOf_59 : decode cX12_circlesOf 59 = .ok (.goto 4, 3) := by decide +kernel
theorem dX12_circlesOf_62 : decode cX12_circlesOf 62 = .ok (.iconst 3, 1) := by decide +kernel
theorem dX12_circlesOf_63 : decode cX12_circlesOf 63 = .ok (.iadd, 1) := by decide +kernel
theorem dX12_circlesOf_64 : decode cX12_circlesOf 64 = .ok (.iastore, 1) := by decide +kernel
theorem dX12_circlesOf_65 : decode cX12_circlesOf 65 = .ok (.aload_n 0, 1) := by decide +kernel
theorem dX12_circlesOf_66 : decode cX12_circlesOf 66 = .ok (.getfield 74, 3) := by decide +kernel
theorem dX12_circlesOf_69 : decode cX12_circlesOf 69 = .ok (.iload 5, 2) := by decide +kernel
theorem dX12_circlesOf_71 : decode cX12_circlesOf 71 = .ok (.iconst 1, 1) := by decide +kernel
theorem dX12_circlesOf_72 : decode cX12_circlesOf 72 = .ok (.iadd, 1) := by decide +kernel
theorem dX12_circlesOf_73 : decode cX12_circlesOf 73 = .ok (.iload 5, 2) := by decide +kernel
theorem dX12_circlesOf_75 : decode cX12_circlesOf 75 = .ok (.iload 6, 2) := by decide +kernel
theorem dX12_circlesOf_77 : decode cX12_circlesOf 77 = .ok (.ifCond .eq 7, 3) := by decide +kernel
theorem dX12_circlesOf_80 : decode cX12_circlesOf 80 = .ok (.iconst 0, 1) := by decide +kernel
theorem dX12_circlesOf_81 : decode cX12_circlesOf 81 = .ok (.goto 4, 3) := by decide +kernel
theorem dX12_circlesOf_84 : decode cX12_circlesOf 84 = .ok (.iconst 2, 1) := by decide +kernel
theorem dX12_circlesOf_85 : decode cX12_circlesOf 85 = .ok (.iadd, 1) := by decide +kernel
theorem dX12_circlesOf_86 : decode cX12_circlesOf 86 = .ok (.iastore, 1) := by decide +kernel
theorem dX12_circlesOf_87 : decode cX12_circlesOf 87 = .ok (.aload_n 0, 1) := by decide +kernel
theorem dX12_circlesOf_88 : decode cX12_circlesOf 88 = .ok (.getfield 74, 3) := by decide +kernel
theorem dX12_circlesOf_91 : decode cX12_circlesOf 91 = .ok (.iload 5, 2) := by decide +kernel
theorem dX12_circlesOf_93 : decode cX12_circlesOf 93 = .ok (.iconst 2, 1) := by decide +kernel
theorem dX12_circlesOf_94 : decode cX12_circlesOf 94 = .ok (.iadd, 1) := by decide +kernel
theorem dX12_circlesOf_95 : decode cX12_circlesOf 95 = .ok (.iload 5, 2) := by decide +kernel
theorem dX12_circlesOf_97 : decode cX12_circlesOf 97 = .ok (.iload 6, 2) := by decide +kernel
theorem dX12_circlesOf_99 : decode cX12_circlesOf 99 = .ok (.ifCond .eq 7, 3) := by decide +kernel
theorem dX12_circlesOf_102 : decode cX12_circlesOf 102 = .ok (.iconst 3, 1) := by decide +kernel
theorem dX12_circlesOf_103 : decode cX12_circlesOf 103 = .ok (.goto 4, 3) := by decide +kernel
theorem dX12_circlesOf_106 : decode cX12_circlesOf 106 = .ok (.iconst 1, 1) := by decide +kernel
theorem dX12_circlesOf_107 : decode cX12_circlesOf 107 = .ok (.iadd, 1) := by decide +kernel
theorem dX12_circlesOf_108 : decode cX12_circlesOf 108 = .ok (.iastore, 1) := by decide +kernel
theorem dX12_circlesOf_109 : decode cX12_circlesOf 109 = .ok (.aload_n 0, 1) := by decide +kernel
theorem dX12_circlesOf_110 : decode cX12_circlesOf 110 = .ok (.getfield 74, 3) := by decide +kernel
theorem dX12_circlesOf_113 : decode cX12_circlesOf 113 = .ok (.iload 5, 2) := by decide +kernel
theorem dX12_circlesOf_115 : decode cX12_circlesOf 115 = .ok (.iconst 3, 1) := by decide +kernel
theorem dX12_circlesOf_116 : decode cX12_circlesOf 116 = .ok (.iadd, 1) := by decide +kernel
theorem dX12_circlesOf_117 : decode cX12_circlesOf 117 = .ok (.iload 5, 2) := by decide +kernel
theorem dX12_circlesOf_119 : decode cX12_circlesOf 119 = .ok (.iload 6, 2) := by decide +kernel
theorem dX12_circlesOf_121 : decode cX12_circlesOf 121 = .ok (.ifCond .eq 7, 3) := by decide +kernel
theorem dX12_circlesOf_124 : decode cX12_circlesOf 124 = .ok (.iconst 2, 1) := by decide +kernel
theorem dX12_circlesOf_125 : decode cX12_circlesOf 125 = .ok (.goto 4, 3) := by decide +kernel
theorem dX12_circlesOf_128 : decode cX12_circlesOf 128 = .ok (.iconst 0, 1) := by decide +kernel
theorem dX12_circlesOf_129 : decode cX12_circlesOf 129 = .ok (.iadd, 1) := by decide +kernel
theorem dX12_circlesOf_130 : decode cX12_circlesOf 130 = .ok (.iastore, 1) := by decide +kernel
theorem dX12_circlesOf_131 : decode cX12_circlesOf 131 = .ok (.iinc 4 1, 3) := by decide +kernel
theorem dX12_circlesOf_134 : decode cX12_circlesOf 134 = .ok (.goto (-122), 3) := by decide +kernel
theorem dX12_circlesOf_137 : decode cX12_circlesOf 137 = .ok (.iconst 0, 1) := by decide +kernel
theorem dX12_circlesOf_138 : decode cX12_circlesOf 138 = .ok (.istore 4, 2) := by decide +kernel
theorem dX12_circlesOf_140 : decode cX12_circlesOf 140 = .ok (.iconst 0, 1) := by decide +kernel
theorem dX12_circlesOf_141 : decode cX12_circlesOf 141 = .ok (.istore 5, 2) := by decide +kernel
theorem dX12_circlesOf_143 : decode cX12_circlesOf 143 = .ok (.iload 5, 2) := by decide +kernel
theorem dX12_circlesOf_145 : decode cX12_circlesOf 145 = .ok (.iload_n 3, 1) := by decide +kernel
theorem dX12_circlesOf_146 : decode cX12_circlesOf 146 = .ok (.if_icmp .ge 17, 3) := by decide +kernel
theorem dX12_circlesOf_149 : decode cX12_circlesOf 149 = .ok (.aload_n 0, 1) := by decide +kernel
theorem dX12_circlesOf_150 : decode cX12_circlesOf 150 = .ok (.getfield 42, 3) := by decide +kernel
theorem dX12_circlesOf_153 : decode cX12_circlesOf 153 = .ok (.iload 5, 2) := by decide +kernel
theorem dX12_circlesOf_155 : decode cX12_circlesOf 155 = .ok (.iconst 0, 1) := by decide +kernel
theorem dX12_circlesOf_156 : decode cX12_circlesOf 156 = .ok (.bastore, 1) := by decide +kernel
theorem dX12_circlesOf_157 : decode cX12_circlesOf 157 = .ok (.iinc 5 1, 3) := by decide +kernel
theorem dX12_circlesOf_160 : decode cX12_circlesOf 160 = .ok (.goto (-17), 3) := by decide +kernel
theorem dX12_circlesOf_163 : decode cX12_circlesOf 163 = .ok (.iconst 0, 1) := by decide +kernel
theorem dX12_circlesOf_164 : decode cX12_circlesOf 164 = .ok (.istore 5, 2) := by decide +kernel
theorem dX12_circlesOf_166 : decode cX12_circlesOf 166 = .ok (.iload 5, 2) := by decide +kernel
theorem dX12_circlesOf_168 : decode cX12_circlesOf 168 = .ok (.iload_n 3, 1) := by decide +kernel
theorem dX12_circlesOf_169 : decode cX12_circlesOf 169 = .ok (.if_icmp .ge 80, 3) := by decide +kernel
theorem dX12_circlesOf_172 : decode cX12_circlesOf 172 = .ok (.iload 4, 2) := by decide +kernel
theorem dX12_circlesOf_174 : decode cX12_circlesOf 174 = .ok (.aload_n 0, 1) := by decide +kernel
theorem dX12_circlesOf_175 : decode cX12_circlesOf 175 = .ok (.getfield 42, 3) := by decide +kernel
theorem dX12_circlesOf_178 : decode cX12_circlesOf 178 = .ok (.iload 5, 2) := by decide +kernel
theorem dX12_circlesOf_180 : decode cX12_circlesOf 180 = .ok (.baload, 1) := by decide +kernel
theorem dX12_circlesOf_181 : decode cX12_circlesOf 181 = .ok (.ifCond .eq 7, 3) := by decide +kernel
theorem dX12_circlesOf_184 : decode cX12_circlesOf 184 = .ok (.iconst 0, 1) := by decide +kernel
theorem dX12_circlesOf_185 : decode cX12_circlesOf 185 = .ok (.goto 4, 3) := by decide +kernel
theorem dX12_circlesOf_188 : decode cX12_circlesOf 188 = .ok (.iconst 1, 1) := by decide +kernel
theorem dX12_circlesOf_189 : decode cX12_circlesOf 189 = .ok (.iadd, 1) := by decide +kernel
theorem dX12_circlesOf_190 : decode cX12_circlesOf 190 = .ok (.istore 4, 2) := by decide +kernel
theorem dX12_circlesOf_192 : decode cX12_circlesOf 192 = .ok (.iload 5, 2) := by decide +kernel
theorem dX12_circlesOf_194 : decode cX12_circlesOf 194 = .ok (.istore 6, 2) := by decide +kernel
theorem dX12_circlesOf_196 : decode cX12_circlesOf 196 = .ok (.aload_n 0, 1) := by decide +kernel
theorem dX12_circlesOf_197 : decode cX12_circlesOf 197 = .ok (.getfield 42, 3) := by decide +kernel
theorem dX12_circlesOf_200 : decode cX12_circlesOf 200 = .ok (.iload 6, 2) := by decide +kernel
theorem dX12_circlesOf_202 : decode cX12_circlesOf 202 = .ok (.baload, 1) := by decide +kernel
theorem dX12_circlesOf_203 : decode cX12_circlesOf 203 = .ok (.ifCond .ne 40, 3) := by decide +kernel
theorem dX12_circlesOf_206 : decode cX12_circlesOf 206 = .ok (.aload_n 0, 1) := by decide +kernel
theorem dX12_circlesOf_207 : decode cX12_circlesOf 207 = .ok (.getfield 42, 3) := by decide +kernel
theorem dX12_circlesOf_210 : decode cX12_circlesOf 210 = .ok (.iload 6, 2) := by decide +kernel
theorem dX12_circlesOf_212 : decode cX12_circlesOf 212 = .ok (.iconst 1, 1) := by decide +kernel
theorem dX12_circlesOf_213 : decode cX12_circlesOf 213 = .ok (.bastore, 1) := by decide +kernel
theorem dX12_circlesOf_214 : decode cX12_circlesOf 214 = .ok (.aload_n 0, 1) := by decide +kernel
theorem dX12_circlesOf_215 : decode cX12_circlesOf 215 = .ok (.getfield 36, 3) := by decide +kernel
theorem dX12_circlesOf_218 : decode cX12_circlesOf 218 = .ok (.iload 6, 2) := by decide +kernel
theorem dX12_circlesOf_220 : decode cX12_circlesOf 220 = .ok (.iaload, 1) := by decide +kernel
theorem dX12_circlesOf_221 : decode cX12_circlesOf 221 = .ok (.istore 7, 2) := by decide +kernel
theorem dX12_circlesOf_223 : decode cX12_circlesOf 223 = .ok (.aload_n 0, 1) := by decide +kernel
theorem dX12_circlesOf_224 : decode cX12_circlesOf 224 = .ok (.getfield 42, 3) := by decide +kernel
theorem dX12_circlesOf_227 : decode cX12_circlesOf 227 = .ok (.iload 7, 2) := by decide +kernel
theorem dX12_circlesOf_229 : decode cX12_circlesOf 229 = .ok (.iconst 1, 1) := by decide +kernel
theorem dX12_circlesOf_230 : decode cX12_circlesOf 230 = .ok (.bastore, 1) := by decide +kernel
theorem dX12_circlesOf_231 : decode cX12_circlesOf 231 = .ok (.aload_n 0, 1) := by decide +kernel
theorem dX12_circlesOf_232 : decode cX12_circlesOf 232 = .ok (.getfield 74, 3) := by decide +kernel
theorem dX12_circlesOf_235 : decode cX12_circlesOf 235 = .ok (.iload 7, 2) := by decide +kernel
theorem dX12_circlesOf_237 : decode cX12_circlesOf 237 = .ok (.iaload, 1) := by decide +kernel
theorem dX12_circlesOf_238 : decode cX12_circlesOf 238 = .ok (.istore 6, 2) := by decide +kernel
theorem dX12_circlesOf_240 : decode cX12_circlesOf 240 = .ok (.goto (-44), 3) := by decide +kernel
theorem dX12_circlesOf_243 : decode cX12_circlesOf 243 = .ok (.iinc 5 1, 3) := by decide +kernel
theorem dX12_circlesOf_246 : decode cX12_circlesOf 246 = .ok (.goto (-80), 3) := by decide +kernel
theorem dX12_circlesOf_249 : decode cX12_circlesOf 249 = .ok (.iload 4, 2) := by decide +kernel
theorem dX12_circlesOf_251 : decode cX12_circlesOf 251 = .ok (.aload_n 0, 1) := by decide +kernel
theorem dX12_circlesOf_252 : decode cX12_circlesOf 252 = .ok (.getfield 16, 3) := by decide +kernel
theorem dX12_circlesOf_255 : decode cX12_circlesOf 255 = .ok (.iload_n 1, 1) := by decide +kernel
theorem dX12_circlesOf_256 : decode cX12_circlesOf 256 = .ok (.iaload, 1) := by decide +kernel
theorem dX12_circlesOf_257 : decode cX12_circlesOf 257 = .ok (.iadd, 1) := by decide +kernel
theorem dX12_circlesOf_258 : decode cX12_circlesOf 258 = .ok (.ireturn, 1) := by decide +kernel
theorem dX12_bracketOf_0 : decode cX12_bracketOf 0 = .ok (.aload_n 0, 1) := by decide +kernel
theorem dX12_bracketOf_1 : decode cX12_bracketOf 1 = .ok (.iload_n 1, 1) := by decide +kernel
theorem dX12_bracketOf_2 : decode cX12_bracketOf 2 = .ok (.invokevirtual 216, 3) := by decide +kernel
theorem dX12_bracketOf_5 : decode cX12_bracketOf 5 = .ok (.aload_n 0, 1) := by decide +kernel
theorem dX12_bracketOf_6 : decode cX12_bracketOf 6 = .ok (.dup, 1) := by decide +kernel
theorem dX12_bracketOf_7 : decode cX12_bracketOf 7 = .ok (.getfield 250, 3) := by decide +kernel
theorem dX12_bracketOf_10 : decode cX12_bracketOf 10 = .ok (.iconst 1, 1) := by decide +kernel
theorem dX12_bracketOf_11 : decode cX12_bracketOf 11 = .ok (.aload_n 0, 1) := by decide +kernel
theorem dX12_bracketOf_12 : decode cX12_bracketOf 12 = .ok (.getfield 13, 3) := by decide +kernel
theorem dX12_bracketOf_15 : decode cX12_bracketOf 15 = .ok (.iload_n 1, 1) := by decide +kernel
theorem dX12_bracketOf_16 : decode cX12_bracketOf 16 = .ok (.iaload, 1) := by decide +kernel
theorem dX12_bracketOf_17 : decode cX12_bracketOf 17 = .ok (.ishl, 1) := by decide +kernel
theorem dX12_bracketOf_18 : decode cX12_bracketOf 18 = .ok (.iadd, 1) := by decide +kernel
theorem dX12_bracketOf_19 : decode cX12_bracketOf 19 = .ok (.putfield 250, 3) := by decide +kernel
theorem dX12_bracketOf_22 : decode cX12_bracketOf 22 = .ok (.iconst 0, 1) := by decide +kernel
theorem dX12_bracketOf_23 : decode cX12_bracketOf 23 = .ok (.istore_n 2, 1) := by decide +kernel
theorem dX12_bracketOf_24 : decode cX12_bracketOf 24 = .ok (.iload_n 2, 1) := by decide +kernel
theorem dX12_bracketOf_25 : decode cX12_bracketOf 25 = .ok (.sipush 1800, 3) := by decide +kernel
theorem dX12_bracketOf_28 : decode cX12_bracketOf 28 = .ok (.if_icmp .ge 16, 3) := by decide +kernel
theorem dX12_bracketOf_31 : decode cX12_bracketOf 31 = .ok (.aload_n 0, 1) := by decide +kernel
theorem dX12_bracketOf_32 : decode cX12_bracketOf 32 = .ok (.getfield 77, 3) := by decide +kernel
theorem dX12_bracketOf_35 : decode cX12_bracketOf 35 = .ok (.iload_n 2, 1) := by decide +kernel
theorem dX12_bracketOf_36 : decode cX12_bracketOf 36 = .ok (.lconst 0, 1) := by decide +kernel
theorem dX12_bracketOf_37 : decode cX12_bracketOf 37 = .ok (.lastore, 1) := by decide +kernel
theorem dX12_bracketOf_38 : decode cX12_bracketOf 38 = .ok (.iinc 2 1, 3) := by decide +kernel
theorem dX12_bracketOf_41 : decode cX12_bracketOf 41 = .ok (.goto (-17), 3) := by decide +kernel
theorem dX12_bracketOf_44 : decode cX12_bracketOf 44 = .ok (.iconst 0, 1) := by decide +kernel
theorem dX12_bracketOf_45 : decode cX12_bracketOf 45 = .ok (.istore_n 2, 1) := by decide +kernel
theorem dX12_bracketOf_46 : decode cX12_bracketOf 46 = .ok (.iconst 0, 1) := by decide +kernel
theorem dX12_bracketOf_47 : decode cX12_bracketOf 47 = .ok (.istore_n 3, 1) := by decide +kernel
theorem dX12_bracketOf_48 : decode cX12_bracketOf 48 = .ok (.iload_n 3, 1) := by decide +kernel
theorem dX12_bracketOf_49 : decode cX12_bracketOf 49 = .ok (.iconst 1, 1) := by decide +kernel
theorem dX12_bracketOf_50 : decode cX12_bracketOf 50 = .ok (.aload_n 0, 1) := by decide +kernel
theorem dX12_bracketOf_51 : decode cX12_bracketOf 51 = .ok (.getfield 13, 3) := by decide +kernel
theorem dX12_bracketOf_54 : decode cX12_bracketOf 54 = .ok (.iload_n 1, 1) := by decide +kernel
theorem dX12_bracketOf_55 : decode cX12_bracketOf 55 = .ok (.iaload, 1) := by decide +kernel
theorem dX12_bracketOf_56 : decode cX12_bracketOf 56 = .ok (.ishl, 1) := by decide +kernel
theorem dX12_bracketOf_57 : decode cX12_bracketOf 57 = .ok (.if_icmp .ge 81, 3) := by decide +kernel
theorem dX12_bracketOf_60 : decode cX12_bracketOf 60 = .ok (.iconst 0, 1) := by decide +kernel
theorem dX12_bracketOf_61 : decode cX12_bracketOf 61 = .ok (.istore 4, 2) := by decide +kernel
theorem dX12_bracketOf_63 : decode cX12_bracketOf 63 = .ok (.iconst 0, 1) := by decide +kernel
theorem dX12_bracketOf_64 : decode cX12_bracketOf 64 = .ok (.istore 5, 2) := by decide +kernel
theorem dX12_bracketOf_66 : decode cX12_bracketOf 66 = .ok (.iload 5, 2) := by decide +kernel
theorem dX12_bracketOf_68 : decode cX12_bracketOf 68 = .ok (.aload_n 0, 1) := by decide +kernel
theorem dX12_bracketOf_69 : decode cX12_bracketOf 69 = .ok (.getfield 13, 3) := by decide +kernel
theorem dX12_bracketOf_72 : decode cX12_bracketOf 72 = .ok (.iload_n 1, 1) := by decide +kernel
theorem dX12_bracketOf_73 : decode cX12_bracketOf 73 = .ok (.iaload, 1) := by decide +kernel
theorem dX12_bracketOf_74 : decode cX12_bracketOf 74 = .ok (.if_icmp .ge 20, 3) := by decide +kernel
theorem dX12_bracketOf_77 : decode cX12_bracketOf 77 = .ok (.iload 4, 2) := by decide +kernel
theorem dX12_bracketOf_79 : decode cX12_bracketOf 79 = .ok (.iload_n 3, 1) := by decide +kernel
theorem dX12_bracketOf_80 : decode cX12_bracketOf 80 = .ok (.iload 5, 2) := by decide +kernel
theorem dX12_bracketOf_82 : decode cX12_bracketOf 82 = .ok (.ishr, 1) := by decide +kernel
theorem dX12_bracketOf_83 : decode cX12_bracketOf 83 = .ok (.iconst 1, 1) := by decide +kernel
theorem dX12_bracketOf_84 : decode cX12_bracketOf 84 = .ok (.iand, 1) := by decide +kernel
theorem dX12_bracketOf_85 : decode cX12_bracketOf 85 = .ok (.iadd, 1) := by decide +kernel
theorem dX12_bracketOf_86 : decode cX12_bracketOf 86 = .ok (.istore 4, 2) := by decide +kernel
theorem dX12_bracketOf_88 : decode cX12_bracketOf 88 = .ok (.iinc 5 1, 3) := by decide +kernel
theorem dX12_bracketOf_91 : decode cX12_bracketOf 91 = .ok (.goto (-25), 3) := by decide +kernel
theorem dX12_bracketOf_94 : decode cX12_bracketOf 94 = .ok (.aload_n 0, 1) := by decide +kernel
theorem dX12_bracketOf_95 : decode cX12_bracketOf 95 = .ok (.iload_n 1, 1) := by decide +kernel
theorem dX12_bracketOf_96 : decode cX12_bracketOf 96 = .ok (.iload_n 3, 1) := by decide +kernel
theorem dX12_bracketOf_97 : decode cX12_bracketOf 97 = .ok (.invokevirtual 253, 3) := by decide +kernel
theorem dX12_bracketOf_100 : decode cX12_bracketOf 100 = .ok (.istore 5, 2) := by decide +kernel
theorem dX12_bracketOf_102 : decode cX12_bracketOf 102 = .ok (.aload_n 0, 1) := by decide +kernel
theorem dX12_bracketOf_103 : decode cX12_bracketOf 103 = .ok (.getfield 77, 3) := by decide +kernel
theorem dX12_bracketOf_106 : decode cX12_bracketOf 106 = .ok (.bipush 30, 2) := by decide +kernel
theorem dX12_bracketOf_108 : decode cX12_bracketOf 108 = .ok (.iload 5, 2) := by decide +kernel
theorem dX12_bracketOf_110 : decode cX12_bracketOf 110 = .ok (.imul, 1) := by decide +kernel
theorem dX12_bracketOf_111 : decode cX12_bracketOf 111 = .ok (.iload 4, 2) := by decide +kernel
theorem dX12_bracketOf_113 : decode cX12_bracketOf 113 = .ok (.iadd, 1) := by decide +kernel
theorem dX12_bracketOf_114 : decode cX12_bracketOf 114 = .ok (.dup2, 1) := by decide +kernel
theorem dX12_bracketOf_115 : decode cX12_bracketOf 115 = .ok (.laload, 1) := by decide +kernel
theorem dX12_bracketOf_116 : decode cX12_bracketOf 116 = .ok (.lconst 1, 1) := by decide +kernel
theorem dX12_bracketOf_117 : decode cX12_bracketOf 117 = .ok (.ladd, 1) := by decide +kernel
theorem dX12_bracketOf_118 : decode cX12_bracketOf 118 = .ok (.lastore, 1) := by decide +kernel
theorem dX12_bracketOf_119 : decode cX12_bracketOf 119 = .ok (.iload 5, 2) := by decide +kernel
theorem dX12_bracketOf_121 : decode cX12_bracketOf 121 = .ok (.iload_n 2, 1) := by decide +kernel
theorem dX12_bracketOf_122 : decode cX12_bracketOf 122 = .ok (.if_icmp .le 8, 3) := by decide +kernel
theorem dX12_bracketOf_125 : decode cX12_bracketOf 125 = .ok (.iload 5, 2) := by decide +kernel
theorem dX12_bracketOf_127 : decode cX12_bracketOf 127 = .ok (.goto 4, 3) := by decide +kernel
theorem dX12_bracketOf_130 : decode cX12_bracketOf 130 = .ok (.iload_n 2, 1) := by decide +kernel
theorem dX12_bracketOf_131 : decode cX12_bracketOf 131 = .ok (.istore_n 2, 1) := by decide +kernel
theorem dX12_bracketOf_132 : decode cX12_bracketOf 132 = .ok (.iinc 3 1, 3) := by decide +kernel
theorem dX12_bracketOf_135 : decode cX12_bracketOf 135 = .ok (.goto (-87), 3) := by decide +kernel
theorem dX12_bracketOf_138 : decode cX12_bracketOf 138 = .ok (.iconst 0, 1) := by decide +kernel
theorem dX12_bracketOf_139 : decode cX12_bracketOf 139 = .ok (.istore_n 3, 1) := by decide +kernel
theorem dX12_bracketOf_140 : decode cX12_bracketOf 140 = .ok (.iload_n 3, 1) := by decide +kernel
theorem dX12_bracketOf_141 : decode cX12_bracketOf 141 = .ok (.sipush 601, 3) := by decide +kernel
theorem dX12_bracketOf_144 : decode cX12_bracketOf 144 = .ok (.if_icmp .ge 34, 3) := by decide +kernel
theorem dX12_bracketOf_147 : decode cX12_bracketOf 147 = .ok (.aload_n 0, 1) := by decide +kernel
theorem dX12_bracketOf_148 : decode cX12_bracketOf 148 = .ok (.getfield 67, 3) := by decide +kernel
theorem dX12_bracketOf_151 : decode cX12_bracketOf 151 = .ok (.iload_n 3, 1) := by decide +kernel
theorem dX12_bracketOf_152 : decode cX12_bracketOf 152 = .ok (.lconst 0, 1) := by decide +kernel
theorem dX12_bracketOf_153 : decode cX12_bracketOf 153 = .ok (.lastore, 1) := by decide +kernel
theorem dX12_bracketOf_154 : decode cX12_bracketOf 154 = .ok (.aload_n 0, 1) := by decide +kernel
theorem dX12_bracketOf_155 : decode cX12_bracketOf 155 = .ok (.getfield 80, 3) := by decide +kernel
theorem dX12_bracketOf_158 : decode cX12_bracketOf 158 = .ok (.iload_n 3, 1) := by decide +kernel
theorem dX12_bracketOf_159 : decode cX12_bracketOf 159 = .ok (.iload_n 3, 1) := by decide +kernel
theorem dX12_bracketOf_160 : decode cX12_bracketOf 160 = .ok (.sipush 300, 3) := by decide +kernel
theorem dX12_bracketOf_163 : decode cX12_bracketOf 163 = .ok (.if_icmp .ne 7, 3) := by decide +kernel
theorem dX12_bracketOf_166 : decode cX12_bracketOf 166 = .ok (.lconst 1, 1) := by decide +kernel
theorem dX12_bracketOf_167 : decode cX12_bracketOf 167 = .ok (.goto 4, 3) := by decide +kernel
theorem dX12_bracketOf_170 : decode cX12_bracketOf 170 = .ok (.lconst 0, 1) := by decide +kernel
theorem dX12_bracketOf_171 : decode cX12_bracketOf 171 = .ok (.lastore, 1) := by decide +kernel
theorem dX12_bracketOf_172 : decode cX12_bracketOf 172 = .ok (.iinc 3 1, 3) := by decide +kernel
theorem dX12_bracketOf_175 : decode cX12_bracketOf 175 = .ok (.goto (-35), 3) := by decide +kernel
theorem dX12_bracketOf_178 : decode cX12_bracketOf 178 = .ok (.iconst 1, 1) := by decide +kernel
theorem dX12_bracketOf_179 : decode cX12_bracketOf 179 = .ok (.istore_n 3, 1) := by decide +kernel
theorem dX12_bracketOf_180 : decode cX12_bracketOf 180 = .ok (.iload_n 3, 1) := by decide +kernel
theorem dX12_bracketOf_181 : decode cX12_bracketOf 181 = .ok (.iload_n 2, 1) := by decide +kernel
theorem dX12_bracketOf_182 : decode cX12_bracketOf 182 = .ok (.if_icmp .gt 119, 3) := by decide +kernel
theorem dX12_bracketOf_185 : decode cX12_bracketOf 185 = .ok (.iconst 0, 1) := by decide +kernel
theorem dX12_bracketOf_186 : decode cX12_bracketOf 186 = .ok (.istore 4, 2) := by decide +kernel
theorem dX12_bracketOf_188 : decode cX12_bracketOf 188 = .ok (.iload 4, 2) := by decide +kernel
theorem dX12_bracketOf_190 : decode cX12_bracketOf 190 = .ok (.aload_n 0, 1) := by decide +kernel
theorem dX12_bracketOf_191 : decode cX12_bracketOf 191 = .ok (.getfield 13, 3) := by decide +kernel
theorem dX12_bracketOf_194 : decode cX12_bracketOf 194 = .ok (.iload_n 1, 1) := by decide +kernel
theorem dX12_bracketOf_195 : decode cX12_bracketOf 195 = .ok (.iaload, 1) := by decide +kernel
theorem dX12_bracketOf_196 : decode cX12_bracketOf 196 = .ok (.if_icmp .gt 95, 3) := by decide +kernel
theorem dX12_bracketOf_199 : decode cX12_bracketOf 199 = .ok (.aload_n 0, 1) := by decide +kernel
theorem dX12_bracketOf_200 : decode cX12_bracketOf 200 = .ok (.getfield 77, 3) := by decide +kernel
theorem dX12_bracketOf_203 : decode cX12_bracketOf 203 = .ok (.bipush 30, 2) := by decide +kernel
theorem dX12_bracketOf_205 : decode cX12_bracketOf 205 = .ok (.iload_n 3, 1) := by decide +kernel
theorem dX12_bracketOf_206 : decode cX12_bracketOf 206 = .ok (.imul, 1) := by decide +kernel
theorem dX12_bracketOf_207 : decode cX12_bracketOf 207 = .ok (.iload 4, 2) := by decide +kernel
theorem dX12_bracketOf_209 : decode cX12_bracketOf 209 = .ok (.iadd, 1) := by decide +kernel
theorem dX12_bracketOf_210 : decode cX12_bracketOf 210 = .ok (.laload, 1) := by decide +kernel
theorem dX12_bracketOf_211 : decode cX12_bracketOf 211 = .ok (.lstore 5, 2) := by decide +kernel
theorem dX12_bracketOf_213 : decode cX12_bracketOf 213 = .ok (.aload_n 0, 1) := by decide +kernel
theorem dX12_bracketOf_214 : decode cX12_bracketOf 214 = .ok (.getfield 13, 3) := by decide +kernel
theorem dX12_bracketOf_217 : decode cX12_bracketOf 217 = .ok (.iload_n 1, 1) := by decide +kernel
theorem dX12_bracketOf_218 : decode cX12_bracketOf 218 = .ok (.iaload, 1) := by decide +kernel
theorem dX12_bracketOf_219 : decode cX12_bracketOf 219 = .ok (.iconst 2, 1) := by decide +kernel
theorem dX12_bracketOf_220 : decode cX12_bracketOf 220 = .ok (.iload 4, 2) := by decide +kernel
theorem dX12_bracketOf_222 : decode cX12_bracketOf 222 = .ok (.imul, 1) := by decide +kernel
theorem dX12_bracketOf_223 : decode cX12_bracketOf 223 = .ok (.isub, 1) := by decide +kernel
theorem dX12_bracketOf_224 : decode cX12_bracketOf 224 = .ok (.istore 7, 2) := by decide +kernel
theorem dX12_bracketOf_226 : decode cX12_bracketOf 226 = .ok (.iconst 0, 1) := by decide +kernel
theorem dX12_bracketOf_227 : decode cX12_bracketOf 227 = .ok (.istore 8, 2) := by decide +kernel
theorem dX12_bracketOf_229 : decode cX12_bracketOf 229 = .ok (.iload 8, 2) := by decide +kernel
theorem dX12_bracketOf_231 : decode cX12_bracketOf 231 = .ok (.sipush 601, 3) := by decide +kernel
theorem dX12_bracketOf_234 : decode cX12_bracketOf 234 = .ok (.if_icmp .ge 51, 3) := by decide +kernel
theorem dX12_bracketOf_237 : decode cX12_bracketOf 237 = .ok (.lload 5, 2) := by decide +kernel
theorem dX12_bracketOf_239 : decode cX12_bracketOf 239 = .ok (.lconst 0, 1) := by decide +kernel
theorem dX12_bracketOf_240 : decode cX12_bracketOf 240 = .ok (.lcmp, 1) := by decide +kernel
theorem dX12_bracketOf_241 : decode cX12_bracketOf 241 = .ok (.ifCond .eq 44, 3) := by decide +kernel
theorem dX12_bracketOf_244 : decode cX12_bracketOf 244 = .ok (.aload_n 0, 1) := by decide +kernel
theorem dX12_bracketOf_245 : decode cX12_bracketOf 245 = .ok (.getfield 80, 3) := by decide +kernel
theorem dX12_bracketOf_248 : decode cX12_bracketOf 248 = .ok (.iload 8, 2) := by decide +kernel
theorem dX12_bracketOf_250 : decode cX12_bracketOf 250 = .ok (.laload, 1) := by decide +kernel
theorem dX12_bracketOf_251 : decode cX12_bracketOf 251 = .ok (.lconst 0, 1) := by decide +kernel
theorem dX12_bracketOf_252 : decode cX12_bracketOf 252 = .ok (.lcmp, 1) := by decide +kernel
theorem dX12_bracketOf_253 : decode cX12_bracketOf 253 = .ok (.ifCond .eq 26, 3) := by decide +kernel
theorem dX12_bracketOf_256 : decode cX12_bracketOf 256 = .ok (.aload_n 0, 1) := by decide +kernel
theorem dX12_bracketOf_257 : decode cX12_bracketOf 257 = .ok (.getfield 67, 3) := by decide +kernel
theorem dX12_bracketOf_260 : decode cX12_bracketOf 260 = .ok (.iload 8, 2) := by decide +kernel
theorem dX12_bracketOf_262 : decode cX12_bracketOf 262 = .ok (.iload 7, 2) := by decide +kernel
theorem dX12_bracketOf_264 : decode cX12_bracketOf 264 = .ok (.iadd, 1) := by decide +kernel
theorem dX12_bracketOf_265 : decode cX12_bracketOf 265 = .ok (.dup2, 1) := by decide +kernel
theorem dX12_bracketOf_266 : decode cX12_bracketOf 266 = .ok (.laload, 1) := by decide +kernel
theorem dX12_bracketOf_267 : decode cX12_bracketOf 267 = .ok (.lload 5, 2) := by decide +kernel
theorem dX12_bracketOf_269 : decode cX12_bracketOf 269 = .ok (.aload_n 0, 1) := by decide +kernel
theorem dX12_bracketOf_270 : decode cX12_bracketOf 270 = .ok (.getfield 80, 3) := by decide +kernel
theorem dX12_bracketOf_273 : decode cX12_bracketOf 273 = .ok (.iload 8, 2) := by decide +kernel
theorem dX12_bracketOf_275 : decode cX12_bracketOf 275 = .ok (.laload, 1) := by decide +kernel
theorem dX12_bracketOf_276 : decode cX12_bracketOf 276 = .ok (.lmul, 1) := by decide +kernel
theorem dX12_bracketOf_277 : decode cX12_bracketOf 277 = .ok (.ladd, 1) := by decide +kernel
theorem dX12_bracketOf_278 : decode cX12_bracketOf 278 = .ok (.lastore, 1) := by decide +kernel
theorem dX12_bracketOf_279 : decode cX12_bracketOf 279 = .ok (.iinc 8 1, 3) := by decide +kernel
theorem dX12_bracketOf_282 : decode cX12_bracketOf 282 = .ok (.goto (-53), 3) := by decide +kernel
theorem dX12_bracketOf_285 : decode cX12_bracketOf 285 = .ok (.iinc 4 1, 3) := by decide +kernel
theorem dX12_bracketOf_288 : decode cX12_bracketOf 288 = .ok (.goto (-100), 3) := by decide +kernel
theorem dX12_bracketOf_291 : decode cX12_bracketOf 291 = .ok (.aload_n 0, 1) := by decide +kernel
theorem dX12_bracketOf_292 : decode cX12_bracketOf 292 = .ok (.invokevirtual 256, 3) := by decide +kernel
theorem dX12_bracketOf_295 : decode cX12_bracketOf 295 = .ok (.iinc 3 1, 3) := by decide +kernel
theorem dX12_bracketOf_298 : decode cX12_bracketOf 298 = .ok (.goto (-118), 3) := by decide +kernel
theorem dX12_bracketOf_301 : decode cX12_bracketOf 301 = .ok (.return_, 1) := by decide +kernel
theorem dX12_timesCircle_0 : decode cX12_timesCircle 0 = .ok (.iconst 0, 1) := by decide +kernel
theorem dX12_timesCircle_1 : decode cX12_timesCircle 1 = .ok (.istore_n 1, 1) := by decide +kernel
theorem dX12_timesCircle_2 : decode cX12_timesCircle 2 = .ok (.iload_n 1, 1) := by decide +kernel
theorem dX12_timesCircle_3 : decode cX12_timesCircle 3 = .ok (.sipush 601, 3) := by decide +kernel
theorem dX12_timesCircle_6 : decode cX12_timesCircle 6 = .ok (.if_icmp .ge 28, 3) := by decide +kernel
theorem dX12_timesCircle_9 : decode cX12_timesCircle 9 = .ok (.aload_n 0, 1) := by decide +kernel
theorem dX12_timesCircle_10 : decode cX12_timesCircle 10 = .ok (.getfield 83, 3) := by decide +kernel
theorem dX12_timesCircle_13 : decode cX12_timesCircle 13 = .ok (.iload_n 1, 1) := by decide +kernel
theorem dX12_timesCircle_14 : decode cX12_timesCircle 14 = .ok (.aload_n 0, 1) := by decide +kernel
theorem dX12_timesCircle_15 : decode cX12_timesCircle 15 = .ok (.getfield 80, 3) := by decide +kernel
theorem dX12_timesCircle_18 : decode cX12_timesCircle 18 = .ok (.iload_n 1, 1) := by decide +kernel
theorem dX12_timesCircle_19 : decode cX12_timesCircle 19 = .ok (.laload, 1) := by decide +kernel
theorem dX12_timesCircle_20 : decode cX12_timesCircle 20 = .ok (.lastore, 1) := by decide +kernel
theorem dX12_timesCircle_21 : decode cX12_timesCircle 21 = .ok (.aload_n 0, 1) := by decide +kernel
theorem dX12_timesCircle_22 : decode cX12_timesCircle 22 = .ok (.getfield 80, 3) := by decide +kernel
theorem dX12_timesCircle_25 : decode cX12_timesCircle 25 = .ok (.iload_n 1, 1) := by decide +kernel
theorem dX12_timesCircle_26 : decode cX12_timesCircle 26 = .ok (.lconst 0, 1) := by decide +kernel
theorem dX12_timesCircle_27 : decode cX12_timesCircle 27 = .ok (.lastore, 1) := by decide +kernel
theorem dX12_timesCircle_28 : decode cX12_timesCircle 28 = .ok (.iinc 1 1, 3) := by decide +kernel
theorem dX12_timesCircle_31 : decode cX12_timesCircle 31 = .ok (.goto (-29), 3) := by decide +kernel
theorem dX12_timesCircle_34 : decode cX12_timesCircle 34 = .ok (.iconst 2, 1) := by decide +kernel
theorem dX12_timesCircle_35 : decode cX12_timesCircle 35 = .ok (.istore_n 1, 1) := by decide +kernel
theorem dX12_timesCircle_36 : decode cX12_timesCircle 36 = .ok (.iload_n 1, 1) := by decide +kernel
theorem dX12_timesCircle_37 : decode cX12_timesCircle 37 = .ok (.sipush 599, 3) := by decide +kernel
theorem dX12_timesCircle_40 : decode cX12_timesCircle 40 = .ok (.if_icmp .ge 43, 3) := by decide +kernel
theorem dX12_timesCircle_43 : decode cX12_timesCircle 43 = .ok (.aload_n 0, 1) := by decide +kernel
theorem dX12_timesCircle_44 : decode cX12_timesCircle 44 = .ok (.getfield 80, 3) := by decide +kernel
theorem dX12_timesCircle_47 : decode cX12_timesCircle 47 = .ok (.iload_n 1, 1) := by decide +kernel
theorem dX12_timesCircle_48 : decode cX12_timesCircle 48 = .ok (.iconst 2, 1) := by decide +kernel
theorem dX12_timesCircle_49 : decode cX12_timesCircle 49 = .ok (.iadd, 1) := by decide +kernel
theorem dX12_timesCircle_50 : decode cX12_timesCircle 50 = .ok (.dup2, 1) := by decide +kernel
theorem dX12_timesCircle_51 : decode cX12_timesCircle 51 = .ok (.laload, 1) := by decide +kernel
theorem dX12_timesCircle_52 : decode cX12_timesCircle 52 = .ok (.aload_n 0, 1) := by decide +kernel
theorem dX12_timesCircle_53 : decode cX12_timesCircle 53 = .ok (.getfield 83, 3) := by decide +kernel
theorem dX12_timesCircle_56 : decode cX12_timesCircle 56 = .ok (.iload_n 1, 1) := by decide +kernel
theorem dX12_timesCircle_57 : decode cX12_timesCircle 57 = .ok (.laload, 1) := by decide +kernel
theorem dX12_timesCircle_58 : decode cX12_timesCircle 58 = .ok (.lsub, 1) := by decide +kernel
theorem dX12_timesCircle_59 : decode cX12_timesCircle 59 = .ok (.lastore, 1) := by decide +kernel
theorem dX12_timesCircle_60 : decode cX12_timesCircle 60 = .ok (.aload_n 0, 1) := by decide +kernel
theorem dX12_timesCircle_61 : decode cX12_timesCircle 61 = .ok (.getfield 80, 3) := by decide +kernel
theorem dX12_timesCircle_64 : decode cX12_timesCircle 64 = .ok (.iload_n 1, 1) := by decide +kernel
theorem dX12_timesCircle_65 : decode cX12_timesCircle 65 = .ok (.iconst 2, 1) := by decide +kernel
theorem dX12_timesCircle_66 : decode cX12_timesCircle 66 = .ok (.isub, 1) := by decide +kernel
theorem dX12_timesCircle_67 : decode cX12_timesCircle 67 = .ok (.dup2, 1) := by decide +kernel
theorem dX12_timesCircle_68 : decode cX12_timesCircle 68 = .ok (.laload, 1) := by decide +kernel
theorem dX12_timesCircle_69 : decode cX12_timesCircle 69 = .ok (.aload_n 0, 1) := by decide +kernel
theorem dX12_timesCircle_70 : decode cX12_timesCircle 70 = .ok (.getfield 83, 3) := by decide +kernel
theorem dX12_timesCircle_73 : decode cX12_timesCircle 73 = .ok (.iload_n 1, 1) := by decide +kernel
theorem dX12_timesCircle_74 : decode cX12_timesCircle 74 = .ok (.laload, 1) := by decide +kernel
theorem dX12_timesCircle_75 : decode cX12_timesCircle 75 = .ok (.lsub, 1) := by decide +kernel
theorem dX12_timesCircle_76 : decode cX12_timesCircle 76 = .ok (.lastore, 1) := by decide +kernel
theorem dX12_timesCircle_77 : decode cX12_timesCircle 77 = .ok (.iinc 1 1, 3) := by decide +kernel
theorem dX12_timesCircle_80 : decode cX12_timesCircle 80 = .ok (.goto (-44), 3) := by decide +kernel
theorem dX12_timesCircle_83 : decode cX12_timesCircle 83 = .ok (.return_, 1) := by decide +kernel
theorem dX12_polynomialOf_0 : decode cX12_polynomialOf 0 = .ok (.aload_n 0, 1) := by decide +kernel
theorem dX12_polynomialOf_1 : decode cX12_polynomialOf 1 = .ok (.iload_n 1, 1) := by decide +kernel
theorem dX12_polynomialOf_2 : decode cX12_polynomialOf 2 = .ok (.invokevirtual 216, 3) := by decide +kernel
theorem dX12_polynomialOf_5 : decode cX12_polynomialOf 5 = .ok (.aload_n 0, 1) := by decide +kernel
theorem dX12_polynomialOf_6 : decode cX12_polynomialOf 6 = .ok (.iload_n 1, 1) := by decide +kernel
theorem dX12_polynomialOf_7 : decode cX12_polynomialOf 7 = .ok (.invokevirtual 240, 3) := by decide +kernel
theorem dX12_polynomialOf_10 : decode cX12_polynomialOf 10 = .ok (.istore_n 2, 1) := by decide +kernel
theorem dX12_polynomialOf_11 : decode cX12_polynomialOf 11 = .ok (.aload_n 0, 1) := by decide +kernel
theorem dX12_polynomialOf_12 : decode cX12_polynomialOf 12 = .ok (.iload_n 1, 1) := by decide +kernel
theorem dX12_polynomialOf_13 : decode cX12_polynomialOf 13 = .ok (.invokevirtual 259, 3) := by decide +kernel
theorem dX12_polynomialOf_16 : decode cX12_polynomialOf 16 = .ok (.iconst 0, 1) := by decide +kernel
theorem dX12_polynomialOf_17 : decode cX12_polynomialOf 17 = .ok (.istore_n 3, 1) := by decide +kernel
theorem dX12_polynomialOf_18 : decode cX12_polynomialOf 18 = .ok (.iload_n 3, 1) := by decide +kernel
theorem dX12_polynomialOf_19 : decode cX12_polynomialOf 19 = .ok (.sipush 601, 3) := by decide +kernel
theorem dX12_polynomialOf_22 : decode cX12_polynomialOf 22 = .ok (.if_icmp .ge 28, 3) := by decide +kernel
theorem dX12_polynomialOf_25 : decode cX12_polynomialOf 25 = .ok (.aload_n 0, 1) := by decide +kernel
theorem dX12_polynomialOf_26 : decode cX12_polynomialOf 26 = .ok (.getfield 83, 3) := by decide +kernel
theorem dX12_polynomialOf_29 : decode cX12_polynomialOf 29 = .ok (.iload_n 3, 1) := by decide +kernel
theorem dX12_polynomialOf_30 : decode cX12_polynomialOf 30 = .ok (.aload_n 0, 1) := by decide +kernel
theorem dX12_polynomialOf_31 : decode cX12_polynomialOf 31 = .ok (.getfield 67, 3) := by decide +kernel
theorem dX12_polynomialOf_34 : decode cX12_polynomialOf 34 = .ok (.iload_n 3, 1) := by decide +kernel
theorem dX12_polynomialOf_35 : decode cX12_polynomialOf 35 = .ok (.laload, 1) := by decide +kernel
theorem dX12_polynomialOf_36 : decode cX12_polynomialOf 36 = .ok (.lastore, 1) := by decide +kernel
theorem dX12_polynomialOf_37 : decode cX12_polynomialOf 37 = .ok (.aload_n 0, 1) := by decide +kernel
theorem dX12_polynomialOf_38 : decode cX12_polynomialOf 38 = .ok (.getfield 67, 3) := by decide +kernel
theorem dX12_polynomialOf_41 : decode cX12_polynomialOf 41 = .ok (.iload_n 3, 1) := by decide +kernel
theorem dX12_polynomialOf_42 : decode cX12_polynomialOf 42 = .ok (.lconst 0, 1) := by decide +kernel
theorem dX12_polynomialOf_43 : decode cX12_polynomialOf 43 = .ok (.lastore, 1) := by decide +kernel
theorem dX12_polynomialOf_44 : decode cX12_polynomialOf 44 = .ok (.iinc 3 1, 3) := by decide +kernel
theorem dX12_polynomialOf_47 : decode cX12_polynomialOf 47 = .ok (.goto (-29), 3) := by decide +kernel
theorem dX12_polynomialOf_50 : decode cX12_polynomialOf 50 = .ok (.iconst 0, 1) := by decide +kernel
theorem dX12_polynomialOf_51 : decode cX12_polynomialOf 51 = .ok (.istore_n 3, 1) := by decide +kernel
theorem dX12_polynomialOf_52 : decode cX12_polynomialOf 52 = .ok (.iload_n 3, 1) := by decide +kernel
theorem dX12_polynomialOf_53 : decode cX12_polynomialOf 53 = .ok (.sipush 601, 3) := by decide +kernel
theorem dX12_polynomialOf_56 : decode cX12_polynomialOf 56 = .ok (.if_icmp .ge 52, 3) := by decide +kernel
theorem dX12_polynomialOf_59 : decode cX12_polynomialOf 59 = .ok (.aload_n 0, 1) := by decide +kernel
theorem dX12_polynomialOf_60 : decode cX12_polynomialOf 60 = .ok (.getfield 83, 3) := by decide +kernel
theorem dX12_polynomialOf_63 : decode cX12_polynomialOf 63 = .ok (.iload_n 3, 1) := by decide +kernel
theorem dX12_polynomialOf_64 : decode cX12_polynomialOf 64 = .ok (.laload, 1) := by decide +kernel
theorem dX12_polynomialOf_65 : decode cX12_polynomialOf 65 = .ok (.lconst 0, 1) := by decide +kernel
theorem dX12_polynomialOf_66 : decode cX12_polynomialOf 66 = .ok (.lcmp, 1) := by decide +kernel
theorem dX12_polynomialOf_67 : decode cX12_polynomialOf 67 = .ok (.ifCond .eq 35, 3) := by decide +kernel
theorem dX12_polynomialOf_70 : decode cX12_polynomialOf 70 = .ok (.aload_n 0, 1) := by decide +kernel
theorem dX12_polynomialOf_71 : decode cX12_polynomialOf 71 = .ok (.getfield 67, 3) := by decide +kernel
theorem dX12_polynomialOf_74 : decode cX12_polynomialOf 74 = .ok (.iload_n 3, 1) := by decide +kernel
theorem dX12_polynomialOf_75 : decode cX12_polynomialOf 75 = .ok (.iconst 3, 1) := by decide +kernel
theorem dX12_polynomialOf_76 : decode cX12_polynomialOf 76 = .ok (.iload_n 2, 1) := by decide +kernel
theorem dX12_polynomialOf_77 : decode cX12_polynomialOf 77 = .ok (.imul, 1) := by decide +kernel
theorem dX12_polynomialOf_78 : decode cX12_polynomialOf 78 = .ok (.isub, 1) := by decide +kernel
theorem dX12_polynomialOf_79 : decode cX12_polynomialOf 79 = .ok (.iload_n 2, 1) := by decide +kernel
theorem dX12_polynomialOf_80 : decode cX12_polynomialOf 80 = .ok (.iconst 2, 1) := by decide +kernel
theorem dX12_polynomialOf_81 : decode cX12_polynomialOf 81 = .ok (.irem, 1) := by decide +kernel
theorem dX12_polynomialOf_82 : decode cX12_polynomialOf 82 = .ok (.ifCond .ne 12, 3) := by decide +kernel
theorem dX12_polynomialOf_85 : decode cX12_polynomialOf 85 = .ok (.aload_n 0, 1) := by decide +kernel
theorem dX12_polynomialOf_86 : decode cX12_polynomialOf 86 = .ok (.getfield 83, 3) := by decide +kernel
theorem dX12_polynomialOf_89 : decode cX12_polynomialOf 89 = .ok (.iload_n 3, 1) := by decide +kernel
theorem dX12_polynomialOf_90 : decode cX12_polynomialOf 90 = .ok (.laload, 1) := by decide +kernel
theorem dX12_polynomialOf_91 : decode cX12_polynomialOf 91 = .ok (.goto 10, 3) := by decide +kernel
theorem dX12_polynomialOf_94 : decode cX12_polynomialOf 94 = .ok (.aload_n 0, 1) := by decide +kernel
theorem dX12_polynomialOf_95 : decode cX12_polynomialOf 95 = .ok (.getfield 83, 3) := by decide +kernel
theorem dX12_polynomialOf_98 : decode cX12_polynomialOf 98 = .ok (.iload_n 3, 1) := by decide +kernel
theorem dX12_polynomialOf_99 : decode cX12_polynomialOf 99 = .ok (.laload, 1) := by decide +kernel
theorem dX12_polynomialOf_100 : decode cX12_polynomialOf 100 = .ok (.lneg, 1) := by decide +kernel
theorem dX12_polynomialOf_101 : decode cX12_polynomialOf 101 = .ok (.lastore, 1) := by decide +kernel
theorem dX12_polynomialOf_102 : decode cX12_polynomialOf 102 = .ok (.iinc 3 1, 3) := by decide +kernel
theorem dX12_polynomialOf_105 : decode cX12_polynomialOf 105 = .ok (.goto (-53), 3) := by decide +kernel
theorem dX12_polynomialOf_108 : decode cX12_polynomialOf 108 = .ok (.return_, 1) := by decide +kernel
theorem dX12_spends_0 : decode cX12_spends 0 = .ok (.aload_n 0, 1) := by decide +kernel
theorem dX12_spends_1 : decode cX12_spends 1 = .ok (.iload_n 1, 1) := by decide +kernel
theorem dX12_spends_2 : decode cX12_spends 2 = .ok (.invokevirtual 237, 3) := by decide +kernel
theorem dX12_spends_5 : decode cX12_spends 5 = .ok (.istore_n 3, 1) := by decide +kernel
theorem dX12_spends_6 : decode cX12_spends 6 = .ok (.iload_n 3, 1) := by decide +kernel
theorem dX12_spends_7 : decode cX12_spends 7 = .ok (.ifCond .ge 5, 3) := by decide +kernel
theorem dX12_spends_10 : decode cX12_spends 10 = .ok (.iload_n 3, 1) := by decide +kernel
theorem dX12_spends_11 : decode cX12_spends 11 = .ok (.ireturn, 1) := by decide +kernel
theorem dX12_spends_12 : decode cX12_spends 12 = .ok (.aload_n 0, 1) := by decide +kernel
theorem dX12_spends_13 : decode cX12_spends 13 = .ok (.getfield 13, 3) := by decide +kernel
theorem dX12_spends_16 : decode cX12_spends 16 = .ok (.iload_n 1, 1) := by decide +kernel
theorem dX12_spends_17 : decode cX12_spends 17 = .ok (.iaload, 1) := by decide +kernel
theorem dX12_spends_18 : decode cX12_spends 18 = .ok (.ifCond .ne 21, 3) := by decide +kernel
theorem dX12_spends_21 : decode cX12_spends 21 = .ok (.aload_n 0, 1) := by decide +kernel
theorem dX12_spends_22 : decode cX12_spends 22 = .ok (.getfield 16, 3) := by decide +kernel
theorem dX12_spends_25 : decode cX12_spends 25 = .ok (.iload_n 1, 1) := by decide +kernel
theorem dX12_spends_26 : decode cX12_spends 26 = .ok (.iaload, 1) := by decide +kernel
theorem dX12_spends_27 : decode cX12_spends 27 = .ok (.ifCond .ne 12, 3) := by decide +kernel
theorem dX12_spends_30 : decode cX12_spends 30 = .ok (.aload_n 0, 1) := by decide +kernel
theorem dX12_spends_31 : decode cX12_spends 31 = .ok (.bipush 6, 2) := by decide +kernel
theorem dX12_spends_33 : decode cX12_spends 33 = .ok (.invokevirtual 200, 3) := by decide +kernel
theorem dX12_spends_36 : decode cX12_spends 36 = .ok (.goto 51, 3) := by decide +kernel
theorem dX12_spends_39 : decode cX12_spends 39 = .ok (.aload_n 0, 1) := by decide +kernel
theorem dX12_spends_40 : decode cX12_spends 40 = .ok (.getfield 13, 3) := by decide +kernel
theorem dX12_spends_43 : decode cX12_spends 43 = .ok (.iload_n 1, 1) := by decide +kernel
theorem dX12_spends_44 : decode cX12_spends 44 = .ok (.iaload, 1) := by decide +kernel
theorem dX12_spends_45 : decode cX12_spends 45 = .ok (.iload_n 2, 1) := by decide +kernel
theorem dX12_spends_46 : decode cX12_spends 46 = .ok (.if_icmp .le 12, 3) := by decide +kernel
theorem dX12_spends_49 : decode cX12_spends 49 = .ok (.aload_n 0, 1) := by decide +kernel
theorem dX12_spends_50 : decode cX12_spends 50 = .ok (.bipush 7, 2) := by decide +kernel
theorem dX12_spends_52 : decode cX12_spends 52 = .ok (.invokevirtual 200, 3) := by decide +kernel
theorem dX12_spends_55 : decode cX12_spends 55 = .ok (.goto 32, 3) := by decide +kernel
theorem dX12_spends_58 : decode cX12_spends 58 = .ok (.aload_n 0, 1) := by decide +kernel
theorem dX12_spends_59 : decode cX12_spends 59 = .ok (.getfield 250, 3) := by decide +kernel
theorem dX12_spends_62 : decode cX12_spends 62 = .ok (.iconst 1, 1) := by decide +kernel
theorem dX12_spends_63 : decode cX12_spends 63 = .ok (.aload_n 0, 1) := by decide +kernel
theorem dX12_spends_64 : decode cX12_spends 64 = .ok (.getfield 13, 3) := by decide +kernel
theorem dX12_spends_67 : decode cX12_spends 67 = .ok (.iload_n 1, 1) := by decide +kernel
theorem dX12_spends_68 : decode cX12_spends 68 = .ok (.iaload, 1) := by decide +kernel
theorem dX12_spends_69 : decode cX12_spends 69 = .ok (.ishl, 1) := by decide +kernel
theorem dX12_spends_70 : decode cX12_spends 70 = .ok (.iadd, 1) := by decide +kernel
theorem dX12_spends_71 : decode cX12_spends 71 = .ok (.ldc_w 262, 3) := by decide +kernel
theorem dX12_spends_74 : decode cX12_spends 74 = .ok (.if_icmp .le 12, 3) := by decide +kernel
theorem dX12_spends_77 : decode cX12_spends 77 = .ok (.aload_n 0, 1) := by decide +kernel
theorem dX12_spends_78 : decode cX12_spends 78 = .ok (.bipush 9, 2) := by decide +kernel
theorem dX12_spends_80 : decode cX12_spends 80 = .ok (.invokevirtual 200, 3) := by decide +kernel
theorem dX12_spends_83 : decode cX12_spends 83 = .ok (.goto 4, 3) := by decide +kernel
theorem dX12_spends_86 : decode cX12_spends 86 = .ok (.iconst 0, 1) := by decide +kernel
theorem dX12_spends_87 : decode cX12_spends 87 = .ok (.ireturn, 1) := by decide +kernel
theorem dX12_shown_0 : decode cX12_shown 0 = .ok (.iconst 0, 1) := by decide +kernel
theorem dX12_shown_1 : decode cX12_shown 1 = .ok (.istore_n 1, 1) := by decide +kernel
theorem dX12_shown_2 : decode cX12_shown 2 = .ok (.iconst 0, 1) := by decide +kernel
theorem dX12_shown_3 : decode cX12_shown 3 = .ok (.istore_n 2, 1) := by decide +kernel
theorem dX12_shown_4 : decode cX12_shown 4 = .ok (.iload_n 2, 1) := by decide +kernel
theorem dX12_shown_5 : decode cX12_shown 5 = .ok (.sipush 601, 3) := by decide +kernel
theorem dX12_shown_8 : decode cX12_shown 8 = .ok (.if_icmp .ge 40, 3) := by decide +kernel
theorem dX12_shown_11 : decode cX12_shown 11 = .ok (.aload_n 0, 1) := by decide +kernel
theorem dX12_shown_12 : decode cX12_shown 12 = .ok (.getfield 71, 3) := by decide +kernel
theorem dX12_shown_15 : decode cX12_shown 15 = .ok (.iload_n 2, 1) := by decide +kernel
theorem dX12_shown_16 : decode cX12_shown 16 = .ok (.aload_n 0, 1) := by decide +kernel
theorem dX12_shown_17 : decode cX12_shown 17 = .ok (.getfield 67, 3) := by decide +kernel
theorem dX12_shown_20 : decode cX12_shown 20 = .ok (.iload_n 2, 1) := by decide +kernel
theorem dX12_shown_21 : decode cX12_shown 21 = .ok (.laload, 1) := by decide +kernel
theorem dX12_shown_22 : decode cX12_shown 22 = .ok (.lastore, 1) := by decide +kernel
theorem dX12_shown_23 : decode cX12_shown 23 = .ok (.iload_n 1, 1) := by decide +kernel
theorem dX12_shown_24 : decode cX12_shown 24 = .ok (.aload_n 0, 1) := by decide +kernel
theorem dX12_shown_25 : decode cX12_shown 25 = .ok (.getfield 67, 3) := by decide +kernel
theorem dX12_shown_28 : decode cX12_shown 28 = .ok (.iload_n 2, 1) := by decide +kernel
theorem dX12_shown_29 : decode cX12_shown 29 = .ok (.laload, 1) := by decide +kernel
theorem dX12_shown_30 : decode cX12_shown 30 = .ok (.lconst 0, 1) := by decide +kernel
theorem dX12_shown_31 : decode cX12_shown 31 = .ok (.lcmp, 1) := by decide +kernel
theorem dX12_shown_32 : decode cX12_shown 32 = .ok (.ifCond .eq 7, 3) := by decide +kernel
theorem dX12_shown_35 : decode cX12_shown 35 = .ok (.iconst 1, 1) := by decide +kernel
theorem dX12_shown_36 : decode cX12_shown 36 = .ok (.goto 4, 3) := by decide +kernel
theorem dX12_shown_39 : decode cX12_shown 39 = .ok (.iconst 0, 1) := by decide +kernel
theorem dX12_shown_40 : decode cX12_shown 40 = .ok (.iadd, 1) := by decide +kernel
theorem dX12_shown_41 : decode cX12_shown 41 = .ok (.istore_n 1, 1) := by decide +kernel
theorem dX12_shown_42 : decode cX12_shown 42 = .ok (.iinc 2 1, 3) := by decide +kernel
theorem dX12_shown_45 : decode cX12_shown 45 = .ok (.goto (-41), 3) := by decide +kernel
theorem dX12_shown_48 : decode cX12_shown 48 = .ok (.aload_n 0, 1) := by decide +kernel
theorem dX12_shown_49 : decode cX12_shown 49 = .ok (.iconst 1, 1) := by decide +kernel
theorem dX12_shown_50 : decode cX12_shown 50 = .ok (.putfield 263, 3) := by decide +kernel
theorem dX12_shown_53 : decode cX12_shown 53 = .ok (.aload_n 0, 1) := by decide +kernel
theorem dX12_shown_54 : decode cX12_shown 54 = .ok (.iload_n 1, 1) := by decide +kernel
theorem dX12_shown_55 : decode cX12_shown 55 = .ok (.invokevirtual 180, 3) := by decide +kernel
theorem dX12_shown_58 : decode cX12_shown 58 = .ok (.ireturn, 1) := by decide +kernel
theorem dX12_bracket_0 : decode cX12_bracket 0 = .ok (.aload_n 0, 1) := by decide +kernel
theorem dX12_bracket_1 : decode cX12_bracket 1 = .ok (.iload_n 1, 1) := by decide +kernel
theorem dX12_bracket_2 : decode cX12_bracket 2 = .ok (.bipush 14, 2) := by decide +kernel
theorem dX12_bracket_4 : decode cX12_bracket 4 = .ok (.invokevirtual 267, 3) := by decide +kernel
theorem dX12_bracket_7 : decode cX12_bracket 7 = .ok (.istore_n 2, 1) := by decide +kernel
theorem dX12_bracket_8 : decode cX12_bracket 8 = .ok (.iload_n 2, 1) := by decide +kernel
theorem dX12_bracket_9 : decode cX12_bracket 9 = .ok (.ifCond .ge 5, 3) := by decide +kernel
theorem dX12_bracket_12 : decode cX12_bracket 12 = .ok (.iload_n 2, 1) := by decide +kernel
theorem dX12_bracket_13 : decode cX12_bracket 13 = .ok (.ireturn, 1) := by decide +kernel
theorem dX12_bracket_14 : decode cX12_bracket 14 = .ok (.aload_n 0, 1) := by decide +kernel
theorem dX12_bracket_15 : decode cX12_bracket 15 = .ok (.iload_n 1, 1) := by decide +kernel
theorem dX12_bracket_16 : decode cX12_bracket 16 = .ok (.invokevirtual 259, 3) := by decide +kernel
theorem dX12_bracket_19 : decode cX12_bracket 19 = .ok (.aload_n 0, 1) := by decide +kernel
theorem dX12_bracket_20 : decode cX12_bracket 20 = .ok (.invokevirtual 270, 3) := by decide +kernel
theorem dX12_bracket_23 : decode cX12_bracket 23 = .ok (.ireturn, 1) := by decide +kernel
theorem dX12_polynomial_0 : decode cX12_polynomial 0 = .ok (.aload_n 0, 1) := by decide +kernel
theorem dX12_polynomial_1 : decode cX12_polynomial 1 = .ok (.iload_n 1, 1) := by decide +kernel
theorem dX12_polynomial_2 : decode cX12_polynomial 2 = .ok (.bipush 14, 2) := by decide +kernel
theorem dX12_polynomial_4 : decode cX12_polynomial 4 = .ok (.invokevirtual 267, 3) := by decide +kernel
theorem dX12_polynomial_7 : decode cX12_polynomial 7 = .ok (.istore_n 2, 1) := by decide +kernel
theorem dX12_polynomial_8 : decode cX12_polynomial 8 = .ok (.iload_n 2, 1) := by decide +kernel
theorem dX12_polynomial_9 : decode cX12_polynomial 9 = .ok (.ifCond .ge 5, 3) := by decide +kernel
theorem dX12_polynomial_12 : decode cX12_polynomial 12 = .ok (.iload_n 2, 1) := by decide +kernel
theorem dX12_polynomial_13 : decode cX12_polynomial 13 = .ok (.ireturn, 1) := by decide +kernel
theorem dX12_polynomial_14 : decode cX12_polynomial 14 = .ok (.aload_n 0, 1) := by decide +kernel
theorem dX12_polynomial_15 : decode cX12_polynomial 15 = .ok (.iload_n 1, 1) := by decide +kernel
theorem dX12_polynomial_16 : decode cX12_polynomial 16 = .ok (.invokevirtual 274, 3) := by decide +kernel
theorem dX12_polynomial_19 : decode cX12_polynomial 19 = .ok (.aload_n 0, 1) := by decide +kernel
theorem dX12_polynomial_20 : decode cX12_polynomial 20 = .ok (.invokevirtual 270, 3) := by decide +kernel
theorem dX12_polynomial_23 : decode cX12_polynomial 23 = .ok (.ireturn, 1) := by decide +kernel
theorem dX12_at_0 : decode cX12_at 0 = .ok (.aload_n 0, 1) := by decide +kernel
theorem dX12_at_1 : decode cX12_at 1 = .ok (.getfield 263, 3) := by decide +kernel
theorem dX12_at_4 : decode cX12_at 4 = .ok (.ifCond .eq 30, 3) := by decide +kernel
theorem dX12_at_7 : decode cX12_at 7 = .ok (.iload_n 1, 1) := by decide +kernel
theorem dX12_at_8 : decode cX12_at 8 = .ok (.i2l, 1) := by decide +kernel
theorem dX12_at_9 : decode cX12_at 9 = .ok (.ldc2_w 277, 3) := by decide +kernel
theorem dX12_at_12 : decode cX12_at 12 = .ok (.ldc2_w 279, 3) := by decide +kernel
theorem dX12_at_15 : decode cX12_at 15 = .ok (.invokestatic 172, 3) := by decide +kernel
theorem dX12_at_18 : decode cX12_at 18 = .ok (.ifCond .eq 16, 3) := by decide +kernel
theorem dX12_at_21 : decode cX12_at 21 = .ok (.aload_n 0, 1) := by decide +kernel
theorem dX12_at_22 : decode cX12_at 22 = .ok (.getfield 71, 3) := by decide +kernel
theorem dX12_at_25 : decode cX12_at 25 = .ok (.iload_n 1, 1) := by decide +kernel
theorem dX12_at_26 : decode cX12_at 26 = .ok (.sipush 300, 3) := by decide +kernel
theorem dX12_at_29 : decode cX12_at 29 = .ok (.iadd, 1) := by decide +kernel
theorem dX12_at_30 : decode cX12_at 30 = .ok (.laload, 1) := by decide +kernel
theorem dX12_at_31 : decode cX12_at 31 = .ok (.goto 4, 3) := by decide +kernel
theorem dX12_at_34 : decode cX12_at 34 = .ok (.lconst 0, 1) := by decide +kernel
theorem dX12_at_35 : decode cX12_at 35 = .ok (.lreturn, 1) := by decide +kernel
theorem dX12_power_0 : decode cX12_power 0 = .ok (.iload_n 1, 1) := by decide +kernel
theorem dX12_power_1 : decode cX12_power 1 = .ok (.i2l, 1) := by decide +kernel
theorem dX12_power_2 : decode cX12_power 2 = .ok (.lconst 0, 1) := by decide +kernel
theorem dX12_power_3 : decode cX12_power 3 = .ok (.lconst 1, 1) := by decide +kernel
theorem dX12_power_4 : decode cX12_power 4 = .ok (.invokestatic 172, 3) := by decide +kernel
theorem dX12_power_7 : decode cX12_power 7 = .ok (.ifCond .ne 10, 3) := by decide +kernel
theorem dX12_power_10 : decode cX12_power 10 = .ok (.aload_n 0, 1) := by decide +kernel
theorem dX12_power_11 : decode cX12_power 11 = .ok (.bipush (-2), 2) := by decide +kernel
theorem dX12_power_13 : decode cX12_power 13 = .ok (.invokevirtual 165, 3) := by decide +kernel
theorem dX12_power_16 : decode cX12_power 16 = .ok (.ireturn, 1) := by decide +kernel
theorem dX12_power_17 : decode cX12_power 17 = .ok (.aload_n 0, 1) := by decide +kernel
theorem dX12_power_18 : decode cX12_power 18 = .ok (.getfield 263, 3) := by decide +kernel
theorem dX12_power_21 : decode cX12_power 21 = .ok (.ifCond .ne 9, 3) := by decide +kernel
theorem dX12_power_24 : decode cX12_power 24 = .ok (.aload_n 0, 1) := by decide +kernel
theorem dX12_power_25 : decode cX12_power 25 = .ok (.iconst 5, 1) := by decide +kernel
theorem dX12_power_26 : decode cX12_power 26 = .ok (.invokevirtual 200, 3) := by decide +kernel
theorem dX12_power_29 : decode cX12_power 29 = .ok (.ireturn, 1) := by decide +kernel
theorem dX12_power_30 : decode cX12_power 30 = .ok (.iconst (-1), 1) := by decide +kernel
theorem dX12_power_31 : decode cX12_power 31 = .ok (.istore_n 2, 1) := by decide +kernel
theorem dX12_power_32 : decode cX12_power 32 = .ok (.iconst 0, 1) := by decide +kernel
theorem dX12_power_33 : decode cX12_power 33 = .ok (.istore_n 3, 1) := by decide +kernel
theorem dX12_power_34 : decode cX12_power 34 = .ok (.iload_n 3, 1) := by decide +kernel
theorem dX12_power_35 : decode cX12_power 35 = .ok (.sipush 601, 3) := by decide +kernel
theorem dX12_power_38 : decode cX12_power 38 = .ok (.if_icmp .ge 32, 3) := by decide +kernel
theorem dX12_power_41 : decode cX12_power 41 = .ok (.aload_n 0, 1) := by decide +kernel
theorem dX12_power_42 : decode cX12_power 42 = .ok (.getfield 71, 3) := by decide +kernel
theorem dX12_power_45 : decode cX12_power 45 = .ok (.iload_n 3, 1) := by decide +kernel
theorem dX12_power_46 : decode cX12_power 46 = .ok (.laload, 1) := by decide +kernel
theorem dX12_power_47 : decode cX12_power 47 = .ok (.lconst 0, 1) := by decide +kernel
theorem dX12_power_48 : decode cX12_power 48 = .ok (.lcmp, 1) := by decide +kernel
theorem dX12_power_49 : decode cX12_power 49 = .ok (.ifCond .eq 15, 3) := by decide +kernel
theorem dX12_power_52 : decode cX12_power 52 = .ok (.iload_n 1, 1) := by decide +kernel
theorem dX12_power_53 : decode cX12_power 53 = .ok (.iconst 1, 1) := by decide +kernel
theorem dX12_power_54 : decode cX12_power 54 = .ok (.if_icmp .eq 8, 3) := by decide +kernel
theorem dX12_power_57 : decode cX12_power 57 = .ok (.iload_n 2, 1) := by decide +kernel
theorem dX12_power_58 : decode cX12_power 58 = .ok (.iconst (-1), 1) := by decide +kernel
theorem dX12_power_59 : decode cX12_power 59 = .ok (.if_icmp .ne 5, 3) := by decide +kernel
theorem dX12_power_62 : decode cX12_power 62 = .ok (.iload_n 3, 1) := by decide +kernel
theorem dX12_power_63 : decode cX12_power 63 = .ok (.istore_n 2, 1) := by decide +kernel
theorem dX12_power_64 : decode cX12_power 64 = .ok (.iinc 3 1, 3) := by decide +kernel
theorem dX12_power_67 : decode cX12_power 67 = .ok (.goto (-33), 3) := by decide +kernel
theorem dX12_power_70 : decode cX12_power 70 = .ok (.aload_n 0, 1) := by decide +kernel
theorem dX12_power_71 : decode cX12_power 71 = .ok (.iload_n 2, 1) := by decide +kernel
theorem dX12_power_72 : decode cX12_power 72 = .ok (.sipush 300, 3) := by decide +kernel
theorem dX12_power_75 : decode cX12_power 75 = .ok (.isub, 1) := by decide +kernel
theorem dX12_power_76 : decode cX12_power 76 = .ok (.invokevirtual 180, 3) := by decide +kernel
theorem dX12_power_79 : decode cX12_power 79 = .ok (.ireturn, 1) := by decide +kernel
theorem dX12_determinant_0 : decode cX12_determinant 0 = .ok (.aload_n 0, 1) := by decide +kernel
theorem dX12_determinant_1 : decode cX12_determinant 1 = .ok (.iload_n 1, 1) := by decide +kernel
theorem dX12_determinant_2 : decode cX12_determinant 2 = .ok (.bipush 14, 2) := by decide +kernel
theorem dX12_determinant_4 : decode cX12_determinant 4 = .ok (.invokevirtual 267, 3) := by decide +kernel
theorem dX12_determinant_7 : decode cX12_determinant 7 = .ok (.istore_n 2, 1) := by decide +kernel
theorem dX12_determinant_8 : decode cX12_determinant 8 = .ok (.iload_n 2, 1) := by decide +kernel
theorem dX12_determinant_9 : decode cX12_determinant 9 = .ok (.ifCond .ge 6, 3) := by decide +kernel
theorem dX12_determinant_12 : decode cX12_determinant 12 = .ok (.iload_n 2, 1) := by decide +kernel
theorem dX12_determinant_13 : decode cX12_determinant 13 = .ok (.i2l, 1) := by decide +kernel
theorem dX12_determinant_14 : decode cX12_determinant 14 = .ok (.lreturn, 1) := by decide +kernel
theorem dX12_determinant_15 : decode cX12_determinant 15 = .ok (.aload_n 0, 1) := by decide +kernel
theorem dX12_determinant_16 : decode cX12_determinant 16 = .ok (.iload_n 1, 1) := by decide +kernel
theorem dX12_determinant_17 : decode cX12_determinant 17 = .ok (.invokevirtual 259, 3) := by decide +kernel
theorem dX12_determinant_20 : decode cX12_determinant 20 = .ok (.iconst 0, 1) := by decide +kernel
theorem dX12_determinant_21 : decode cX12_determinant 21 = .ok (.istore_n 3, 1) := by decide +kernel
theorem dX12_determinant_22 : decode cX12_determinant 22 = .ok (.aload_n 0, 1) := by decide +kernel
theorem dX12_determinant_23 : decode cX12_determinant 23 = .ok (.getfield 67, 3) := by decide +kernel
theorem dX12_determinant_26 : decode cX12_determinant 26 = .ok (.iload_n 3, 1) := by decide +kernel
theorem dX12_determinant_27 : decode cX12_determinant 27 = .ok (.laload, 1) := by decide +kernel
theorem dX12_determinant_28 : decode cX12_determinant 28 = .ok (.lconst 0, 1) := by decide +kernel
theorem dX12_determinant_29 : decode cX12_determinant 29 = .ok (.lcmp, 1) := by decide +kernel
theorem dX12_determinant_30 : decode cX12_determinant 30 = .ok (.ifCond .ne 9, 3) := by decide +kernel
theorem dX12_determinant_33 : decode cX12_determinant 33 = .ok (.iinc 3 1, 3) := by decide +kernel
theorem dX12_determinant_36 : decode cX12_determinant 36 = .ok (.goto (-14), 3) := by decide +kernel
theorem dX12_determinant_39 : decode cX12_determinant 39 = .ok (.lconst 0, 1) := by decide +kernel
theorem dX12_determinant_40 : decode cX12_determinant 40 = .ok (.lstore 4, 2) := by decide +kernel
theorem dX12_determinant_42 : decode cX12_determinant 42 = .ok (.iload_n 3, 1) := by decide +kernel
theorem dX12_determinant_43 : decode cX12_determinant 43 = .ok (.istore 6, 2) := by decide +kernel
theorem dX12_determinant_45 : decode cX12_determinant 45 = .ok (.iload 6, 2) := by decide +kernel
theorem dX12_determinant_47 : decode cX12_determinant 47 = .ok (.sipush 601, 3) := by decide +kernel
theorem dX12_determinant_50 : decode cX12_determinant 50 = .ok (.if_icmp .ge 42, 3) := by decide +kernel
theorem dX12_determinant_53 : decode cX12_determinant 53 = .ok (.lload 4, 2) := by decide +kernel
theorem dX12_determinant_55 : decode cX12_determinant 55 = .ok (.iload 6, 2) := by decide +kernel
theorem dX12_determinant_57 : decode cX12_determinant 57 = .ok (.iload_n 3, 1) := by decide +kernel
theorem dX12_determinant_58 : decode cX12_determinant 58 = .ok (.isub, 1) := by decide +kernel
theorem dX12_determinant_59 : decode cX12_determinant 59 = .ok (.bipush 8, 2) := by decide +kernel
theorem dX12_determinant_61 : decode cX12_determinant 61 = .ok (.irem, 1) := by decide +kernel
theorem dX12_determinant_62 : decode cX12_determinant 62 = .ok (.ifCond .ne 13, 3) := by decide +kernel
theorem dX12_determinant_65 : decode cX12_determinant 65 = .ok (.aload_n 0, 1) := by decide +kernel
theorem dX12_determinant_66 : decode cX12_determinant 66 = .ok (.getfield 67, 3) := by decide +kernel
theorem dX12_determinant_69 : decode cX12_determinant 69 = .ok (.iload 6, 2) := by decide +kernel
theorem dX12_determinant_71 : decode cX12_determinant 71 = .ok (.laload, 1) := by decide +kernel
theorem dX12_determinant_72 : decode cX12_determinant 72 = .ok (.goto 11, 3) := by decide +kernel
theorem dX12_determinant_75 : decode cX12_determinant 75 = .ok (.aload_n 0, 1) := by decide +kernel
theorem dX12_determinant_76 : decode cX12_determinant 76 = .ok (.getfield 67, 3) := by decide +kernel
theorem dX12_determinant_79 : decode cX12_determinant 79 = .ok (.iload 6, 2) := by decide +kernel
theorem dX12_determinant_81 : decode cX12_determinant 81 = .ok (.laload, 1) := by decide +kernel
theorem dX12_determinant_82 : decode cX12_determinant 82 = .ok (.lneg, 1) := by decide +kernel
theorem dX12_determinant_83 : decode cX12_determinant 83 = .ok (.ladd, 1) := by decide +kernel
theorem dX12_determinant_84 : decode cX12_determinant 84 = .ok (.lstore 4, 2) := by decide +kernel
theorem dX12_determinant_86 : decode cX12_determinant 86 = .ok (.iinc 6 4, 3) := by decide +kernel
theorem dX12_determinant_89 : decode cX12_determinant 89 = .ok (.goto (-44), 3) := by decide +kernel
theorem dX12_determinant_92 : decode cX12_determinant 92 = .ok (.aload_n 0, 1) := by decide +kernel
theorem dX12_determinant_93 : decode cX12_determinant 93 = .ok (.iconst 1, 1) := by decide +kernel
theorem dX12_determinant_94 : decode cX12_determinant 94 = .ok (.invokevirtual 180, 3) := by decide +kernel
theorem dX12_determinant_97 : decode cX12_determinant 97 = .ok (.istore 6, 2) := by decide +kernel
theorem dX12_determinant_99 : decode cX12_determinant 99 = .ok (.lload 4, 2) := by decide +kernel
theorem dX12_determinant_101 : decode cX12_determinant 101 = .ok (.lconst 0, 1) := by decide +kernel
theorem dX12_determinant_102 : decode cX12_determinant 102 = .ok (.lcmp, 1) := by decide +kernel
theorem dX12_determinant_103 : decode cX12_determinant 103 = .ok (.ifCond .ge 9, 3) := by decide +kernel
theorem dX12_determinant_106 : decode cX12_determinant 106 = .ok (.lload 4, 2) := by decide +kernel
theorem dX12_determinant_108 : decode cX12_determinant 108 = .ok (.lneg, 1) := by decide +kernel
theorem dX12_determinant_109 : decode cX12_determinant 109 = .ok (.goto 5, 3) := by decide +kernel
theorem dX12_determinant_112 : decode cX12_determinant 112 = .ok (.lload 4, 2) := by decide +kernel
theorem dX12_determinant_114 : decode cX12_determinant 114 = .ok (.lreturn, 1) := by decide +kernel
theorem dX12_gauss_0 : decode cX12_gauss 0 = .ok (.aload_n 0, 1) := by decide +kernel
theorem dX12_gauss_1 : decode cX12_gauss 1 = .ok (.iload_n 1, 1) := by decide +kernel
theorem dX12_gauss_2 : decode cX12_gauss 2 = .ok (.invokevirtual 237, 3) := by decide +kernel
theorem dX12_gauss_5 : decode cX12_gauss 5 = .ok (.istore_n 2, 1) := by decide +kernel
theorem dX12_gauss_6 : decode cX12_gauss 6 = .ok (.iload_n 2, 1) := by decide +kernel
theorem dX12_gauss_7 : decode cX12_gauss 7 = .ok (.ifCond .ge 5, 3) := by decide +kernel
theorem dX12_gauss_10 : decode cX12_gauss 10 = .ok (.iload_n 2, 1) := by decide +kernel
theorem dX12_gauss_11 : decode cX12_gauss 11 = .ok (.ireturn, 1) := by decide +kernel
theorem dX12_gauss_12 : decode cX12_gauss 12 = .ok (.aload_n 0, 1) := by decide +kernel
theorem dX12_gauss_13 : decode cX12_gauss 13 = .ok (.iload_n 1, 1) := by decide +kernel
theorem dX12_gauss_14 : decode cX12_gauss 14 = .ok (.invokevirtual 229, 3) := by decide +kernel
theorem dX12_gauss_17 : decode cX12_gauss 17 = .ok (.istore_n 3, 1) := by decide +kernel
theorem dX12_gauss_18 : decode cX12_gauss 18 = .ok (.aload_n 0, 1) := by decide +kernel
theorem dX12_gauss_19 : decode cX12_gauss 19 = .ok (.iconst 0, 1) := by decide +kernel
theorem dX12_gauss_20 : decode cX12_gauss 20 = .ok (.putfield 281, 3) := by decide +kernel
theorem dX12_gauss_23 : decode cX12_gauss 23 = .ok (.iconst 0, 1) := by decide +kernel
theorem dX12_gauss_24 : decode cX12_gauss 24 = .ok (.istore 4, 2) := by decide +kernel
theorem dX12_gauss_26 : decode cX12_gauss 26 = .ok (.iconst 0, 1) := by decide +kernel
theorem dX12_gauss_27 : decode cX12_gauss 27 = .ok (.istore 5, 2) := by decide +kernel
theorem dX12_gauss_29 : decode cX12_gauss 29 = .ok (.iload 5, 2) := by decide +kernel
theorem dX12_gauss_31 : decode cX12_gauss 31 = .ok (.iconst 4, 1) := by decide +kernel
theorem dX12_gauss_32 : decode cX12_gauss 32 = .ok (.aload_n 0, 1) := by decide +kernel
theorem dX12_gauss_33 : decode cX12_gauss 33 = .ok (.getfield 13, 3) := by decide +kernel
theorem dX12_gauss_36 : decode cX12_gauss 36 = .ok (.iload_n 1, 1) := by decide +kernel
theorem dX12_gauss_37 : decode cX12_gauss 37 = .ok (.iaload, 1) := by decide +kernel
theorem dX12_gauss_38 : decode cX12_gauss 38 = .ok (.imul, 1) := by decide +kernel
theorem dX12_gauss_39 : decode cX12_gauss 39 = .ok (.if_icmp .ge 129, 3) := by decide +kernel
theorem dX12_gauss_42 : decode cX12_gauss 42 = .ok (.aload_n 0, 1) := by decide +kernel
theorem dX12_gauss_43 : decode cX12_gauss 43 = .ok (.getfield 55, 3) := by decide +kernel
theorem dX12_gauss_46 : decode cX12_gauss 46 = .ok (.iload 5, 2) := by decide +kernel
theorem dX12_gauss_48 : decode cX12_gauss 48 = .ok (.iaload, 1) := by decide +kernel
theorem dX12_gauss_49 : decode cX12_gauss 49 = .ok (.iload 4, 2) := by decide +kernel
theorem dX12_gauss_51 : decode cX12_gauss 51 = .ok (.if_icmp .ne 111, 3) := by decide +kernel
theorem dX12_gauss_54 : decode cX12_gauss 54 = .ok (.iinc 4 1, 3) := by decide +kernel
theorem dX12_gauss_57 : decode cX12_gauss 57 = .ok (.iload 5, 2) := by decide +kernel
theorem dX12_gauss_59 : decode cX12_gauss 59 = .ok (.istore 6, 2) := by decide +kernel
theorem dX12_gauss_61 : decode cX12_gauss 61 = .ok (.aload_n 0, 1) := by decide +kernel
theorem dX12_gauss_62 : decode cX12_gauss 62 = .ok (.getfield 36, 3) := by decide +kernel
theorem dX12_gauss_65 : decode cX12_gauss 65 = .ok (.iload 6, 2) := by decide +kernel
theorem dX12_gauss_67 : decode cX12_gauss 67 = .ok (.iaload, 1) := by decide +kernel
theorem dX12_gauss_68 : decode cX12_gauss 68 = .ok (.istore 7, 2) := by decide +kernel
theorem dX12_gauss_70 : decode cX12_gauss 70 = .ok (.aload_n 0, 1) := by decide +kernel
theorem dX12_gauss_71 : decode cX12_gauss 71 = .ok (.getfield 86, 3) := by decide +kernel
theorem dX12_gauss_74 : decode cX12_gauss 74 = .ok (.aload_n 0, 1) := by decide +kernel
theorem dX12_gauss_75 : decode cX12_gauss 75 = .ok (.getfield 281, 3) := by decide +kernel
theorem dX12_gauss_78 : decode cX12_gauss 78 = .ok (.iload 7, 2) := by decide +kernel
theorem dX12_gauss_80 : decode cX12_gauss 80 = .ok (.iconst 4, 1) := by decide +kernel
theorem dX12_gauss_81 : decode cX12_gauss 81 = .ok (.idiv, 1) := by decide +kernel
theorem dX12_gauss_82 : decode cX12_gauss 82 = .ok (.iconst 4, 1) := by decide +kernel
theorem dX12_gauss_83 : decode cX12_gauss 83 = .ok (.imul, 1) := by decide +kernel
theorem dX12_gauss_84 : decode cX12_gauss 84 = .ok (.iload 7, 2) := by decide +kernel
theorem dX12_gauss_86 : decode cX12_gauss 86 = .ok (.iconst 2, 1) := by decide +kernel
theorem dX12_gauss_87 : decode cX12_gauss 87 = .ok (.irem, 1) := by decide +kernel
theorem dX12_gauss_88 : decode cX12_gauss 88 = .ok (.iconst 1, 1) := by decide +kernel
theorem dX12_gauss_89 : decode cX12_gauss 89 = .ok (.if_icmp .ne 7, 3) := by decide +kernel
theorem dX12_gauss_92 : decode cX12_gauss 92 = .ok (.iconst 2, 1) := by decide +kernel
theorem dX12_gauss_93 : decode cX12_gauss 93 = .ok (.goto 4, 3) := by decide +kernel
theorem dX12_gauss_96 : decode cX12_gauss 96 = .ok (.iconst 0, 1) := by decide +kernel
theorem dX12_gauss_97 : decode cX12_gauss 97 = .ok (.iadd, 1) := by decide +kernel
theorem dX12_gauss_98 : decode cX12_gauss 98 = .ok (.aload_n 0, 1) := by decide +kernel
theorem dX12_gauss_99 : decode cX12_gauss 99 = .ok (.iload 7, 2) := by decide +kernel
theorem dX12_gauss_101 : decode cX12_gauss 101 = .ok (.iconst 4, 1) := by decide +kernel
theorem dX12_gauss_102 : decode cX12_gauss 102 = .ok (.idiv, 1) := by decide +kernel
theorem dX12_gauss_103 : decode cX12_gauss 103 = .ok (.invokevirtual 232, 3) := by decide +kernel
theorem dX12_gauss_106 : decode cX12_gauss 106 = .ok (.iconst 1, 1) := by decide +kernel
theorem dX12_gauss_107 : decode cX12_gauss 107 = .ok (.if_icmp .ne 7, 3) := by decide +kernel
theorem dX12_gauss_110 : decode cX12_gauss 110 = .ok (.iconst 1, 1) := by decide +kernel
theorem dX12_gauss_111 : decode cX12_gauss 111 = .ok (.goto 4, 3) := by decide +kernel
theorem dX12_gauss_114 : decode cX12_gauss 114 = .ok (.iconst 0, 1) := by decide +kernel
theorem dX12_gauss_115 : decode cX12_gauss 115 = .ok (.iadd, 1) := by decide +kernel
theorem dX12_gauss_116 : decode cX12_gauss 116 = .ok (.iastore, 1) := by decide +kernel
theorem dX12_gauss_117 : decode cX12_gauss 117 = .ok (.aload_n 0, 1) := by decide +kernel
theorem dX12_gauss_118 : decode cX12_gauss 118 = .ok (.dup, 1) := by decide +kernel
theorem dX12_gauss_119 : decode cX12_gauss 119 = .ok (.getfield 281, 3) := by decide +kernel
theorem dX12_gauss_122 : decode cX12_gauss 122 = .ok (.iconst 1, 1) := by decide +kernel
theorem dX12_gauss_123 : decode cX12_gauss 123 = .ok (.iadd, 1) := by decide +kernel
theorem dX12_gauss_124 : decode cX12_gauss 124 = .ok (.putfield 281, 3) := by decide +kernel
theorem dX12_gauss_127 : decode cX12_gauss 127 = .ok (.iload 7, 2) := by decide +kernel
theorem dX12_gauss_129 : decode cX12_gauss 129 = .ok (.iconst 2, 1) := by decide +kernel
theorem dX12_gauss_130 : decode cX12_gauss 130 = .ok (.invokestatic 209, 3) := by decide +kernel
theorem dX12_gauss_133 : decode cX12_gauss 133 = .ok (.istore 6, 2) := by decide +kernel
theorem dX12_gauss_135 : decode cX12_gauss 135 = .ok (.iload 6, 2) := by decide +kernel
theorem dX12_gauss_137 : decode cX12_gauss 137 = .ok (.iload 5, 2) := by decide +kernel
theorem dX12_gauss_139 : decode cX12_gauss 139 = .ok (.if_icmp .ne (-78), 3) := by decide +kernel
theorem dX12_gauss_142 : decode cX12_gauss 142 = .ok (.aload_n 0, 1) := by decide +kernel
theorem dX12_gauss_143 : decode cX12_gauss 143 = .ok (.getfield 86, 3) := by decide +kernel
theorem dX12_gauss_146 : decode cX12_gauss 146 = .ok (.aload_n 0, 1) := by decide +kernel
theorem dX12_gauss_147 : decode cX12_gauss 147 = .ok (.getfield 281, 3) := by decide +kernel
theorem dX12_gauss_150 : decode cX12_gauss 150 = .ok (.iconst (-1), 1) := by decide +kernel
theorem dX12_gauss_151 : decode cX12_gauss 151 = .ok (.iastore, 1) := by decide +kernel
theorem dX12_gauss_152 : decode cX12_gauss 152 = .ok (.aload_n 0, 1) := by decide +kernel
theorem dX12_gauss_153 : decode cX12_gauss 153 = .ok (.dup, 1) := by decide +kernel
theorem dX12_gauss_154 : decode cX12_gauss 154 = .ok (.getfield 281, 3) := by decide +kernel
theorem dX12_gauss_157 : decode cX12_gauss 157 = .ok (.iconst 1, 1) := by decide +kernel
theorem dX12_gauss_158 : decode cX12_gauss 158 = .ok (.iadd, 1) := by decide +kernel
theorem dX12_gauss_159 : decode cX12_gauss 159 = .ok (.putfield 281, 3) := by decide +kernel
theorem dX12_gauss_162 : decode cX12_gauss 162 = .ok (.iinc 5 1, 3) := by decide +kernel
theorem dX12_gauss_165 : decode cX12_gauss 165 = .ok (.goto (-136), 3) := by decide +kernel
theorem dX12_gauss_168 : decode cX12_gauss 168 = .ok (.aload_n 0, 1) := by decide +kernel
theorem dX12_gauss_169 : decode cX12_gauss 169 = .ok (.getfield 86, 3) := by decide +kernel
theorem dX12_gauss_172 : decode cX12_gauss 172 = .ok (.aload_n 0, 1) := by decide +kernel
theorem dX12_gauss_173 : decode cX12_gauss 173 = .ok (.getfield 281, 3) := by decide +kernel
theorem dX12_gauss_176 : decode cX12_gauss 176 = .ok (.bipush (-2), 2) := by decide +kernel
theorem dX12_gauss_178 : decode cX12_gauss 178 = .ok (.aload_n 0, 1) := by decide +kernel
theorem dX12_gauss_179 : decode cX12_gauss 179 = .ok (.getfield 16, 3) := by decide +kernel
theorem dX12_gauss_182 : decode cX12_gauss 182 = .ok (.iload_n 1, 1) := by decide +kernel
theorem dX12_gauss_183 : decode cX12_gauss 183 = .ok (.iaload, 1) := by decide +kernel
theorem dX12_gauss_184 : decode cX12_gauss 184 = .ok (.isub, 1) := by decide +kernel
theorem dX12_gauss_185 : decode cX12_gauss 185 = .ok (.iastore, 1) := by decide +kernel
theorem dX12_gauss_186 : decode cX12_gauss 186 = .ok (.aload_n 0, 1) := by decide +kernel
theorem dX12_gauss_187 : decode cX12_gauss 187 = .ok (.dup, 1) := by decide +kernel
theorem dX12_gauss_188 : decode cX12_gauss 188 = .ok (.getfield 281, 3) := by decide +kernel
theorem dX12_gauss_191 : decode cX12_gauss 191 = .ok (.iconst 1, 1) := by decide +kernel
theorem dX12_gauss_192 : decode cX12_gauss 192 = .ok (.iadd, 1) := by decide +kernel
theorem dX12_gauss_193 : decode cX12_gauss 193 = .ok (.putfield 281, 3) := by decide +kernel
theorem dX12_gauss_196 : decode cX12_gauss 196 = .ok (.aload_n 0, 1) := by decide +kernel
theorem dX12_gauss_197 : decode cX12_gauss 197 = .ok (.aload_n 0, 1) := by decide +kernel
theorem dX12_gauss_198 : decode cX12_gauss 198 = .ok (.getfield 281, 3) := by decide +kernel
theorem dX12_gauss_201 : decode cX12_gauss 201 = .ok (.invokevirtual 180, 3) := by decide +kernel
theorem dX12_gauss_204 : decode cX12_gauss 204 = .ok (.ireturn, 1) := by decide +kernel
theorem dX12_type_0 : decode cX12_type 0 = .ok (.aload_n 0, 1) := by decide +kernel
theorem dX12_type_1 : decode cX12_type 1 = .ok (.getfield 281, 3) := by decide +kernel
theorem dX12_type_4 : decode cX12_type 4 = .ok (.sipush 130, 3) := by decide +kernel
theorem dX12_type_7 : decode cX12_type 7 = .ok (.if_icmp .ne 10, 3) := by decide +kernel
theorem dX12_type_10 : decode cX12_type 10 = .ok (.aload_n 0, 1) := by decide +kernel
theorem dX12_type_11 : decode cX12_type 11 = .ok (.bipush (-3), 2) := by decide +kernel
theorem dX12_type_13 : decode cX12_type 13 = .ok (.invokevirtual 165, 3) := by decide +kernel
theorem dX12_type_16 : decode cX12_type 16 = .ok (.ireturn, 1) := by decide +kernel
theorem dX12_type_17 : decode cX12_type 17 = .ok (.aload_n 0, 1) := by decide +kernel
theorem dX12_type_18 : decode cX12_type 18 = .ok (.getfield 86, 3) := by decide +kernel
theorem dX12_type_21 : decode cX12_type 21 = .ok (.aload_n 0, 1) := by decide +kernel
theorem dX12_type_22 : decode cX12_type 22 = .ok (.getfield 281, 3) := by decide +kernel
theorem dX12_type_25 : decode cX12_type 25 = .ok (.iload_n 1, 1) := by decide +kernel
theorem dX12_type_26 : decode cX12_type 26 = .ok (.iastore, 1) := by decide +kernel
theorem dX12_type_27 : decode cX12_type 27 = .ok (.aload_n 0, 1) := by decide +kernel
theorem dX12_type_28 : decode cX12_type 28 = .ok (.dup, 1) := by decide +kernel
theorem dX12_type_29 : decode cX12_type 29 = .ok (.getfield 281, 3) := by decide +kernel
theorem dX12_type_32 : decode cX12_type 32 = .ok (.iconst 1, 1) := by decide +kernel
theorem dX12_type_33 : decode cX12_type 33 = .ok (.iadd, 1) := by decide +kernel
theorem dX12_type_34 : decode cX12_type 34 = .ok (.putfield 281, 3) := by decide +kernel
theorem dX12_type_37 : decode cX12_type 37 = .ok (.aload_n 0, 1) := by decide +kernel
theorem dX12_type_38 : decode cX12_type 38 = .ok (.aload_n 0, 1) := by decide +kernel
theorem dX12_type_39 : decode cX12_type 39 = .ok (.getfield 281, 3) := by decide +kernel
theorem dX12_type_42 : decode cX12_type 42 = .ok (.invokevirtual 180, 3) := by decide +kernel
theorem dX12_type_45 : decode cX12_type 45 = .ok (.ireturn, 1) := by decide +kernel
theorem dX12_clear_0 : decode cX12_clear 0 = .ok (.aload_n 0, 1) := by decide +kernel
theorem dX12_clear_1 : decode cX12_clear 1 = .ok (.getfield 281, 3) := by decide +kernel
theorem dX12_clear_4 : decode cX12_clear 4 = .ok (.istore_n 1, 1) := by decide +kernel
theorem dX12_clear_5 : decode cX12_clear 5 = .ok (.aload_n 0, 1) := by decide +kernel
theorem dX12_clear_6 : decode cX12_clear 6 = .ok (.iconst 0, 1) := by decide +kernel
theorem dX12_clear_7 : decode cX12_clear 7 = .ok (.putfield 281, 3) := by decide +kernel
theorem dX12_clear_10 : decode cX12_clear 10 = .ok (.aload_n 0, 1) := by decide +kernel
theorem dX12_clear_11 : decode cX12_clear 11 = .ok (.iload_n 1, 1) := by decide +kernel
theorem dX12_clear_12 : decode cX12_clear 12 = .ok (.invokevirtual 180, 3) := by decide +kernel
theorem dX12_clear_15 : decode cX12_clear 15 = .ok (.ireturn, 1) := by decide +kernel
theorem dX12_item_0 : decode cX12_item 0 = .ok (.iload_n 1, 1) := by decide +kernel
theorem dX12_item_1 : decode cX12_item 1 = .ok (.i2l, 1) := by decide +kernel
theorem dX12_item_2 : decode cX12_item 2 = .ok (.lconst 0, 1) := by decide +kernel
theorem dX12_item_3 : decode cX12_item 3 = .ok (.aload_n 0, 1) := by decide +kernel
theorem dX12_item_4 : decode cX12_item 4 = .ok (.getfield 281, 3) := by decide +kernel
theorem dX12_item_7 : decode cX12_item 7 = .ok (.iconst 1, 1) := by decide +kernel
theorem dX12_item_8 : decode cX12_item 8 = .ok (.isub, 1) := by decide +kernel
theorem dX12_item_9 : decode cX12_item 9 = .ok (.i2l, 1) := by decide +kernel
theorem dX12_item_10 : decode cX12_item 10 = .ok (.invokestatic 172, 3) := by decide +kernel
theorem dX12_item_13 : decode cX12_item 13 = .ok (.ifCond .eq 12, 3) := by decide +kernel
theorem dX12_item_16 : decode cX12_item 16 = .ok (.aload_n 0, 1) := by decide +kernel
theorem dX12_item_17 : decode cX12_item 17 = .ok (.getfield 86, 3) := by decide +kernel
theorem dX12_item_20 : decode cX12_item 20 = .ok (.iload_n 1, 1) := by decide +kernel
theorem dX12_item_21 : decode cX12_item 21 = .ok (.iaload, 1) := by decide +kernel
theorem dX12_item_22 : decode cX12_item 22 = .ok (.goto 5, 3) := by decide +kernel
theorem dX12_item_25 : decode cX12_item 25 = .ok (.bipush (-2), 2) := by decide +kernel
theorem dX12_item_27 : decode cX12_item 27 = .ok (.ireturn, 1) := by decide +kernel
theorem dX12_passes_0 : decode cX12_passes 0 = .ok (.aload_n 0, 1) := by decide +kernel
theorem dX12_passes_1 : decode cX12_passes 1 = .ok (.getfield 281, 3) := by decide +kernel
theorem dX12_passes_4 : decode cX12_passes 4 = .ok (.iconst 1, 1) := by decide +kernel
theorem dX12_passes_5 : decode cX12_passes 5 = .ok (.isub, 1) := by decide +kernel
theorem dX12_passes_6 : decode cX12_passes 6 = .ok (.istore_n 1, 1) := by decide +kernel
theorem dX12_passes_7 : decode cX12_passes 7 = .ok (.iload_n 1, 1) := by decide +kernel
theorem dX12_passes_8 : decode cX12_passes 8 = .ok (.ifCond .lt 38, 3) := by decide +kernel
theorem dX12_passes_11 : decode cX12_passes 11 = .ok (.aload_n 0, 1) := by decide +kernel
theorem dX12_passes_12 : decode cX12_passes 12 = .ok (.getfield 86, 3) := by decide +kernel
theorem dX12_passes_15 : decode cX12_passes 15 = .ok (.iload_n 1, 1) := by decide +kernel
theorem dX12_passes_16 : decode cX12_passes 16 = .ok (.iaload, 1) := by decide +kernel
theorem dX12_passes_17 : decode cX12_passes 17 = .ok (.i2l, 1) := by decide +kernel
theorem dX12_passes_18 : decode cX12_passes 18 = .ok (.ldc2_w 284, 3) := by decide +kernel
theorem dX12_passes_21 : decode cX12_passes 21 = .ok (.ldc2_w 286, 3) := by decide +kernel
theorem dX12_passes_24 : decode cX12_passes 24 = .ok (.invokestatic 172, 3) := by decide +kernel
theorem dX12_passes_27 : decode cX12_passes 27 = .ok (.ifCond .eq 19, 3) := by decide +kernel
theorem dX12_passes_30 : decode cX12_passes 30 = .ok (.iload_n 1, 1) := by decide +kernel
theorem dX12_passes_31 : decode cX12_passes 31 = .ok (.ifCond .le 17, 3) := by decide +kernel
theorem dX12_passes_34 : decode cX12_passes 34 = .ok (.aload_n 0, 1) := by decide +kernel
theorem dX12_passes_35 : decode cX12_passes 35 = .ok (.getfield 86, 3) := by decide +kernel
theorem dX12_passes_38 : decode cX12_passes 38 = .ok (.iload_n 1, 1) := by decide +kernel
theorem dX12_passes_39 : decode cX12_passes 39 = .ok (.iconst 1, 1) := by decide +kernel
theorem dX12_passes_40 : decode cX12_passes 40 = .ok (.isub, 1) := by decide +kernel
theorem dX12_passes_41 : decode cX12_passes 41 = .ok (.iaload, 1) := by decide +kernel
theorem dX12_passes_42 : decode cX12_passes 42 = .ok (.iconst (-1), 1) := by decide +kernel
theorem dX12_passes_43 : decode cX12_passes 43 = .ok (.if_icmp .eq 5, 3) := by decide +kernel
theorem dX12_passes_46 : decode cX12_passes 46 = .ok (.iconst (-1), 1) := by decide +kernel
theorem dX12_passes_47 : decode cX12_passes 47 = .ok (.ireturn, 1) := by decide +kernel
theorem dX12_passes_48 : decode cX12_passes 48 = .ok (.iconst 0, 1) := by decide +kernel
theorem dX12_passes_49 : decode cX12_passes 49 = .ok (.istore_n 2, 1) := by decide +kernel
theorem dX12_passes_50 : decode cX12_passes 50 = .ok (.iload_n 2, 1) := by decide +kernel
theorem dX12_passes_51 : decode cX12_passes 51 = .ok (.bipush 40, 2) := by decide +kernel
theorem dX12_passes_53 : decode cX12_passes 53 = .ok (.if_icmp .ge 23, 3) := by decide +kernel
theorem dX12_passes_56 : decode cX12_passes 56 = .ok (.aload_n 0, 1) := by decide +kernel
theorem dX12_passes_57 : decode cX12_passes 57 = .ok (.getfield 89, 3) := by decide +kernel
theorem dX12_passes_60 : decode cX12_passes 60 = .ok (.iload_n 2, 1) := by decide +kernel
theorem dX12_passes_61 : decode cX12_passes 61 = .ok (.iconst (-1), 1) := by decide +kernel
theorem dX12_passes_62 : decode cX12_passes 62 = .ok (.iastore, 1) := by decide +kernel
theorem dX12_passes_63 : decode cX12_passes 63 = .ok (.aload_n 0, 1) := by decide +kernel
theorem dX12_passes_64 : decode cX12_passes 64 = .ok (.getfield 92, 3) := by decide +kernel
theorem dX12_passes_67 : decode cX12_passes 67 = .ok (.iload_n 2, 1) := by decide +kernel
theorem dX12_passes_68 : decode cX12_passes 68 = .ok (.iconst (-1), 1) := by decide +kernel
theorem dX12_passes_69 : decode cX12_passes 69 = .ok (.iastore, 1) := by decide +kernel
theorem dX12_passes_70 : decode cX12_passes 70 = .ok (.iinc 2 1, 3) := by decide +kernel
theorem dX12_passes_73 : decode cX12_passes 73 = .ok (.goto (-23), 3) := by decide +kernel
theorem dX12_passes_76 : decode cX12_passes 76 = .ok (.iconst 0, 1) := by decide +kernel
theorem dX12_passes_77 : decode cX12_passes 77 = .ok (.istore_n 2, 1) := by decide +kernel
theorem dX12_passes_78 : decode cX12_passes 78 = .ok (.iconst 0, 1) := by decide +kernel
theorem dX12_passes_79 : decode cX12_passes 79 = .ok (.istore_n 3, 1) := by decide +kernel
theorem dX12_passes_80 : decode cX12_passes 80 = .ok (.iconst 0, 1) := by decide +kernel
theorem dX12_passes_81 : decode cX12_passes 81 = .ok (.istore 4, 2) := by decide +kernel
theorem dX12_passes_83 : decode cX12_passes 83 = .ok (.iload 4, 2) := by decide +kernel
theorem dX12_passes_85 : decode cX12_passes 85 = .ok (.iload_n 1, 1) := by decide +kernel
theorem dX12_passes_86 : decode cX12_passes 86 = .ok (.if_icmp .ge 128, 3) := by decide +kernel
theorem dX12_passes_89 : decode cX12_passes 89 = .ok (.aload_n 0, 1) := by decide +kernel
theorem dX12_passes_90 : decode cX12_passes 90 = .ok (.getfield 86, 3) := by decide +kernel
theorem dX12_passes_93 : decode cX12_passes 93 = .ok (.iload 4, 2) := by decide +kernel
theorem dX12_passes_95 : decode cX12_passes 95 = .ok (.iaload, 1) := by decide +kernel
theorem dX12_passes_96 : decode cX12_passes 96 = .ok (.istore 5, 2) := by decide +kernel
theorem dX12_passes_98 : decode cX12_passes 98 = .ok (.iload 5, 2) := by decide +kernel
theorem dX12_passes_100 : decode cX12_passes 100 = .ok (.iconst (-1), 1) := by decide +kernel
theorem dX12_passes_101 : decode cX12_passes 101 = .ok (.if_icmp .ne 22, 3) := by decide +kernel
theorem dX12_passes_104 : decode cX12_passes 104 = .ok (.iload_n 2, 1) := by decide +kernel
theorem dX12_passes_105 : decode cX12_passes 105 = .ok (.iload_n 3, 1) := by decide +kernel
theorem dX12_passes_106 : decode cX12_passes 106 = .ok (.if_icmp .le 17, 3) := by decide +kernel
theorem dX12_passes_109 : decode cX12_passes 109 = .ok (.aload_n 0, 1) := by decide +kernel
theorem dX12_passes_110 : decode cX12_passes 110 = .ok (.getfield 95, 3) := by decide +kernel
theorem dX12_passes_113 : decode cX12_passes 113 = .ok (.iload_n 3, 1) := by decide +kernel
theorem dX12_passes_114 : decode cX12_passes 114 = .ok (.iload_n 2, 1) := by decide +kernel
theorem dX12_passes_115 : decode cX12_passes 115 = .ok (.iconst 1, 1) := by decide +kernel
theorem dX12_passes_116 : decode cX12_passes 116 = .ok (.isub, 1) := by decide +kernel
theorem dX12_passes_117 : decode cX12_passes 117 = .ok (.iastore, 1) := by decide +kernel
theorem dX12_passes_118 : decode cX12_passes 118 = .ok (.iload_n 2, 1) := by decide +kernel
theorem dX12_passes_119 : decode cX12_passes 119 = .ok (.istore_n 3, 1) := by decide +kernel
theorem dX12_passes_120 : decode cX12_passes 120 = .ok (.goto 88, 3) := by decide +kernel
theorem dX12_passes_123 : decode cX12_passes 123 = .ok (.iload 5, 2) := by decide +kernel
theorem dX12_passes_125 : decode cX12_passes 125 = .ok (.i2l, 1) := by decide +kernel
theorem dX12_passes_126 : decode cX12_passes 126 = .ok (.lconst 0, 1) := by decide +kernel
theorem dX12_passes_127 : decode cX12_passes 127 = .ok (.ldc2_w 288, 3) := by decide +kernel
theorem dX12_passes_130 : decode cX12_passes 130 = .ok (.invokestatic 172, 3) := by decide +kernel
theorem dX12_passes_133 : decode cX12_passes 133 = .ok (.ifCond .eq 30, 3) := by decide +kernel
theorem dX12_passes_136 : decode cX12_passes 136 = .ok (.iload 5, 2) := by decide +kernel
theorem dX12_passes_138 : decode cX12_passes 138 = .ok (.iconst 2, 1) := by decide +kernel
theorem dX12_passes_139 : decode cX12_passes 139 = .ok (.iand, 1) := by decide +kernel
theorem dX12_passes_140 : decode cX12_passes 140 = .ok (.ifCond .ne 10, 3) := by decide +kernel
theorem dX12_passes_143 : decode cX12_passes 143 = .ok (.aload_n 0, 1) := by decide +kernel
theorem dX12_passes_144 : decode cX12_passes 144 = .ok (.getfield 89, 3) := by decide +kernel
theorem dX12_passes_147 : decode cX12_passes 147 = .ok (.goto 7, 3) := by decide +kernel
theorem dX12_passes_150 : decode cX12_passes 150 = .ok (.aload_n 0, 1) := by decide +kernel
theorem dX12_passes_151 : decode cX12_passes 151 = .ok (.getfield 92, 3) := by decide +kernel
theorem dX12_passes_154 : decode cX12_passes 154 = .ok (.iload 5, 2) := by decide +kernel
theorem dX12_passes_156 : decode cX12_passes 156 = .ok (.iconst 4, 1) := by decide +kernel
theorem dX12_passes_157 : decode cX12_passes 157 = .ok (.idiv, 1) := by decide +kernel
theorem dX12_passes_158 : decode cX12_passes 158 = .ok (.iaload, 1) := by decide +kernel
theorem dX12_passes_159 : decode cX12_passes 159 = .ok (.iconst (-1), 1) := by decide +kernel
theorem dX12_passes_160 : decode cX12_passes 160 = .ok (.if_icmp .eq 5, 3) := by decide +kernel
theorem dX12_passes_163 : decode cX12_passes 163 = .ok (.iconst (-1), 1) := by decide +kernel
theorem dX12_passes_164 : decode cX12_passes 164 = .ok (.ireturn, 1) := by decide +kernel
theorem dX12_passes_165 : decode cX12_passes 165 = .ok (.iload 5, 2) := by decide +kernel
theorem dX12_passes_167 : decode cX12_passes 167 = .ok (.iconst 2, 1) := by decide +kernel
theorem dX12_passes_168 : decode cX12_passes 168 = .ok (.iand, 1) := by decide +kernel
theorem dX12_passes_169 : decode cX12_passes 169 = .ok (.ifCond .ne 10, 3) := by decide +kernel
theorem dX12_passes_172 : decode cX12_passes 172 = .ok (.aload_n 0, 1) := by decide +kernel
theorem dX12_passes_173 : decode cX12_passes 173 = .ok (.getfield 89, 3) := by decide +kernel
theorem dX12_passes_176 : decode cX12_passes 176 = .ok (.goto 7, 3) := by decide +kernel
theorem dX12_passes_179 : decode cX12_passes 179 = .ok (.aload_n 0, 1) := by decide +kernel
theorem dX12_passes_180 : decode cX12_passes 180 = .ok (.getfield 92, 3) := by decide +kernel
theorem dX12_passes_183 : decode cX12_passes 183 = .ok (.iload 5, 2) := by decide +kernel
theorem dX12_passes_185 : decode cX12_passes 185 = .ok (.iconst 4, 1) := by decide +kernel
theorem dX12_passes_186 : decode cX12_passes 186 = .ok (.idiv, 1) := by decide +kernel
theorem dX12_passes_187 : decode cX12_passes 187 = .ok (.iconst 2, 1) := by decide +kernel
theorem dX12_passes_188 : decode cX12_passes 188 = .ok (.iload_n 2, 1) := by decide +kernel
theorem dX12_passes_189 : decode cX12_passes 189 = .ok (.imul, 1) := by decide +kernel
theorem dX12_passes_190 : decode cX12_passes 190 = .ok (.iload 5, 2) := by decide +kernel
theorem dX12_passes_192 : decode cX12_passes 192 = .ok (.iconst 1, 1) := by decide +kernel
theorem dX12_passes_193 : decode cX12_passes 193 = .ok (.iand, 1) := by decide +kernel
theorem dX12_passes_194 : decode cX12_passes 194 = .ok (.iadd, 1) := by decide +kernel
theorem dX12_passes_195 : decode cX12_passes 195 = .ok (.iastore, 1) := by decide +kernel
theorem dX12_passes_196 : decode cX12_passes 196 = .ok (.aload_n 0, 1) := by decide +kernel
theorem dX12_passes_197 : decode cX12_passes 197 = .ok (.getfield 95, 3) := by decide +kernel
theorem dX12_passes_200 : decode cX12_passes 200 = .ok (.iload_n 2, 1) := by decide +kernel
theorem dX12_passes_201 : decode cX12_passes 201 = .ok (.iload_n 2, 1) := by decide +kernel
theorem dX12_passes_202 : decode cX12_passes 202 = .ok (.iconst 1, 1) := by decide +kernel
theorem dX12_passes_203 : decode cX12_passes 203 = .ok (.isub, 1) := by decide +kernel
theorem dX12_passes_204 : decode cX12_passes 204 = .ok (.iastore, 1) := by decide +kernel
theorem dX12_passes_205 : decode cX12_passes 205 = .ok (.iinc 2 1, 3) := by decide +kernel
theorem dX12_passes_208 : decode cX12_passes 208 = .ok (.iinc 4 1, 3) := by decide +kernel
theorem dX12_passes_211 : decode cX12_passes 211 = .ok (.goto (-128), 3) := by decide +kernel
theorem dX12_passes_214 : decode cX12_passes 214 = .ok (.iload_n 2, 1) := by decide +kernel
theorem dX12_passes_215 : decode cX12_passes 215 = .ok (.ireturn, 1) := by decide +kernel
theorem dX12_readsGauss_0 : decode cX12_readsGauss 0 = .ok (.aload_n 0, 1) := by decide +kernel
theorem dX12_readsGauss_1 : decode cX12_readsGauss 1 = .ok (.invokevirtual 290, 3) := by decide +kernel
theorem dX12_readsGauss_4 : decode cX12_readsGauss 4 = .ok (.istore_n 1, 1) := by decide +kernel
theorem dX12_readsGauss_5 : decode cX12_readsGauss 5 = .ok (.iload_n 1, 1) := by decide +kernel
theorem dX12_readsGauss_6 : decode cX12_readsGauss 6 = .ok (.ifCond .lt 10, 3) := by decide +kernel
theorem dX12_readsGauss_9 : decode cX12_readsGauss 9 = .ok (.iload_n 1, 1) := by decide +kernel
theorem dX12_readsGauss_10 : decode cX12_readsGauss 10 = .ok (.iconst 2, 1) := by decide +kernel
theorem dX12_readsGauss_11 : decode cX12_readsGauss 11 = .ok (.irem, 1) := by decide +kernel
theorem dX12_readsGauss_12 : decode cX12_readsGauss 12 = .ok (.iconst 1, 1) := by decide +kernel
theorem dX12_readsGauss_13 : decode cX12_readsGauss 13 = .ok (.if_icmp .ne 5, 3) := by decide +kernel
theorem dX12_readsGauss_16 : decode cX12_readsGauss 16 = .ok (.iconst 0, 1) := by decide +kernel
theorem dX12_readsGauss_17 : decode cX12_readsGauss 17 = .ok (.ireturn, 1) := by decide +kernel
theorem dX12_readsGauss_18 : decode cX12_readsGauss 18 = .ok (.aload_n 0, 1) := by decide +kernel
theorem dX12_readsGauss_19 : decode cX12_readsGauss 19 = .ok (.getfield 13, 3) := by decide +kernel
theorem dX12_readsGauss_22 : decode cX12_readsGauss 22 = .ok (.sipush 364, 3) := by decide +kernel
theorem dX12_readsGauss_25 : decode cX12_readsGauss 25 = .ok (.iconst 0, 1) := by decide +kernel
theorem dX12_readsGauss_26 : decode cX12_readsGauss 26 = .ok (.iastore, 1) := by decide +kernel
theorem dX12_readsGauss_27 : decode cX12_readsGauss 27 = .ok (.aload_n 0, 1) := by decide +kernel
theorem dX12_readsGauss_28 : decode cX12_readsGauss 28 = .ok (.getfield 16, 3) := by decide +kernel
theorem dX12_readsGauss_31 : decode cX12_readsGauss 31 = .ok (.sipush 364, 3) := by decide +kernel
theorem dX12_readsGauss_34 : decode cX12_readsGauss 34 = .ok (.bipush (-2), 2) := by decide +kernel
theorem dX12_readsGauss_36 : decode cX12_readsGauss 36 = .ok (.aload_n 0, 1) := by decide +kernel
theorem dX12_readsGauss_37 : decode cX12_readsGauss 37 = .ok (.getfield 86, 3) := by decide +kernel
theorem dX12_readsGauss_40 : decode cX12_readsGauss 40 = .ok (.aload_n 0, 1) := by decide +kernel
theorem dX12_readsGauss_41 : decode cX12_readsGauss 41 = .ok (.getfield 281, 3) := by decide +kernel
theorem dX12_readsGauss_44 : decode cX12_readsGauss 44 = .ok (.iconst 1, 1) := by decide +kernel
theorem dX12_readsGauss_45 : decode cX12_readsGauss 45 = .ok (.isub, 1) := by decide +kernel
theorem dX12_readsGauss_46 : decode cX12_readsGauss 46 = .ok (.iaload, 1) := by decide +kernel
theorem dX12_readsGauss_47 : decode cX12_readsGauss 47 = .ok (.isub, 1) := by decide +kernel
theorem dX12_readsGauss_48 : decode cX12_readsGauss 48 = .ok (.iastore, 1) := by decide +kernel
theorem dX12_readsGauss_49 : decode cX12_readsGauss 49 = .ok (.iconst 0, 1) := by decide +kernel
theorem dX12_readsGauss_50 : decode cX12_readsGauss 50 = .ok (.istore_n 2, 1) := by decide +kernel
theorem dX12_readsGauss_51 : decode cX12_readsGauss 51 = .ok (.iload_n 2, 1) := by decide +kernel
theorem dX12_readsGauss_52 : decode cX12_readsGauss 52 = .ok (.iload_n 1, 1) := by decide +kernel
theorem dX12_readsGauss_53 : decode cX12_readsGauss 53 = .ok (.iconst 2, 1) := by decide +kernel
theorem dX12_readsGauss_54 : decode cX12_readsGauss 54 = .ok (.idiv, 1) := by decide +kernel
theorem dX12_readsGauss_55 : decode cX12_readsGauss 55 = .ok (.if_icmp .ge 128, 3) := by decide +kernel
theorem dX12_readsGauss_58 : decode cX12_readsGauss 58 = .ok (.aload_n 0, 1) := by decide +kernel
theorem dX12_readsGauss_59 : decode cX12_readsGauss 59 = .ok (.getfield 89, 3) := by decide +kernel
theorem dX12_readsGauss_62 : decode cX12_readsGauss 62 = .ok (.iload_n 2, 1) := by decide +kernel
theorem dX12_readsGauss_63 : decode cX12_readsGauss 63 = .ok (.iaload, 1) := by decide +kernel
theorem dX12_readsGauss_64 : decode cX12_readsGauss 64 = .ok (.ifCond .lt 31, 3) := by decide +kernel
theorem dX12_readsGauss_67 : decode cX12_readsGauss 67 = .ok (.aload_n 0, 1) := by decide +kernel
theorem dX12_readsGauss_68 : decode cX12_readsGauss 68 = .ok (.getfield 92, 3) := by decide +kernel
theorem dX12_readsGauss_71 : decode cX12_readsGauss 71 = .ok (.iload_n 2, 1) := by decide +kernel
theorem dX12_readsGauss_72 : decode cX12_readsGauss 72 = .ok (.iaload, 1) := by decide +kernel
theorem dX12_readsGauss_73 : decode cX12_readsGauss 73 = .ok (.ifCond .lt 22, 3) := by decide +kernel
theorem dX12_readsGauss_76 : decode cX12_readsGauss 76 = .ok (.aload_n 0, 1) := by decide +kernel
theorem dX12_readsGauss_77 : decode cX12_readsGauss 77 = .ok (.getfield 89, 3) := by decide +kernel
theorem dX12_readsGauss_80 : decode cX12_readsGauss 80 = .ok (.iload_n 2, 1) := by decide +kernel
theorem dX12_readsGauss_81 : decode cX12_readsGauss 81 = .ok (.iaload, 1) := by decide +kernel
theorem dX12_readsGauss_82 : decode cX12_readsGauss 82 = .ok (.iconst 1, 1) := by decide +kernel
theorem dX12_readsGauss_83 : decode cX12_readsGauss 83 = .ok (.iand, 1) := by decide +kernel
theorem dX12_readsGauss_84 : decode cX12_readsGauss 84 = .ok (.aload_n 0, 1) := by decide +kernel
theorem dX12_readsGauss_85 : decode cX12_readsGauss 85 = .ok (.getfield 92, 3) := by decide +kernel
theorem dX12_readsGauss_88 : decode cX12_readsGauss 88 = .ok (.iload_n 2, 1) := by decide +kernel
theorem dX12_readsGauss_89 : decode cX12_readsGauss 89 = .ok (.iaload, 1) := by decide +kernel
theorem dX12_readsGauss_90 : decode cX12_readsGauss 90 = .ok (.iconst 1, 1) := by decide +kernel
theorem dX12_readsGauss_91 : decode cX12_readsGauss 91 = .ok (.iand, 1) := by decide +kernel
theorem dX12_readsGauss_92 : decode cX12_readsGauss 92 = .ok (.if_icmp .eq 5, 3) := by decide +kernel
theorem dX12_readsGauss_95 : decode cX12_readsGauss 95 = .ok (.iconst 0, 1) := by decide +kernel
theorem dX12_readsGauss_96 : decode cX12_readsGauss 96 = .ok (.ireturn, 1) := by decide +kernel
theorem dX12_readsGauss_97 : decode cX12_readsGauss 97 = .ok (.aload_n 0, 1) := by decide +kernel
theorem dX12_readsGauss_98 : decode cX12_readsGauss 98 = .ok (.getfield 89, 3) := by decide +kernel
theorem dX12_readsGauss_101 : decode cX12_readsGauss 101 = .ok (.iload_n 2, 1) := by decide +kernel
theorem dX12_readsGauss_102 : decode cX12_readsGauss 102 = .ok (.iaload, 1) := by decide +kernel
theorem dX12_readsGauss_103 : decode cX12_readsGauss 103 = .ok (.iconst 2, 1) := by decide +kernel
theorem dX12_readsGauss_104 : decode cX12_readsGauss 104 = .ok (.idiv, 1) := by decide +kernel
theorem dX12_readsGauss_105 : decode cX12_readsGauss 105 = .ok (.istore_n 3, 1) := by decide +kernel
theorem dX12_readsGauss_106 : decode cX12_readsGauss 106 = .ok (.aload_n 0, 1) := by decide +kernel
theorem dX12_readsGauss_107 : decode cX12_readsGauss 107 = .ok (.getfield 92, 3) := by decide +kernel
theorem dX12_readsGauss_110 : decode cX12_readsGauss 110 = .ok (.iload_n 2, 1) := by decide +kernel
theorem dX12_readsGauss_111 : decode cX12_readsGauss 111 = .ok (.iaload, 1) := by decide +kernel
theorem dX12_readsGauss_112 : decode cX12_readsGauss 112 = .ok (.iconst 2, 1) := by decide +kernel
theorem dX12_readsGauss_113 : decode cX12_readsGauss 113 = .ok (.idiv, 1) := by decide +kernel
theorem dX12_readsGauss_114 : decode cX12_readsGauss 114 = .ok (.istore 4, 2) := by decide +kernel
theorem dX12_readsGauss_116 : decode cX12_readsGauss 116 = .ok (.aload_n 0, 1) := by decide +kernel
theorem dX12_readsGauss_117 : decode cX12_readsGauss 117 = .ok (.getfield 89, 3) := by decide +kernel
theorem dX12_readsGauss_120 : decode cX12_readsGauss 120 = .ok (.iload_n 2, 1) := by decide +kernel
theorem dX12_readsGauss_121 : decode cX12_readsGauss 121 = .ok (.iaload, 1) := by decide +kernel
theorem dX12_readsGauss_122 : decode cX12_readsGauss 122 = .ok (.iconst 1, 1) := by decide +kernel
theorem dX12_readsGauss_123 : decode cX12_readsGauss 123 = .ok (.iand, 1) := by decide +kernel
theorem dX12_readsGauss_124 : decode cX12_readsGauss 124 = .ok (.iconst 1, 1) := by decide +kernel
theorem dX12_readsGauss_125 : decode cX12_readsGauss 125 = .ok (.if_icmp .ne 29, 3) := by decide +kernel
theorem dX12_readsGauss_128 : decode cX12_readsGauss 128 = .ok (.aload_n 0, 1) := by decide +kernel
theorem dX12_readsGauss_129 : decode cX12_readsGauss 129 = .ok (.sipush 364, 3) := by decide +kernel
theorem dX12_readsGauss_132 : decode cX12_readsGauss 132 = .ok (.aload_n 0, 1) := by decide +kernel
theorem dX12_readsGauss_133 : decode cX12_readsGauss 133 = .ok (.getfield 95, 3) := by decide +kernel
theorem dX12_readsGauss_136 : decode cX12_readsGauss 136 = .ok (.iload_n 3, 1) := by decide +kernel
theorem dX12_readsGauss_137 : decode cX12_readsGauss 137 = .ok (.iaload, 1) := by decide +kernel
theorem dX12_readsGauss_138 : decode cX12_readsGauss 138 = .ok (.iload 4, 2) := by decide +kernel
theorem dX12_readsGauss_140 : decode cX12_readsGauss 140 = .ok (.iload_n 3, 1) := by decide +kernel
theorem dX12_readsGauss_141 : decode cX12_readsGauss 141 = .ok (.aload_n 0, 1) := by decide +kernel
theorem dX12_readsGauss_142 : decode cX12_readsGauss 142 = .ok (.getfield 95, 3) := by decide +kernel
theorem dX12_readsGauss_145 : decode cX12_readsGauss 145 = .ok (.iload 4, 2) := by decide +kernel
theorem dX12_readsGauss_147 : decode cX12_readsGauss 147 = .ok (.iaload, 1) := by decide +kernel
theorem dX12_readsGauss_148 : decode cX12_readsGauss 148 = .ok (.invokevirtual 194, 3) := by decide +kernel
theorem dX12_readsGauss_151 : decode cX12_readsGauss 151 = .ok (.goto 26, 3) := by decide +kernel
theorem dX12_readsGauss_154 : decode cX12_readsGauss 154 = .ok (.aload_n 0, 1) := by decide +kernel
theorem dX12_readsGauss_155 : decode cX12_readsGauss 155 = .ok (.sipush 364, 3) := by decide +kernel
theorem dX12_readsGauss_158 : decode cX12_readsGauss 158 = .ok (.aload_n 0, 1) := by decide +kernel
theorem dX12_readsGauss_159 : decode cX12_readsGauss 159 = .ok (.getfield 95, 3) := by decide +kernel
theorem dX12_readsGauss_162 : decode cX12_readsGauss 162 = .ok (.iload_n 3, 1) := by decide +kernel
theorem dX12_readsGauss_163 : decode cX12_readsGauss 163 = .ok (.iaload, 1) := by decide +kernel
theorem dX12_readsGauss_164 : decode cX12_readsGauss 164 = .ok (.aload_n 0, 1) := by decide +kernel
theorem dX12_readsGauss_165 : decode cX12_readsGauss 165 = .ok (.getfield 95, 3) := by decide +kernel
theorem dX12_readsGauss_168 : decode cX12_readsGauss 168 = .ok (.iload 4, 2) := by decide +kernel
theorem dX12_readsGauss_170 : decode cX12_readsGauss 170 = .ok (.iaload, 1) := by decide +kernel
theorem dX12_readsGauss_171 : decode cX12_readsGauss 171 = .ok (.iload_n 3, 1) := by decide +kernel
theorem dX12_readsGauss_172 : decode cX12_readsGauss 172 = .ok (.iload 4, 2) := by decide +kernel
theorem dX12_readsGauss_174 : decode cX12_readsGauss 174 = .ok (.invokevirtual 194, 3) := by decide +kernel
theorem dX12_readsGauss_177 : decode cX12_readsGauss 177 = .ok (.iinc 2 1, 3) := by decide +kernel
theorem dX12_readsGauss_180 : decode cX12_readsGauss 180 = .ok (.goto (-129), 3) := by decide +kernel
theorem dX12_readsGauss_183 : decode cX12_readsGauss 183 = .ok (.aload_n 0, 1) := by decide +kernel
theorem dX12_readsGauss_184 : decode cX12_readsGauss 184 = .ok (.sipush 364, 3) := by decide +kernel
theorem dX12_readsGauss_187 : decode cX12_readsGauss 187 = .ok (.invokevirtual 226, 3) := by decide +kernel
theorem dX12_readsGauss_190 : decode cX12_readsGauss 190 = .ok (.ifCond .ne 7, 3) := by decide +kernel
theorem dX12_readsGauss_193 : decode cX12_readsGauss 193 = .ok (.iconst 1, 1) := by decide +kernel
theorem dX12_readsGauss_194 : decode cX12_readsGauss 194 = .ok (.goto 4, 3) := by decide +kernel
theorem dX12_readsGauss_197 : decode cX12_readsGauss 197 = .ok (.iconst 0, 1) := by decide +kernel
theorem dX12_readsGauss_198 : decode cX12_readsGauss 198 = .ok (.ireturn, 1) := by decide +kernel
theorem dX12_ofGauss_0 : decode cX12_ofGauss 0 = .ok (.aload_n 0, 1) := by decide +kernel
theorem dX12_ofGauss_1 : decode cX12_ofGauss 1 = .ok (.getfield 169, 3) := by decide +kernel
theorem dX12_ofGauss_4 : decode cX12_ofGauss 4 = .ok (.bipush 24, 2) := by decide +kernel
theorem dX12_ofGauss_6 : decode cX12_ofGauss 6 = .ok (.if_icmp .ne 10, 3) := by decide +kernel
theorem dX12_ofGauss_9 : decode cX12_ofGauss 9 = .ok (.aload_n 0, 1) := by decide +kernel
theorem dX12_ofGauss_10 : decode cX12_ofGauss 10 = .ok (.bipush (-3), 2) := by decide +kernel
theorem dX12_ofGauss_12 : decode cX12_ofGauss 12 = .ok (.invokevirtual 165, 3) := by decide +kernel
theorem dX12_ofGauss_15 : decode cX12_ofGauss 15 = .ok (.ireturn, 1) := by decide +kernel
theorem dX12_ofGauss_16 : decode cX12_ofGauss 16 = .ok (.aload_n 0, 1) := by decide +kernel
theorem dX12_ofGauss_17 : decode cX12_ofGauss 17 = .ok (.invokevirtual 293, 3) := by decide +kernel
theorem dX12_ofGauss_20 : decode cX12_ofGauss 20 = .ok (.ifCond .eq 13, 3) := by decide +kernel
theorem dX12_ofGauss_23 : decode cX12_ofGauss 23 = .ok (.aload_n 0, 1) := by decide +kernel
theorem dX12_ofGauss_24 : decode cX12_ofGauss 24 = .ok (.sipush 364, 3) := by decide +kernel
theorem dX12_ofGauss_27 : decode cX12_ofGauss 27 = .ok (.invokevirtual 297, 3) := by decide +kernel
theorem dX12_ofGauss_30 : decode cX12_ofGauss 30 = .ok (.goto 8, 3) := by decide +kernel
theorem dX12_ofGauss_33 : decode cX12_ofGauss 33 = .ok (.aload_n 0, 1) := by decide +kernel
theorem dX12_ofGauss_34 : decode cX12_ofGauss 34 = .ok (.iconst 5, 1) := by decide +kernel
theorem dX12_ofGauss_35 : decode cX12_ofGauss 35 = .ok (.invokevirtual 200, 3) := by decide +kernel
theorem dX12_ofGauss_38 : decode cX12_ofGauss 38 = .ok (.ireturn, 1) := by decide +kernel
theorem dX12_free_0 : decode cX12_free 0 = .ok (.iconst 0, 1) := by decide +kernel
theorem dX12_free_1 : decode cX12_free 1 = .ok (.istore_n 3, 1) := by decide +kernel
theorem dX12_free_2 : decode cX12_free 2 = .ok (.iload_n 3, 1) := by decide +kernel
theorem dX12_free_3 : decode cX12_free 3 = .ok (.bipush 100, 2) := by decide +kernel
theorem dX12_free_5 : decode cX12_free 5 = .ok (.if_icmp .ge 16, 3) := by decide +kernel
theorem dX12_free_8 : decode cX12_free 8 = .ok (.aload_n 0, 1) := by decide +kernel
theorem dX12_free_9 : decode cX12_free 9 = .ok (.getfield 98, 3) := by decide +kernel
theorem dX12_free_12 : decode cX12_free 12 = .ok (.iload_n 3, 1) := by decide +kernel
theorem dX12_free_13 : decode cX12_free 13 = .ok (.iconst 0, 1) := by decide +kernel
theorem dX12_free_14 : decode cX12_free 14 = .ok (.bastore, 1) := by decide +kernel
theorem dX12_free_15 : decode cX12_free 15 = .ok (.iinc 3 1, 3) := by decide +kernel
theorem dX12_free_18 : decode cX12_free 18 = .ok (.goto (-16), 3) := by decide +kernel
theorem dX12_free_21 : decode cX12_free 21 = .ok (.iconst 0, 1) := by decide +kernel
theorem dX12_free_22 : decode cX12_free 22 = .ok (.istore_n 3, 1) := by decide +kernel
theorem dX12_free_23 : decode cX12_free 23 = .ok (.iload_n 3, 1) := by decide +kernel
theorem dX12_free_24 : decode cX12_free 24 = .ok (.iconst 4, 1) := by decide +kernel
theorem dX12_free_25 : decode cX12_free 25 = .ok (.aload_n 0, 1) := by decide +kernel
theorem dX12_free_26 : decode cX12_free 26 = .ok (.getfield 13, 3) := by decide +kernel
theorem dX12_free_29 : decode cX12_free 29 = .ok (.iload_n 1, 1) := by decide +kernel
theorem dX12_free_30 : decode cX12_free 30 = .ok (.iaload, 1) := by decide +kernel
theorem dX12_free_31 : decode cX12_free 31 = .ok (.imul, 1) := by decide +kernel
theorem dX12_free_32 : decode cX12_free 32 = .ok (.if_icmp .ge 27, 3) := by decide +kernel
theorem dX12_free_35 : decode cX12_free 35 = .ok (.aload_n 0, 1) := by decide +kernel
theorem dX12_free_36 : decode cX12_free 36 = .ok (.getfield 98, 3) := by decide +kernel
theorem dX12_free_39 : decode cX12_free 39 = .ok (.aload_n 0, 1) := by decide +kernel
theorem dX12_free_40 : decode cX12_free 40 = .ok (.getfield 23, 3) := by decide +kernel
theorem dX12_free_43 : decode cX12_free 43 = .ok (.sipush 160, 3) := by decide +kernel
theorem dX12_free_46 : decode cX12_free 46 = .ok (.iload_n 1, 1) := by decide +kernel
theorem dX12_free_47 : decode cX12_free 47 = .ok (.imul, 1) := by decide +kernel
theorem dX12_free_48 : decode cX12_free 48 = .ok (.iload_n 3, 1) := by decide +kernel
theorem dX12_free_49 : decode cX12_free 49 = .ok (.iadd, 1) := by decide +kernel
theorem dX12_free_50 : decode cX12_free 50 = .ok (.iaload, 1) := by decide +kernel
theorem dX12_free_51 : decode cX12_free 51 = .ok (.iconst 1, 1) := by decide +kernel
theorem dX12_free_52 : decode cX12_free 52 = .ok (.bastore, 1) := by decide +kernel
theorem dX12_free_53 : decode cX12_free 53 = .ok (.iinc 3 1, 3) := by decide +kernel
theorem dX12_free_56 : decode cX12_free 56 = .ok (.goto (-33), 3) := by decide +kernel
theorem dX12_free_59 : decode cX12_free 59 = .ok (.iload_n 2, 1) := by decide +kernel
theorem dX12_free_60 : decode cX12_free 60 = .ok (.iconst 1, 1) := by decide +kernel
theorem dX12_free_61 : decode cX12_free 61 = .ok (.iadd, 1) := by decide +kernel
theorem dX12_free_62 : decode cX12_free 62 = .ok (.istore_n 3, 1) := by decide +kernel
theorem dX12_free_63 : decode cX12_free 63 = .ok (.aload_n 0, 1) := by decide +kernel
theorem dX12_free_64 : decode cX12_free 64 = .ok (.getfield 98, 3) := by decide +kernel
theorem dX12_free_67 : decode cX12_free 67 = .ok (.iload_n 3, 1) := by decide +kernel
theorem dX12_free_68 : decode cX12_free 68 = .ok (.baload, 1) := by decide +kernel
theorem dX12_free_69 : decode cX12_free 69 = .ok (.ifCond .eq 9, 3) := by decide +kernel
theorem dX12_free_72 : decode cX12_free 72 = .ok (.iinc 3 1, 3) := by decide +kernel
theorem dX12_free_75 : decode cX12_free 75 = .ok (.goto (-12), 3) := by decide +kernel
theorem dX12_free_78 : decode cX12_free 78 = .ok (.iload_n 3, 1) := by decide +kernel
theorem dX12_free_79 : decode cX12_free 79 = .ok (.ireturn, 1) := by decide +kernel
theorem dX12_joinArcs_0 : decode cX12_joinArcs 0 = .ok (.iload_n 2, 1) := by decide +kernel
theorem dX12_joinArcs_1 : decode cX12_joinArcs 1 = .ok (.iload_n 3, 1) := by decide +kernel
theorem dX12_joinArcs_2 : decode cX12_joinArcs 2 = .ok (.if_icmp .ne 13, 3) := by decide +kernel
theorem dX12_joinArcs_5 : decode cX12_joinArcs 5 = .ok (.aload_n 0, 1) := by decide +kernel
theorem dX12_joinArcs_6 : decode cX12_joinArcs 6 = .ok (.getfield 16, 3) := by decide +kernel
theorem dX12_joinArcs_9 : decode cX12_joinArcs 9 = .ok (.iload_n 1, 1) := by decide +kernel
theorem dX12_joinArcs_10 : decode cX12_joinArcs 10 = .ok (.dup2, 1) := by decide +kernel
theorem dX12_joinArcs_11 : decode cX12_joinArcs 11 = .ok (.iaload, 1) := by decide +kernel
theorem dX12_joinArcs_12 : decode cX12_joinArcs 12 = .ok (.iconst 1, 1) := by decide +kernel
theorem dX12_joinArcs_13 : decode cX12_joinArcs 13 = .ok (.iadd, 1) := by decide +kernel
theorem dX12_joinArcs_14 : decode cX12_joinArcs 14 = .ok (.iastore, 1) := by decide +kernel
theorem dX12_joinArcs_15 : decode cX12_joinArcs 15 = .ok (.iconst 0, 1) := by decide +kernel
theorem dX12_joinArcs_16 : decode cX12_joinArcs 16 = .ok (.istore 4, 2) := by decide +kernel
theorem dX12_joinArcs_18 : decode cX12_joinArcs 18 = .ok (.iload 4, 2) := by decide +kernel
theorem dX12_joinArcs_20 : decode cX12_joinArcs 20 = .ok (.iconst 4, 1) := by decide +kernel
theorem dX12_joinArcs_21 : decode cX12_joinArcs 21 = .ok (.aload_n 0, 1) := by decide +kernel
theorem dX12_joinArcs_22 : decode cX12_joinArcs 22 = .ok (.getfield 13, 3) := by decide +kernel
theorem dX12_joinArcs_25 : decode cX12_joinArcs 25 = .ok (.iload_n 1, 1) := by decide +kernel
theorem dX12_joinArcs_26 : decode cX12_joinArcs 26 = .ok (.iaload, 1) := by decide +kernel
theorem dX12_joinArcs_27 : decode cX12_joinArcs 27 = .ok (.imul, 1) := by decide +kernel
theorem dX12_joinArcs_28 : decode cX12_joinArcs 28 = .ok (.if_icmp .ge 56, 3) := by decide +kernel
theorem dX12_joinArcs_31 : decode cX12_joinArcs 31 = .ok (.aload_n 0, 1) := by decide +kernel
theorem dX12_joinArcs_32 : decode cX12_joinArcs 32 = .ok (.getfield 23, 3) := by decide +kernel
theorem dX12_joinArcs_35 : decode cX12_joinArcs 35 = .ok (.sipush 160, 3) := by decide +kernel
theorem dX12_joinArcs_38 : decode cX12_joinArcs 38 = .ok (.iload_n 1, 1) := by decide +kernel
theorem dX12_joinArcs_39 : decode cX12_joinArcs 39 = .ok (.imul, 1) := by decide +kernel
theorem dX12_joinArcs_40 : decode cX12_joinArcs 40 = .ok (.iload 4, 2) := by decide +kernel
theorem dX12_joinArcs_42 : decode cX12_joinArcs 42 = .ok (.iadd, 1) := by decide +kernel
theorem dX12_joinArcs_43 : decode cX12_joinArcs 43 = .ok (.aload_n 0, 1) := by decide +kernel
theorem dX12_joinArcs_44 : decode cX12_joinArcs 44 = .ok (.getfield 23, 3) := by decide +kernel
theorem dX12_joinArcs_47 : decode cX12_joinArcs 47 = .ok (.sipush 160, 3) := by decide +kernel
theorem dX12_joinArcs_50 : decode cX12_joinArcs 50 = .ok (.iload_n 1, 1) := by decide +kernel
theorem dX12_joinArcs_51 : decode cX12_joinArcs 51 = .ok (.imul, 1) := by decide +kernel
theorem dX12_joinArcs_52 : decode cX12_joinArcs 52 = .ok (.iload 4, 2) := by decide +kernel
theorem dX12_joinArcs_54 : decode cX12_joinArcs 54 = .ok (.iadd, 1) := by decide +kernel
theorem dX12_joinArcs_55 : decode cX12_joinArcs 55 = .ok (.iaload, 1) := by decide +kernel
theorem dX12_joinArcs_56 : decode cX12_joinArcs 56 = .ok (.iload_n 3, 1) := by decide +kernel
theorem dX12_joinArcs_57 : decode cX12_joinArcs 57 = .ok (.if_icmp .ne 7, 3) := by decide +kernel
theorem dX12_joinArcs_60 : decode cX12_joinArcs 60 = .ok (.iload_n 2, 1) := by decide +kernel
theorem dX12_joinArcs_61 : decode cX12_joinArcs 61 = .ok (.goto 16, 3) := by decide +kernel
theorem dX12_joinArcs_64 : decode cX12_joinArcs 64 = .ok (.aload_n 0, 1) := by decide +kernel
theorem dX12_joinArcs_65 : decode cX12_joinArcs 65 = .ok (.getfield 23, 3) := by decide +kernel
theorem dX12_joinArcs_68 : decode cX12_joinArcs 68 = .ok (.sipush 160, 3) := by decide +kernel
theorem dX12_joinArcs_71 : decode cX12_joinArcs 71 = .ok (.iload_n 1, 1) := by decide +kernel
theorem dX12_joinArcs_72 : decode cX12_joinArcs 72 = .ok (.imul, 1) := by decide +kernel
theorem dX12_joinArcs_73 : decode cX12_joinArcs 73 = .ok (.iload 4, 2) := by decide +kernel
theorem dX12_joinArcs_75 : decode cX12_joinArcs 75 = .ok (.iadd, 1) := by decide +kernel
theorem dX12_joinArcs_76 : decode cX12_joinArcs 76 = .ok (.iaload, 1) := by decide +kernel
theorem dX12_joinArcs_77 : decode cX12_joinArcs 77 = .ok (.iastore, 1) := by decide +kernel
theorem dX12_joinArcs_78 : decode cX12_joinArcs 78 = .ok (.iinc 4 1, 3) := by decide +kernel
theorem dX12_joinArcs_81 : decode cX12_joinArcs 81 = .ok (.goto (-63), 3) := by decide +kernel
theorem dX12_joinArcs_84 : decode cX12_joinArcs 84 = .ok (.return_, 1) := by decide +kernel
theorem dX12_takeOut_0 : decode cX12_takeOut 0 = .ok (.aload_n 0, 1) := by decide +kernel
theorem dX12_takeOut_1 : decode cX12_takeOut 1 = .ok (.getfield 13, 3) := by decide +kernel
theorem dX12_takeOut_4 : decode cX12_takeOut 4 = .ok (.iload_n 1, 1) := by decide +kernel
theorem dX12_takeOut_5 : decode cX12_takeOut 5 = .ok (.dup2, 1) := by decide +kernel
theorem dX12_takeOut_6 : decode cX12_takeOut 6 = .ok (.iaload, 1) := by decide +kernel
theorem dX12_takeOut_7 : decode cX12_takeOut 7 = .ok (.iconst 1, 1) := by decide +kernel
theorem dX12_takeOut_8 : decode cX12_takeOut 8 = .ok (.isub, 1) := by decide +kernel
theorem dX12_takeOut_9 : decode cX12_takeOut 9 = .ok (.iastore, 1) := by decide +kernel
theorem dX12_takeOut_10 : decode cX12_takeOut 10 = .ok (.iconst 4, 1) := by decide +kernel
theorem dX12_takeOut_11 : decode cX12_takeOut 11 = .ok (.iload_n 2, 1) := by decide +kernel
theorem dX12_takeOut_12 : decode cX12_takeOut 12 = .ok (.imul, 1) := by decide +kernel
theorem dX12_takeOut_13 : decode cX12_takeOut 13 = .ok (.istore_n 3, 1) := by decide +kernel
theorem dX12_takeOut_14 : decode cX12_takeOut 14 = .ok (.iload_n 3, 1) := by decide +kernel
theorem dX12_takeOut_15 : decode cX12_takeOut 15 = .ok (.iconst 4, 1) := by decide +kernel
theorem dX12_takeOut_16 : decode cX12_takeOut 16 = .ok (.aload_n 0, 1) := by decide +kernel
theorem dX12_takeOut_17 : decode cX12_takeOut 17 = .ok (.getfield 13, 3) := by decide +kernel
theorem dX12_takeOut_20 : decode cX12_takeOut 20 = .ok (.iload_n 1, 1) := by decide +kernel
theorem dX12_takeOut_21 : decode cX12_takeOut 21 = .ok (.iaload, 1) := by decide +kernel
theorem dX12_takeOut_22 : decode cX12_takeOut 22 = .ok (.imul, 1) := by decide +kernel
theorem dX12_takeOut_23 : decode cX12_takeOut 23 = .ok (.if_icmp .ge 35, 3) := by decide +kernel
theorem dX12_takeOut_26 : decode cX12_takeOut 26 = .ok (.aload_n 0, 1) := by decide +kernel
theorem dX12_takeOut_27 : decode cX12_takeOut 27 = .ok (.getfield 23, 3) := by decide +kernel
theorem dX12_takeOut_30 : decode cX12_takeOut 30 = .ok (.sipush 160, 3) := by decide +kernel
theorem dX12_takeOut_33 : decode cX12_takeOut 33 = .ok (.iload_n 1, 1) := by decide +kernel
theorem dX12_takeOut_34 : decode cX12_takeOut 34 = .ok (.imul, 1) := by decide +kernel
theorem dX12_takeOut_35 : decode cX12_takeOut 35 = .ok (.iload_n 3, 1) := by decide +kernel
theorem dX12_takeOut_36 : decode cX12_takeOut 36 = .ok (.iadd, 1) := by decide +kernel
theorem dX12_takeOut_37 : decode cX12_takeOut 37 = .ok (.aload_n 0, 1) := by decide +kernel
theorem dX12_takeOut_38 : decode cX12_takeOut 38 = .ok (.getfield 23, 3) := by decide +kernel
theorem dX12_takeOut_41 : decode cX12_takeOut 41 = .ok (.sipush 160, 3) := by decide +kernel
theorem dX12_takeOut_44 : decode cX12_takeOut 44 = .ok (.iload_n 1, 1) := by decide +kernel
theorem dX12_takeOut_45 : decode cX12_takeOut 45 = .ok (.imul, 1) := by decide +kernel
theorem dX12_takeOut_46 : decode cX12_takeOut 46 = .ok (.iload_n 3, 1) := by decide +kernel
theorem dX12_takeOut_47 : decode cX12_takeOut 47 = .ok (.iadd, 1) := by decide +kernel
theorem dX12_takeOut_48 : decode cX12_takeOut 48 = .ok (.iconst 4, 1) := by decide +kernel
theorem dX12_takeOut_49 : decode cX12_takeOut 49 = .ok (.iadd, 1) := by decide +kernel
theorem dX12_takeOut_50 : decode cX12_takeOut 50 = .ok (.iaload, 1) := by decide +kernel
theorem dX12_takeOut_51 : decode cX12_takeOut 51 = .ok (.iastore, 1) := by decide +kernel
theorem dX12_takeOut_52 : decode cX12_takeOut 52 = .ok (.iinc 3 1, 3) := by decide +kernel
theorem dX12_takeOut_55 : decode cX12_takeOut 55 = .ok (.goto (-41), 3) := by decide +kernel
theorem dX12_takeOut_58 : decode cX12_takeOut 58 = .ok (.return_, 1) := by decide +kernel
theorem dX12_isEnd_0 : decode cX12_isEnd 0 = .ok (.iload_n 2, 1) := by decide +kernel
theorem dX12_isEnd_1 : decode cX12_isEnd 1 = .ok (.i2l, 1) := by decide +kernel
theorem dX12_isEnd_2 : decode cX12_isEnd 2 = .ok (.lconst 0, 1) := by decide +kernel
theorem dX12_isEnd_3 : decode cX12_isEnd 3 = .ok (.iconst 4, 1) := by decide +kernel
theorem dX12_isEnd_4 : decode cX12_isEnd 4 = .ok (.aload_n 0, 1) := by decide +kernel
theorem dX12_isEnd_5 : decode cX12_isEnd 5 = .ok (.getfield 13, 3) := by decide +kernel
theorem dX12_isEnd_8 : decode cX12_isEnd 8 = .ok (.iload_n 1, 1) := by decide +kernel
theorem dX12_isEnd_9 : decode cX12_isEnd 9 = .ok (.iaload, 1) := by decide +kernel
theorem dX12_isEnd_10 : decode cX12_isEnd 10 = .ok (.imul, 1) := by decide +kernel
theorem dX12_isEnd_11 : decode cX12_isEnd 11 = .ok (.iconst 1, 1) := by decide +kernel
theorem dX12_isEnd_12 : decode cX12_isEnd 12 = .ok (.isub, 1) := by decide +kernel
theorem dX12_isEnd_13 : decode cX12_isEnd 13 = .ok (.i2l, 1) := by decide +kernel
theorem dX12_isEnd_14 : decode cX12_isEnd 14 = .ok (.invokestatic 172, 3) := by decide +kernel
theorem dX12_isEnd_17 : decode cX12_isEnd 17 = .ok (.ireturn, 1) := by decide +kernel
theorem dX12_arcAt_0 : decode cX12_arcAt 0 = .ok (.aload_n 0, 1) := by decide +kernel
theorem dX12_arcAt_1 : decode cX12_arcAt 1 = .ok (.getfield 23, 3) := by decide +kernel
theorem dX12_arcAt_4 : decode cX12_arcAt 4 = .ok (.ldc_w 300, 3) := by decide +kernel
theorem dX12_arcAt_7 : decode cX12_arcAt 7 = .ok (.iload_n 1, 1) := by decide +kernel
theorem dX12_arcAt_8 : decode cX12_arcAt 8 = .ok (.iadd, 1) := by decide +kernel
theorem dX12_arcAt_9 : decode cX12_arcAt 9 = .ok (.iaload, 1) := by decide +kernel
theorem dX12_arcAt_10 : decode cX12_arcAt 10 = .ok (.ireturn, 1) := by decide +kernel
theorem dX12_full_0 : decode cX12_full 0 = .ok (.aload_n 0, 1) := by decide +kernel
theorem dX12_full_1 : decode cX12_full 1 = .ok (.getfield 16, 3) := by decide +kernel
theorem dX12_full_4 : decode cX12_full 4 = .ok (.sipush 364, 3) := by decide +kernel
theorem dX12_full_7 : decode cX12_full 7 = .ok (.iaload, 1) := by decide +kernel
theorem dX12_full_8 : decode cX12_full 8 = .ok (.bipush 9, 2) := by decide +kernel
theorem dX12_full_10 : decode cX12_full 10 = .ok (.if_icmp .le 8, 3) := by decide +kernel
theorem dX12_full_13 : decode cX12_full 13 = .ok (.bipush 8, 2) := by decide +kernel
theorem dX12_full_15 : decode cX12_full 15 = .ok (.goto 4, 3) := by decide +kernel
theorem dX12_full_18 : decode cX12_full 18 = .ok (.iconst 0, 1) := by decide +kernel
theorem dX12_full_19 : decode cX12_full 19 = .ok (.ireturn, 1) := by decide +kernel
theorem dX12_twist_0 : decode cX12_twist 0 = .ok (.iload_n 1, 1) := by decide +kernel
theorem dX12_twist_1 : decode cX12_twist 1 = .ok (.iconst (-1), 1) := by decide +kernel
theorem dX12_twist_2 : decode cX12_twist 2 = .ok (.if_icmp .ne 7, 3) := by decide +kernel
theorem dX12_twist_5 : decode cX12_twist 5 = .ok (.iconst 1, 1) := by decide +kernel
theorem dX12_twist_6 : decode cX12_twist 6 = .ok (.goto 4, 3) := by decide +kernel
theorem dX12_twist_9 : decode cX12_twist 9 = .ok (.iconst 0, 1) := by decide +kernel
theorem dX12_twist_10 : decode cX12_twist 10 = .ok (.istore_n 3, 1) := by decide +kernel
theorem dX12_twist_11 : decode cX12_twist 11 = .ok (.iload_n 3, 1) := by decide +kernel
theorem dX12_twist_12 : decode cX12_twist 12 = .ok (.ifCond .eq 17, 3) := by decide +kernel
theorem dX12_twist_15 : decode cX12_twist 15 = .ok (.aload_n 0, 1) := by decide +kernel
theorem dX12_twist_16 : decode cX12_twist 16 = .ok (.getfield 16, 3) := by decide +kernel
theorem dX12_twist_19 : decode cX12_twist 19 = .ok (.sipush 364, 3) := by decide +kernel
theorem dX12_twist_22 : decode cX12_twist 22 = .ok (.iaload, 1) := by decide +kernel
theorem dX12_twist_23 : decode cX12_twist 23 = .ok (.ifCond .ne 19, 3) := by decide +kernel
theorem dX12_twist_26 : decode cX12_twist 26 = .ok (.goto 14, 3) := by decide +kernel
theorem dX12_twist_29 : decode cX12_twist 29 = .ok (.aload_n 0, 1) := by decide +kernel
theorem dX12_twist_30 : decode cX12_twist 30 = .ok (.sipush 364, 3) := by decide +kernel
theorem dX12_twist_33 : decode cX12_twist 33 = .ok (.iload_n 1, 1) := by decide +kernel
theorem dX12_twist_34 : decode cX12_twist 34 = .ok (.invokevirtual 301, 3) := by decide +kernel
theorem dX12_twist_37 : decode cX12_twist 37 = .ok (.ifCond .ne 5, 3) := by decide +kernel
theorem dX12_twist_40 : decode cX12_twist 40 = .ok (.iconst 5, 1) := by decide +kernel
theorem dX12_twist_41 : decode cX12_twist 41 = .ok (.ireturn, 1) := by decide +kernel
theorem dX12_twist_42 : decode cX12_twist 42 = .ok (.iload_n 2, 1) := by decide +kernel
theorem dX12_twist_43 : decode cX12_twist 43 = .ok (.i2l, 1) := by decide +kernel
theorem dX12_twist_44 : decode cX12_twist 44 = .ok (.lconst 0, 1) := by decide +kernel
theorem dX12_twist_45 : decode cX12_twist 45 = .ok (.ldc2_w 305, 3) := by decide +kernel
theorem dX12_twist_48 : decode cX12_twist 48 = .ok (.invokestatic 172, 3) := by decide +kernel
theorem dX12_twist_51 : decode cX12_twist 51 = .ok (.ifCond .ne 5, 3) := by decide +kernel
theorem dX12_twist_54 : decode cX12_twist 54 = .ok (.iconst 5, 1) := by decide +kernel
theorem dX12_twist_55 : decode cX12_twist 55 = .ok (.ireturn, 1) := by decide +kernel
theorem dX12_twist_56 : decode cX12_twist 56 = .ok (.aload_n 0, 1) := by decide +kernel
theorem dX12_twist_57 : decode cX12_twist 57 = .ok (.getfield 13, 3) := by decide +kernel
theorem dX12_twist_60 : decode cX12_twist 60 = .ok (.sipush 364, 3) := by decide +kernel
theorem dX12_twist_63 : decode cX12_twist 63 = .ok (.iaload, 1) := by decide +kernel
theorem dX12_twist_64 : decode cX12_twist 64 = .ok (.bipush 40, 2) := by decide +kernel
theorem dX12_twist_66 : decode cX12_twist 66 = .ok (.if_icmp .ne 6, 3) := by decide +kernel
theorem dX12_twist_69 : decode cX12_twist 69 = .ok (.bipush 8, 2) := by decide +kernel
theorem dX12_twist_71 : decode cX12_twist 71 = .ok (.ireturn, 1) := by decide +kernel
theorem dX12_twist_72 : decode cX12_twist 72 = .ok (.iload_n 3, 1) := by decide +kernel
theorem dX12_twist_73 : decode cX12_twist 73 = .ok (.ifCond .eq 14, 3) := by decide +kernel
theorem dX12_twist_76 : decode cX12_twist 76 = .ok (.aload_n 0, 1) := by decide +kernel
theorem dX12_twist_77 : decode cX12_twist 77 = .ok (.sipush 364, 3) := by decide +kernel
theorem dX12_twist_80 : decode cX12_twist 80 = .ok (.iconst (-1), 1) := by decide +kernel
theorem dX12_twist_81 : decode cX12_twist 81 = .ok (.invokevirtual 307, 3) := by decide +kernel
theorem dX12_twist_84 : decode cX12_twist 84 = .ok (.goto 8, 3) := by decide +kernel
theorem dX12_twist_87 : decode cX12_twist 87 = .ok (.aload_n 0, 1) := by decide +kernel
theorem dX12_twist_88 : decode cX12_twist 88 = .ok (.iload_n 1, 1) := by decide +kernel
theorem dX12_twist_89 : decode cX12_twist 89 = .ok (.invokevirtual 310, 3) := by decide +kernel
theorem dX12_twist_92 : decode cX12_twist 92 = .ok (.istore 4, 2) := by decide +kernel
theorem dX12_twist_94 : decode cX12_twist 94 = .ok (.aload_n 0, 1) := by decide +kernel
theorem dX12_twist_95 : decode cX12_twist 95 = .ok (.sipush 364, 3) := by decide +kernel
theorem dX12_twist_98 : decode cX12_twist 98 = .ok (.iload_n 3, 1) := by decide +kernel
theorem dX12_twist_99 : decode cX12_twist 99 = .ok (.ifCond .eq 8, 3) := by decide +kernel
theorem dX12_twist_102 : decode cX12_twist 102 = .ok (.iload 4, 2) := by decide +kernel
theorem dX12_twist_104 : decode cX12_twist 104 = .ok (.goto 4, 3) := by decide +kernel
theorem dX12_twist_107 : decode cX12_twist 107 = .ok (.iconst (-1), 1) := by decide +kernel
theorem dX12_twist_108 : decode cX12_twist 108 = .ok (.invokevirtual 307, 3) := by decide +kernel
theorem dX12_twist_111 : decode cX12_twist 111 = .ok (.istore 5, 2) := by decide +kernel
theorem dX12_twist_113 : decode cX12_twist 113 = .ok (.iload_n 3, 1) := by decide +kernel
theorem dX12_twist_114 : decode cX12_twist 114 = .ok (.ifCond .eq 8, 3) := by decide +kernel
theorem dX12_twist_117 : decode cX12_twist 117 = .ok (.iload 4, 2) := by decide +kernel
theorem dX12_twist_119 : decode cX12_twist 119 = .ok (.goto 12, 3) := by decide +kernel
theorem dX12_twist_122 : decode cX12_twist 122 = .ok (.aload_n 0, 1) := by decide +kernel
theorem dX12_twist_123 : decode cX12_twist 123 = .ok (.sipush 364, 3) := by decide +kernel
theorem dX12_twist_126 : decode cX12_twist 126 = .ok (.iload 5, 2) := by decide +kernel
theorem dX12_twist_128 : decode cX12_twist 128 = .ok (.invokevirtual 307, 3) := by decide +kernel
theorem dX12_twist_131 : decode cX12_twist 131 = .ok (.istore 6, 2) := by decide +kernel
theorem dX12_twist_133 : decode cX12_twist 133 = .ok (.iload_n 3, 1) := by decide +kernel
theorem dX12_twist_134 : decode cX12_twist 134 = .ok (.ifCond .eq 18, 3) := by decide +kernel
theorem dX12_twist_137 : decode cX12_twist 137 = .ok (.aload_n 0, 1) := by decide +kernel
theorem dX12_twist_138 : decode cX12_twist 138 = .ok (.getfield 16, 3) := by decide +kernel
theorem dX12_twist_141 : decode cX12_twist 141 = .ok (.sipush 364, 3) := by decide +kernel
theorem dX12_twist_144 : decode cX12_twist 144 = .ok (.dup2, 1) := by decide +kernel
theorem dX12_twist_145 : decode cX12_twist 145 = .ok (.iaload, 1) := by decide +kernel
theorem dX12_twist_146 : decode cX12_twist 146 = .ok (.iconst 1, 1) := by decide +kernel
theorem dX12_twist_147 : decode cX12_twist 147 = .ok (.isub, 1) := by decide +kernel
theorem dX12_twist_148 : decode cX12_twist 148 = .ok (.iastore, 1) := by decide +kernel
theorem dX12_twist_149 : decode cX12_twist 149 = .ok (.goto 20, 3) := by decide +kernel
theorem dX12_twist_152 : decode cX12_twist 152 = .ok (.aload_n 0, 1) := by decide +kernel
theorem dX12_twist_153 : decode cX12_twist 153 = .ok (.getfield 23, 3) := by decide +kernel
theorem dX12_twist_156 : decode cX12_twist 156 = .ok (.ldc_w 300, 3) := by decide +kernel
theorem dX12_twist_159 : decode cX12_twist 159 = .ok (.aload_n 0, 1) := by decide +kernel
theorem dX12_twist_160 : decode cX12_twist 160 = .ok (.getfield 36, 3) := by decide +kernel
theorem dX12_twist_163 : decode cX12_twist 163 = .ok (.iload_n 1, 1) := by decide +kernel
theorem dX12_twist_164 : decode cX12_twist 164 = .ok (.iaload, 1) := by decide +kernel
theorem dX12_twist_165 : decode cX12_twist 165 = .ok (.iadd, 1) := by decide +kernel
theorem dX12_twist_166 : decode cX12_twist 166 = .ok (.iload 6, 2) := by decide +kernel
theorem dX12_twist_168 : decode cX12_twist 168 = .ok (.iastore, 1) := by decide +kernel
theorem dX12_twist_169 : decode cX12_twist 169 = .ok (.iload_n 2, 1) := by decide +kernel
theorem dX12_twist_170 : decode cX12_twist 170 = .ok (.ifCond .ne 21, 3) := by decide +kernel
theorem dX12_twist_173 : decode cX12_twist 173 = .ok (.aload_n 0, 1) := by decide +kernel
theorem dX12_twist_174 : decode cX12_twist 174 = .ok (.sipush 364, 3) := by decide +kernel
theorem dX12_twist_177 : decode cX12_twist 177 = .ok (.iload 4, 2) := by decide +kernel
theorem dX12_twist_179 : decode cX12_twist 179 = .ok (.iload 5, 2) := by decide +kernel
theorem dX12_twist_181 : decode cX12_twist 181 = .ok (.iload 5, 2) := by decide +kernel
theorem dX12_twist_183 : decode cX12_twist 183 = .ok (.iload 6, 2) := by decide +kernel
theorem dX12_twist_185 : decode cX12_twist 185 = .ok (.invokevirtual 194, 3) := by decide +kernel
theorem dX12_twist_188 : decode cX12_twist 188 = .ok (.goto 64, 3) := by decide +kernel
theorem dX12_twist_191 : decode cX12_twist 191 = .ok (.iload_n 2, 1) := by decide +kernel
theorem dX12_twist_192 : decode cX12_twist 192 = .ok (.iconst 1, 1) := by decide +kernel
theorem dX12_twist_193 : decode cX12_twist 193 = .ok (.if_icmp .ne 21, 3) := by decide +kernel
theorem dX12_twist_196 : decode cX12_twist 196 = .ok (.aload_n 0, 1) := by decide +kernel
theorem dX12_twist_197 : decode cX12_twist 197 = .ok (.sipush 364, 3) := by decide +kernel
theorem dX12_twist_200 : decode cX12_twist 200 = .ok (.iload 4, 2) := by decide +kernel
theorem dX12_twist_202 : decode cX12_twist 202 = .ok (.iload 6, 2) := by decide +kernel
theorem dX12_twist_204 : decode cX12_twist 204 = .ok (.iload 5, 2) := by decide +kernel
theorem dX12_twist_206 : decode cX12_twist 206 = .ok (.iload 5, 2) := by decide +kernel
theorem dX12_twist_208 : decode cX12_twist 208 = .ok (.invokevirtual 194, 3) := by decide +kernel
theorem dX12_twist_211 : decode cX12_twist 211 = .ok (.goto 41, 3) := by decide +kernel
theorem dX12_twist_214 : decode cX12_twist 214 = .ok (.iload_n 2, 1) := by decide +kernel
theorem dX12_twist_215 : decode cX12_twist 215 = .ok (.iconst 2, 1) := by decide +kernel
theorem dX12_twist_216 : decode cX12_twist 216 = .ok (.if_icmp .ne 21, 3) := by decide +kernel
theorem dX12_twist_219 : decode cX12_twist 219 = .ok (.aload_n 0, 1) := by decide +kernel
theorem dX12_twist_220 : decode cX12_twist 220 = .ok (.sipush 364, 3) := by decide +kernel
theorem dX12_twist_223 : decode cX12_twist 223 = .ok (.iload 5, 2) := by decide +kernel
theorem dX12_twist_225 : decode cX12_twist 225 = .ok (.iload 5, 2) := by decide +kernel
theorem dX12_twist_227 : decode cX12_twist 227 = .ok (.iload 6, 2) := by decide +kernel
theorem dX12_twist_229 : decode cX12_twist 229 = .ok (.iload 4, 2) := by decide +kernel
theorem dX12_twist_231 : decode cX12_twist 231 = .ok (.invokevirtual 194, 3) := by decide +kernel
theorem dX12_twist_234 : decode cX12_twist 234 = .ok (.goto 18, 3) := by decide +kernel
theorem dX12_twist_237 : decode cX12_twist 237 = .ok (.aload_n 0, 1) := by decide +kernel
theorem dX12_twist_238 : decode cX12_twist 238 = .ok (.sipush 364, 3) := by decide +kernel
theorem dX12_twist_241 : decode cX12_twist 241 = .ok (.iload 6, 2) := by decide +kernel
theorem dX12_twist_243 : decode cX12_twist 243 = .ok (.iload 5, 2) := by decide +kernel
theorem dX12_twist_245 : decode cX12_twist 245 = .ok (.iload 5, 2) := by decide +kernel
theorem dX12_twist_247 : decode cX12_twist 247 = .ok (.iload 4, 2) := by decide +kernel
theorem dX12_twist_249 : decode cX12_twist 249 = .ok (.invokevirtual 194, 3) := by decide +kernel
theorem dX12_twist_252 : decode cX12_twist 252 = .ok (.iconst 0, 1) := by decide +kernel
theorem dX12_twist_253 : decode cX12_twist 253 = .ok (.ireturn, 1) := by decide +kernel
theorem dX12_untwist_0 : decode cX12_untwist 0 = .ok (.aload_n 0, 1) := by decide +kernel
theorem dX12_untwist_1 : decode cX12_untwist 1 = .ok (.sipush 364, 3) := by decide +kernel
theorem dX12_untwist_4 : decode cX12_untwist 4 = .ok (.iload_n 1, 1) := by decide +kernel
theorem dX12_untwist_5 : decode cX12_untwist 5 = .ok (.invokevirtual 301, 3) := by decide +kernel
theorem dX12_untwist_8 : decode cX12_untwist 8 = .ok (.ifCond .eq 20, 3) := by decide +kernel
theorem dX12_untwist_11 : decode cX12_untwist 11 = .ok (.aload_n 0, 1) := by decide +kernel
theorem dX12_untwist_12 : decode cX12_untwist 12 = .ok (.iload_n 1, 1) := by decide +kernel
theorem dX12_untwist_13 : decode cX12_untwist 13 = .ok (.invokevirtual 310, 3) := by decide +kernel
theorem dX12_untwist_16 : decode cX12_untwist 16 = .ok (.aload_n 0, 1) := by decide +kernel
theorem dX12_untwist_17 : decode cX12_untwist 17 = .ok (.iload_n 1, 1) := by decide +kernel
theorem dX12_untwist_18 : decode cX12_untwist 18 = .ok (.iconst 1, 1) := by decide +kernel
theorem dX12_untwist_19 : decode cX12_untwist 19 = .ok (.invokestatic 209, 3) := by decide +kernel
theorem dX12_untwist_22 : decode cX12_untwist 22 = .ok (.invokevirtual 310, 3) := by decide +kernel
theorem dX12_untwist_25 : decode cX12_untwist 25 = .ok (.if_icmp .eq 5, 3) := by decide +kernel
theorem dX12_untwist_28 : decode cX12_untwist 28 = .ok (.iconst 5, 1) := by decide +kernel
theorem dX12_untwist_29 : decode cX12_untwist 29 = .ok (.ireturn, 1) := by decide +kernel
theorem dX12_untwist_30 : decode cX12_untwist 30 = .ok (.aload_n 0, 1) := by decide +kernel
theorem dX12_untwist_31 : decode cX12_untwist 31 = .ok (.sipush 364, 3) := by decide +kernel
theorem dX12_untwist_34 : decode cX12_untwist 34 = .ok (.aload_n 0, 1) := by decide +kernel
theorem dX12_untwist_35 : decode cX12_untwist 35 = .ok (.iload_n 1, 1) := by decide +kernel
theorem dX12_untwist_36 : decode cX12_untwist 36 = .ok (.iconst 2, 1) := by decide +kernel
theorem dX12_untwist_37 : decode cX12_untwist 37 = .ok (.invokestatic 209, 3) := by decide +kernel
theorem dX12_untwist_40 : decode cX12_untwist 40 = .ok (.invokevirtual 310, 3) := by decide +kernel
theorem dX12_untwist_43 : decode cX12_untwist 43 = .ok (.aload_n 0, 1) := by decide +kernel
theorem dX12_untwist_44 : decode cX12_untwist 44 = .ok (.iload_n 1, 1) := by decide +kernel
theorem dX12_untwist_45 : decode cX12_untwist 45 = .ok (.iconst 3, 1) := by decide +kernel
theorem dX12_untwist_46 : decode cX12_untwist 46 = .ok (.invokestatic 209, 3) := by decide +kernel
theorem dX12_untwist_49 : decode cX12_untwist 49 = .ok (.invokevirtual 310, 3) := by decide +kernel
theorem dX12_untwist_52 : decode cX12_untwist 52 = .ok (.invokevirtual 313, 3) := by decide +kernel
theorem dX12_untwist_55 : decode cX12_untwist 55 = .ok (.aload_n 0, 1) := by decide +kernel
theorem dX12_untwist_56 : decode cX12_untwist 56 = .ok (.sipush 364, 3) := by decide +kernel
theorem dX12_untwist_59 : decode cX12_untwist 59 = .ok (.iload_n 1, 1) := by decide +kernel
theorem dX12_untwist_60 : decode cX12_untwist 60 = .ok (.iconst 4, 1) := by decide +kernel
theorem dX12_untwist_61 : decode cX12_untwist 61 = .ok (.idiv, 1) := by decide +kernel
theorem dX12_untwist_62 : decode cX12_untwist 62 = .ok (.invokevirtual 317, 3) := by decide +kernel
theorem dX12_untwist_65 : decode cX12_untwist 65 = .ok (.aload_n 0, 1) := by decide +kernel
theorem dX12_untwist_66 : decode cX12_untwist 66 = .ok (.invokevirtual 320, 3) := by decide +kernel
theorem dX12_untwist_69 : decode cX12_untwist 69 = .ok (.ireturn, 1) := by decide +kernel
theorem dX12_isOfFace_0 : decode cX12_isOfFace 0 = .ok (.iload_n 1, 1) := by decide +kernel
theorem dX12_isOfFace_1 : decode cX12_isOfFace 1 = .ok (.iload_n 2, 1) := by decide +kernel
theorem dX12_isOfFace_2 : decode cX12_isOfFace 2 = .ok (.if_icmp .ne 7, 3) := by decide +kernel
theorem dX12_isOfFace_5 : decode cX12_isOfFace 5 = .ok (.iconst 1, 1) := by decide +kernel
theorem dX12_isOfFace_6 : decode cX12_isOfFace 6 = .ok (.goto 4, 3) := by decide +kernel
theorem dX12_isOfFace_9 : decode cX12_isOfFace 9 = .ok (.iconst 0, 1) := by decide +kernel
theorem dX12_isOfFace_10 : decode cX12_isOfFace 10 = .ok (.istore_n 3, 1) := by decide +kernel
theorem dX12_isOfFace_11 : decode cX12_isOfFace 11 = .ok (.aload_n 0, 1) := by decide +kernel
theorem dX12_isOfFace_12 : decode cX12_isOfFace 12 = .ok (.iload_n 1, 1) := by decide +kernel
theorem dX12_isOfFace_13 : decode cX12_isOfFace 13 = .ok (.invokevirtual 213, 3) := by decide +kernel
theorem dX12_isOfFace_16 : decode cX12_isOfFace 16 = .ok (.istore 4, 2) := by decide +kernel
theorem dX12_isOfFace_18 : decode cX12_isOfFace 18 = .ok (.iload 4, 2) := by decide +kernel
theorem dX12_isOfFace_20 : decode cX12_isOfFace 20 = .ok (.iload_n 1, 1) := by decide +kernel
theorem dX12_isOfFace_21 : decode cX12_isOfFace 21 = .ok (.if_icmp .eq 28, 3) := by decide +kernel
theorem dX12_isOfFace_24 : decode cX12_isOfFace 24 = .ok (.iload_n 3, 1) := by decide +kernel
theorem dX12_isOfFace_25 : decode cX12_isOfFace 25 = .ok (.iload 4, 2) := by decide +kernel
theorem dX12_isOfFace_27 : decode cX12_isOfFace 27 = .ok (.iload_n 2, 1) := by decide +kernel
theorem dX12_isOfFace_28 : decode cX12_isOfFace 28 = .ok (.if_icmp .ne 7, 3) := by decide +kernel
theorem dX12_isOfFace_31 : decode cX12_isOfFace 31 = .ok (.iconst 1, 1) := by decide +kernel
theorem dX12_isOfFace_32 : decode cX12_isOfFace 32 = .ok (.goto 4, 3) := by decide +kernel
theorem dX12_isOfFace_35 : decode cX12_isOfFace 35 = .ok (.iconst 0, 1) := by decide +kernel
theorem dX12_isOfFace_36 : decode cX12_isOfFace 36 = .ok (.ior, 1) := by decide +kernel
theorem dX12_isOfFace_37 : decode cX12_isOfFace 37 = .ok (.istore_n 3, 1) := by decide +kernel
theorem dX12_isOfFace_38 : decode cX12_isOfFace 38 = .ok (.aload_n 0, 1) := by decide +kernel
theorem dX12_isOfFace_39 : decode cX12_isOfFace 39 = .ok (.iload 4, 2) := by decide +kernel
theorem dX12_isOfFace_41 : decode cX12_isOfFace 41 = .ok (.invokevirtual 213, 3) := by decide +kernel
theorem dX12_isOfFace_44 : decode cX12_isOfFace 44 = .ok (.istore 4, 2) := by decide +kernel
theorem dX12_isOfFace_46 : decode cX12_isOfFace 46 = .ok (.goto (-28), 3) := by decide +kernel
theorem dX12_isOfFace_49 : decode cX12_isOfFace 49 = .ok (.iload_n 3, 1) := by decide +kernel
theorem dX12_isOfFace_50 : decode cX12_isOfFace 50 = .ok (.ireturn, 1) := by decide +kernel
theorem dX12_poke_0 : decode cX12_poke 0 = .ok (.aload_n 0, 1) := by decide +kernel
theorem dX12_poke_1 : decode cX12_poke 1 = .ok (.sipush 364, 3) := by decide +kernel
theorem dX12_poke_4 : decode cX12_poke 4 = .ok (.iload_n 1, 1) := by decide +kernel
theorem dX12_poke_5 : decode cX12_poke 5 = .ok (.invokevirtual 301, 3) := by decide +kernel
theorem dX12_poke_8 : decode cX12_poke 8 = .ok (.ifCond .eq 46, 3) := by decide +kernel
theorem dX12_poke_11 : decode cX12_poke 11 = .ok (.aload_n 0, 1) := by decide +kernel
theorem dX12_poke_12 : decode cX12_poke 12 = .ok (.sipush 364, 3) := by decide +kernel
theorem dX12_poke_15 : decode cX12_poke 15 = .ok (.iload_n 2, 1) := by decide +kernel
theorem dX12_poke_16 : decode cX12_poke 16 = .ok (.invokevirtual 301, 3) := by decide +kernel
theorem dX12_poke_19 : decode cX12_poke 19 = .ok (.ifCond .eq 35, 3) := by decide +kernel
theorem dX12_poke_22 : decode cX12_poke 22 = .ok (.iload_n 3, 1) := by decide +kernel
theorem dX12_poke_23 : decode cX12_poke 23 = .ok (.i2l, 1) := by decide +kernel
theorem dX12_poke_24 : decode cX12_poke 24 = .ok (.lconst 0, 1) := by decide +kernel
theorem dX12_poke_25 : decode cX12_poke 25 = .ok (.lconst 1, 1) := by decide +kernel
theorem dX12_poke_26 : decode cX12_poke 26 = .ok (.invokestatic 172, 3) := by decide +kernel
theorem dX12_poke_29 : decode cX12_poke 29 = .ok (.ifCond .eq 25, 3) := by decide +kernel
theorem dX12_poke_32 : decode cX12_poke 32 = .ok (.aload_n 0, 1) := by decide +kernel
theorem dX12_poke_33 : decode cX12_poke 33 = .ok (.iload_n 1, 1) := by decide +kernel
theorem dX12_poke_34 : decode cX12_poke 34 = .ok (.invokevirtual 310, 3) := by decide +kernel
theorem dX12_poke_37 : decode cX12_poke 37 = .ok (.aload_n 0, 1) := by decide +kernel
theorem dX12_poke_38 : decode cX12_poke 38 = .ok (.iload_n 2, 1) := by decide +kernel
theorem dX12_poke_39 : decode cX12_poke 39 = .ok (.invokevirtual 310, 3) := by decide +kernel
theorem dX12_poke_42 : decode cX12_poke 42 = .ok (.if_icmp .eq 12, 3) := by decide +kernel
theorem dX12_poke_45 : decode cX12_poke 45 = .ok (.aload_n 0, 1) := by decide +kernel
theorem dX12_poke_46 : decode cX12_poke 46 = .ok (.iload_n 1, 1) := by decide +kernel
theorem dX12_poke_47 : decode cX12_poke 47 = .ok (.iload_n 2, 1) := by decide +kernel
theorem dX12_poke_48 : decode cX12_poke 48 = .ok (.invokevirtual 323, 3) := by decide +kernel
theorem dX12_poke_51 : decode cX12_poke 51 = .ok (.ifCond .ne 5, 3) := by decide +kernel
theorem dX12_poke_54 : decode cX12_poke 54 = .ok (.iconst 5, 1) := by decide +kernel
theorem dX12_poke_55 : decode cX12_poke 55 = .ok (.ireturn, 1) := by decide +kernel
theorem dX12_poke_56 : decode cX12_poke 56 = .ok (.aload_n 0, 1) := by decide +kernel
theorem dX12_poke_57 : decode cX12_poke 57 = .ok (.getfield 13, 3) := by decide +kernel
theorem dX12_poke_60 : decode cX12_poke 60 = .ok (.sipush 364, 3) := by decide +kernel
theorem dX12_poke_63 : decode cX12_poke 63 = .ok (.iaload, 1) := by decide +kernel
theorem dX12_poke_64 : decode cX12_poke 64 = .ok (.bipush 38, 2) := by decide +kernel
theorem dX12_poke_66 : decode cX12_poke 66 = .ok (.if_icmp .le 6, 3) := by decide +kernel
theorem dX12_poke_69 : decode cX12_poke 69 = .ok (.bipush 8, 2) := by decide +kernel
theorem dX12_poke_71 : decode cX12_poke 71 = .ok (.ireturn, 1) := by decide +kernel
theorem dX12_poke_72 : decode cX12_poke 72 = .ok (.aload_n 0, 1) := by decide +kernel
theorem dX12_poke_73 : decode cX12_poke 73 = .ok (.iload_n 1, 1) := by decide +kernel
theorem dX12_poke_74 : decode cX12_poke 74 = .ok (.invokevirtual 310, 3) := by decide +kernel
theorem dX12_poke_77 : decode cX12_poke 77 = .ok (.istore 4, 2) := by decide +kernel
theorem dX12_poke_79 : decode cX12_poke 79 = .ok (.aload_n 0, 1) := by decide +kernel
theorem dX12_poke_80 : decode cX12_poke 80 = .ok (.iload_n 2, 1) := by decide +kernel
theorem dX12_poke_81 : decode cX12_poke 81 = .ok (.invokevirtual 310, 3) := by decide +kernel
theorem dX12_poke_84 : decode cX12_poke 84 = .ok (.istore 5, 2) := by decide +kernel
theorem dX12_poke_86 : decode cX12_poke 86 = .ok (.aload_n 0, 1) := by decide +kernel
theorem dX12_poke_87 : decode cX12_poke 87 = .ok (.sipush 364, 3) := by decide +kernel
theorem dX12_poke_90 : decode cX12_poke 90 = .ok (.iconst (-1), 1) := by decide +kernel
theorem dX12_poke_91 : decode cX12_poke 91 = .ok (.invokevirtual 307, 3) := by decide +kernel
theorem dX12_poke_94 : decode cX12_poke 94 = .ok (.istore 6, 2) := by decide +kernel
theorem dX12_poke_96 : decode cX12_poke 96 = .ok (.aload_n 0, 1) := by decide +kernel
theorem dX12_poke_97 : decode cX12_poke 97 = .ok (.sipush 364, 3) := by decide +kernel
theorem dX12_poke_100 : decode cX12_poke 100 = .ok (.iload 6, 2) := by decide +kernel
theorem dX12_poke_102 : decode cX12_poke 102 = .ok (.invokevirtual 307, 3) := by decide +kernel
theorem dX12_poke_105 : decode cX12_poke 105 = .ok (.istore 7, 2) := by decide +kernel
theorem dX12_poke_107 : decode cX12_poke 107 = .ok (.aload_n 0, 1) := by decide +kernel
theorem dX12_poke_108 : decode cX12_poke 108 = .ok (.sipush 364, 3) := by decide +kernel
theorem dX12_poke_111 : decode cX12_poke 111 = .ok (.iload 7, 2) := by decide +kernel
theorem dX12_poke_113 : decode cX12_poke 113 = .ok (.invokevirtual 307, 3) := by decide +kernel
theorem dX12_poke_116 : decode cX12_poke 116 = .ok (.istore 8, 2) := by decide +kernel
theorem dX12_poke_118 : decode cX12_poke 118 = .ok (.aload_n 0, 1) := by decide +kernel
theorem dX12_poke_119 : decode cX12_poke 119 = .ok (.sipush 364, 3) := by decide +kernel
theorem dX12_poke_122 : decode cX12_poke 122 = .ok (.iload 8, 2) := by decide +kernel
theorem dX12_poke_124 : decode cX12_poke 124 = .ok (.invokevirtual 307, 3) := by decide +kernel
theorem dX12_poke_127 : decode cX12_poke 127 = .ok (.istore 9, 2) := by decide +kernel
theorem dX12_poke_129 : decode cX12_poke 129 = .ok (.aload_n 0, 1) := by decide +kernel
theorem dX12_poke_130 : decode cX12_poke 130 = .ok (.getfield 23, 3) := by decide +kernel
theorem dX12_poke_133 : decode cX12_poke 133 = .ok (.ldc_w 300, 3) := by decide +kernel
theorem dX12_poke_136 : decode cX12_poke 136 = .ok (.aload_n 0, 1) := by decide +kernel
theorem dX12_poke_137 : decode cX12_poke 137 = .ok (.getfield 36, 3) := by decide +kernel
theorem dX12_poke_140 : decode cX12_poke 140 = .ok (.iload_n 1, 1) := by decide +kernel
theorem dX12_poke_141 : decode cX12_poke 141 = .ok (.iaload, 1) := by decide +kernel
theorem dX12_poke_142 : decode cX12_poke 142 = .ok (.iadd, 1) := by decide +kernel
theorem dX12_poke_143 : decode cX12_poke 143 = .ok (.iload 7, 2) := by decide +kernel
theorem dX12_poke_145 : decode cX12_poke 145 = .ok (.iastore, 1) := by decide +kernel
theorem dX12_poke_146 : decode cX12_poke 146 = .ok (.aload_n 0, 1) := by decide +kernel
theorem dX12_poke_147 : decode cX12_poke 147 = .ok (.getfield 23, 3) := by decide +kernel
theorem dX12_poke_150 : decode cX12_poke 150 = .ok (.ldc_w 300, 3) := by decide +kernel
theorem dX12_poke_153 : decode cX12_poke 153 = .ok (.aload_n 0, 1) := by decide +kernel
theorem dX12_poke_154 : decode cX12_poke 154 = .ok (.getfield 36, 3) := by decide +kernel
theorem dX12_poke_157 : decode cX12_poke 157 = .ok (.iload_n 2, 1) := by decide +kernel
theorem dX12_poke_158 : decode cX12_poke 158 = .ok (.iaload, 1) := by decide +kernel
theorem dX12_poke_159 : decode cX12_poke 159 = .ok (.iadd, 1) := by decide +kernel
theorem dX12_poke_160 : decode cX12_poke 160 = .ok (.iload 9, 2) := by decide +kernel
theorem dX12_poke_162 : decode cX12_poke 162 = .ok (.iastore, 1) := by decide +kernel
theorem dX12_poke_163 : decode cX12_poke 163 = .ok (.iload_n 3, 1) := by decide +kernel
theorem dX12_poke_164 : decode cX12_poke 164 = .ok (.ifCond .ne 36, 3) := by decide +kernel
theorem dX12_poke_167 : decode cX12_poke 167 = .ok (.aload_n 0, 1) := by decide +kernel
theorem dX12_poke_168 : decode cX12_poke 168 = .ok (.sipush 364, 3) := by decide +kernel
theorem dX12_poke_171 : decode cX12_poke 171 = .ok (.iload 8, 2) := by decide +kernel
theorem dX12_poke_173 : decode cX12_poke 173 = .ok (.iload 6, 2) := by decide +kernel
theorem dX12_poke_175 : decode cX12_poke 175 = .ok (.iload 9, 2) := by decide +kernel
theorem dX12_poke_177 : decode cX12_poke 177 = .ok (.iload 4, 2) := by decide +kernel
theorem dX12_poke_179 : decode cX12_poke 179 = .ok (.invokevirtual 194, 3) := by decide +kernel
theorem dX12_poke_182 : decode cX12_poke 182 = .ok (.aload_n 0, 1) := by decide +kernel
theorem dX12_poke_183 : decode cX12_poke 183 = .ok (.sipush 364, 3) := by decide +kernel
theorem dX12_poke_186 : decode cX12_poke 186 = .ok (.iload 5, 2) := by decide +kernel
theorem dX12_poke_188 : decode cX12_poke 188 = .ok (.iload 6, 2) := by decide +kernel
theorem dX12_poke_190 : decode cX12_poke 190 = .ok (.iload 8, 2) := by decide +kernel
theorem dX12_poke_192 : decode cX12_poke 192 = .ok (.iload 7, 2) := by decide +kernel
theorem dX12_poke_194 : decode cX12_poke 194 = .ok (.invokevirtual 194, 3) := by decide +kernel
theorem dX12_poke_197 : decode cX12_poke 197 = .ok (.goto 33, 3) := by decide +kernel
theorem dX12_poke_200 : decode cX12_poke 200 = .ok (.aload_n 0, 1) := by decide +kernel
theorem dX12_poke_201 : decode cX12_poke 201 = .ok (.sipush 364, 3) := by decide +kernel
theorem dX12_poke_204 : decode cX12_poke 204 = .ok (.iload 4, 2) := by decide +kernel
theorem dX12_poke_206 : decode cX12_poke 206 = .ok (.iload 8, 2) := by decide +kernel
theorem dX12_poke_208 : decode cX12_poke 208 = .ok (.iload 6, 2) := by decide +kernel
theorem dX12_poke_210 : decode cX12_poke 210 = .ok (.iload 9, 2) := by decide +kernel
theorem dX12_poke_212 : decode cX12_poke 212 = .ok (.invokevirtual 194, 3) := by decide +kernel
theorem dX12_poke_215 : decode cX12_poke 215 = .ok (.aload_n 0, 1) := by decide +kernel
theorem dX12_poke_216 : decode cX12_poke 216 = .ok (.sipush 364, 3) := by decide +kernel
theorem dX12_poke_219 : decode cX12_poke 219 = .ok (.iload 7, 2) := by decide +kernel
theorem dX12_poke_221 : decode cX12_poke 221 = .ok (.iload 5, 2) := by decide +kernel
theorem dX12_poke_223 : decode cX12_poke 223 = .ok (.iload 6, 2) := by decide +kernel
theorem dX12_poke_225 : decode cX12_poke 225 = .ok (.iload 8, 2) := by decide +kernel
theorem dX12_poke_227 : decode cX12_poke 227 = .ok (.invokevirtual 194, 3) := by decide +kernel
theorem dX12_poke_230 : decode cX12_poke 230 = .ok (.iconst 0, 1) := by decide +kernel
theorem dX12_poke_231 : decode cX12_poke 231 = .ok (.ireturn, 1) := by decide +kernel
theorem dX12_unpoke_0 : decode cX12_unpoke 0 = .ok (.aload_n 0, 1) := by decide +kernel
theorem dX12_unpoke_1 : decode cX12_unpoke 1 = .ok (.sipush 364, 3) := by decide +kernel
theorem dX12_unpoke_4 : decode cX12_unpoke 4 = .ok (.iload_n 1, 1) := by decide +kernel
theorem dX12_unpoke_5 : decode cX12_unpoke 5 = .ok (.invokevirtual 301, 3) := by decide +kernel
theorem dX12_unpoke_8 : decode cX12_unpoke 8 = .ok (.ifCond .ne 5, 3) := by decide +kernel
theorem dX12_unpoke_11 : decode cX12_unpoke 11 = .ok (.iconst 5, 1) := by decide +kernel
theorem dX12_unpoke_12 : decode cX12_unpoke 12 = .ok (.ireturn, 1) := by decide +kernel
theorem dX12_unpoke_13 : decode cX12_unpoke 13 = .ok (.aload_n 0, 1) := by decide +kernel
theorem dX12_unpoke_14 : decode cX12_unpoke 14 = .ok (.getfield 36, 3) := by decide +kernel
theorem dX12_unpoke_17 : decode cX12_unpoke 17 = .ok (.iload_n 1, 1) := by decide +kernel
theorem dX12_unpoke_18 : decode cX12_unpoke 18 = .ok (.iaload, 1) := by decide +kernel
theorem dX12_unpoke_19 : decode cX12_unpoke 19 = .ok (.istore_n 2, 1) := by decide +kernel
theorem dX12_unpoke_20 : decode cX12_unpoke 20 = .ok (.aload_n 0, 1) := by decide +kernel
theorem dX12_unpoke_21 : decode cX12_unpoke 21 = .ok (.iload_n 1, 1) := by decide +kernel
theorem dX12_unpoke_22 : decode cX12_unpoke 22 = .ok (.invokevirtual 213, 3) := by decide +kernel
theorem dX12_unpoke_25 : decode cX12_unpoke 25 = .ok (.istore_n 3, 1) := by decide +kernel
theorem dX12_unpoke_26 : decode cX12_unpoke 26 = .ok (.iload_n 3, 1) := by decide +kernel
theorem dX12_unpoke_27 : decode cX12_unpoke 27 = .ok (.iload_n 1, 1) := by decide +kernel
theorem dX12_unpoke_28 : decode cX12_unpoke 28 = .ok (.if_icmp .eq 30, 3) := by decide +kernel
theorem dX12_unpoke_31 : decode cX12_unpoke 31 = .ok (.aload_n 0, 1) := by decide +kernel
theorem dX12_unpoke_32 : decode cX12_unpoke 32 = .ok (.iload_n 3, 1) := by decide +kernel
theorem dX12_unpoke_33 : decode cX12_unpoke 33 = .ok (.invokevirtual 213, 3) := by decide +kernel
theorem dX12_unpoke_36 : decode cX12_unpoke 36 = .ok (.iload_n 1, 1) := by decide +kernel
theorem dX12_unpoke_37 : decode cX12_unpoke 37 = .ok (.if_icmp .ne 21, 3) := by decide +kernel
theorem dX12_unpoke_40 : decode cX12_unpoke 40 = .ok (.iload_n 1, 1) := by decide +kernel
theorem dX12_unpoke_41 : decode cX12_unpoke 41 = .ok (.iconst 4, 1) := by decide +kernel
theorem dX12_unpoke_42 : decode cX12_unpoke 42 = .ok (.idiv, 1) := by decide +kernel
theorem dX12_unpoke_43 : decode cX12_unpoke 43 = .ok (.iload_n 2, 1) := by decide +kernel
theorem dX12_unpoke_44 : decode cX12_unpoke 44 = .ok (.iconst 4, 1) := by decide +kernel
theorem dX12_unpoke_45 : decode cX12_unpoke 45 = .ok (.idiv, 1) := by decide +kernel
theorem dX12_unpoke_46 : decode cX12_unpoke 46 = .ok (.if_icmp .eq 12, 3) := by decide +kernel
theorem dX12_unpoke_49 : decode cX12_unpoke 49 = .ok (.iload_n 1, 1) := by decide +kernel
theorem dX12_unpoke_50 : decode cX12_unpoke 50 = .ok (.iconst 2, 1) := by decide +kernel
theorem dX12_unpoke_51 : decode cX12_unpoke 51 = .ok (.irem, 1) := by decide +kernel
theorem dX12_unpoke_52 : decode cX12_unpoke 52 = .ok (.iload_n 2, 1) := by decide +kernel
theorem dX12_unpoke_53 : decode cX12_unpoke 53 = .ok (.iconst 2, 1) := by decide +kernel
theorem dX12_unpoke_54 : decode cX12_unpoke 54 = .ok (.irem, 1) := by decide +kernel
theorem dX12_unpoke_55 : decode cX12_unpoke 55 = .ok (.if_icmp .eq 5, 3) := by decide +kernel
theorem dX12_unpoke_58 : decode cX12_unpoke 58 = .ok (.iconst 5, 1) := by decide +kernel
theorem dX12_unpoke_59 : decode cX12_unpoke 59 = .ok (.ireturn, 1) := by decide +kernel
theorem dX12_unpoke_60 : decode cX12_unpoke 60 = .ok (.aload_n 0, 1) := by decide +kernel
theorem dX12_unpoke_61 : decode cX12_unpoke 61 = .ok (.sipush 364, 3) := by decide +kernel
theorem dX12_unpoke_64 : decode cX12_unpoke 64 = .ok (.aload_n 0, 1) := by decide +kernel
theorem dX12_unpoke_65 : decode cX12_unpoke 65 = .ok (.iload_n 1, 1) := by decide +kernel
theorem dX12_unpoke_66 : decode cX12_unpoke 66 = .ok (.iconst 2, 1) := by decide +kernel
theorem dX12_unpoke_67 : decode cX12_unpoke 67 = .ok (.invokestatic 209, 3) := by decide +kernel
theorem dX12_unpoke_70 : decode cX12_unpoke 70 = .ok (.invokevirtual 310, 3) := by decide +kernel
theorem dX12_unpoke_73 : decode cX12_unpoke 73 = .ok (.aload_n 0, 1) := by decide +kernel
theorem dX12_unpoke_74 : decode cX12_unpoke 74 = .ok (.iload_n 2, 1) := by decide +kernel
theorem dX12_unpoke_75 : decode cX12_unpoke 75 = .ok (.iconst 2, 1) := by decide +kernel
theorem dX12_unpoke_76 : decode cX12_unpoke 76 = .ok (.invokestatic 209, 3) := by decide +kernel
theorem dX12_unpoke_79 : decode cX12_unpoke 79 = .ok (.invokevirtual 310, 3) := by decide +kernel
theorem dX12_unpoke_82 : decode cX12_unpoke 82 = .ok (.invokevirtual 313, 3) := by decide +kernel
theorem dX12_unpoke_85 : decode cX12_unpoke 85 = .ok (.aload_n 0, 1) := by decide +kernel
theorem dX12_unpoke_86 : decode cX12_unpoke 86 = .ok (.sipush 364, 3) := by decide +kernel
theorem dX12_unpoke_89 : decode cX12_unpoke 89 = .ok (.aload_n 0, 1) := by decide +kernel
theorem dX12_unpoke_90 : decode cX12_unpoke 90 = .ok (.iload_n 1, 1) := by decide +kernel
theorem dX12_unpoke_91 : decode cX12_unpoke 91 = .ok (.iconst 3, 1) := by decide +kernel
theorem dX12_unpoke_92 : decode cX12_unpoke 92 = .ok (.invokestatic 209, 3) := by decide +kernel
theorem dX12_unpoke_95 : decode cX12_unpoke 95 = .ok (.invokevirtual 310, 3) := by decide +kernel
theorem dX12_unpoke_98 : decode cX12_unpoke 98 = .ok (.aload_n 0, 1) := by decide +kernel
theorem dX12_unpoke_99 : decode cX12_unpoke 99 = .ok (.iload_n 2, 1) := by decide +kernel
theorem dX12_unpoke_100 : decode cX12_unpoke 100 = .ok (.iconst 1, 1) := by decide +kernel
theorem dX12_unpoke_101 : decode cX12_unpoke 101 = .ok (.invokestatic 209, 3) := by decide +kernel
theorem dX12_unpoke_104 : decode cX12_unpoke 104 = .ok (.invokevirtual 310, 3) := by decide +kernel
theorem dX12_unpoke_107 : decode cX12_unpoke 107 = .ok (.invokevirtual 313, 3) := by decide +kernel
theorem dX12_unpoke_110 : decode cX12_unpoke 110 = .ok (.iload_n 1, 1) := by decide +kernel
theorem dX12_unpoke_111 : decode cX12_unpoke 111 = .ok (.iconst 4, 1) := by decide +kernel
theorem dX12_unpoke_112 : decode cX12_unpoke 112 = .ok (.idiv, 1) := by decide +kernel
theorem dX12_unpoke_113 : decode cX12_unpoke 113 = .ok (.istore 4, 2) := by decide +kernel
theorem dX12_unpoke_115 : decode cX12_unpoke 115 = .ok (.iload_n 2, 1) := by decide +kernel
theorem dX12_unpoke_116 : decode cX12_unpoke 116 = .ok (.iconst 4, 1) := by decide +kernel
theorem dX12_unpoke_117 : decode cX12_unpoke 117 = .ok (.idiv, 1) := by decide +kernel
theorem dX12_unpoke_118 : decode cX12_unpoke 118 = .ok (.istore 5, 2) := by decide +kernel
theorem dX12_unpoke_120 : decode cX12_unpoke 120 = .ok (.aload_n 0, 1) := by decide +kernel
theorem dX12_unpoke_121 : decode cX12_unpoke 121 = .ok (.sipush 364, 3) := by decide +kernel
theorem dX12_unpoke_124 : decode cX12_unpoke 124 = .ok (.iload 4, 2) := by decide +kernel
theorem dX12_unpoke_126 : decode cX12_unpoke 126 = .ok (.iload 5, 2) := by decide +kernel
theorem dX12_unpoke_128 : decode cX12_unpoke 128 = .ok (.if_icmp .le 8, 3) := by decide +kernel
theorem dX12_unpoke_131 : decode cX12_unpoke 131 = .ok (.iload 4, 2) := by decide +kernel
theorem dX12_unpoke_133 : decode cX12_unpoke 133 = .ok (.goto 5, 3) := by decide +kernel
theorem dX12_unpoke_136 : decode cX12_unpoke 136 = .ok (.iload 5, 2) := by decide +kernel
theorem dX12_unpoke_138 : decode cX12_unpoke 138 = .ok (.invokevirtual 317, 3) := by decide +kernel
theorem dX12_unpoke_141 : decode cX12_unpoke 141 = .ok (.aload_n 0, 1) := by decide +kernel
theorem dX12_unpoke_142 : decode cX12_unpoke 142 = .ok (.sipush 364, 3) := by decide +kernel
theorem dX12_unpoke_145 : decode cX12_unpoke 145 = .ok (.iload 4, 2) := by decide +kernel
theorem dX12_unpoke_147 : decode cX12_unpoke 147 = .ok (.iload 5, 2) := by decide +kernel
theorem dX12_unpoke_149 : decode cX12_unpoke 149 = .ok (.if_icmp .le 8, 3) := by decide +kernel
theorem dX12_unpoke_152 : decode cX12_unpoke 152 = .ok (.iload 5, 2) := by decide +kernel
theorem dX12_unpoke_154 : decode cX12_unpoke 154 = .ok (.goto 5, 3) := by decide +kernel
theorem dX12_unpoke_157 : decode cX12_unpoke 157 = .ok (.iload 4, 2) := by decide +kernel
theorem dX12_unpoke_159 : decode cX12_unpoke 159 = .ok (.invokevirtual 317, 3) := by decide +kernel
theorem dX12_unpoke_162 : decode cX12_unpoke 162 = .ok (.aload_n 0, 1) := by decide +kernel
theorem dX12_unpoke_163 : decode cX12_unpoke 163 = .ok (.invokevirtual 320, 3) := by decide +kernel
theorem dX12_unpoke_166 : decode cX12_unpoke 166 = .ok (.ireturn, 1) := by decide +kernel
theorem dX12_slide_0 : decode cX12_slide 0 = .ok (.aload_n 0, 1) := by decide +kernel
theorem dX12_slide_1 : decode cX12_slide 1 = .ok (.sipush 364, 3) := by decide +kernel
theorem dX12_slide_4 : decode cX12_slide 4 = .ok (.iload_n 1, 1) := by decide +kernel
theorem dX12_slide_5 : decode cX12_slide 5 = .ok (.invokevirtual 301, 3) := by decide +kernel
theorem dX12_slide_8 : decode cX12_slide 8 = .ok (.ifCond .ne 5, 3) := by decide +kernel
theorem dX12_slide_11 : decode cX12_slide 11 = .ok (.iconst 5, 1) := by decide +kernel
theorem dX12_slide_12 : decode cX12_slide 12 = .ok (.ireturn, 1) := by decide +kernel
theorem dX12_slide_13 : decode cX12_slide 13 = .ok (.aload_n 0, 1) := by decide +kernel
theorem dX12_slide_14 : decode cX12_slide 14 = .ok (.iload_n 1, 1) := by decide +kernel
theorem dX12_slide_15 : decode cX12_slide 15 = .ok (.invokevirtual 213, 3) := by decide +kernel
theorem dX12_slide_18 : decode cX12_slide 18 = .ok (.istore_n 2, 1) := by decide +kernel
theorem dX12_slide_19 : decode cX12_slide 19 = .ok (.aload_n 0, 1) := by decide +kernel
theorem dX12_slide_20 : decode cX12_slide 20 = .ok (.iload_n 2, 1) := by decide +kernel
theorem dX12_slide_21 : decode cX12_slide 21 = .ok (.invokevirtual 213, 3) := by decide +kernel
theorem dX12_slide_24 : decode cX12_slide 24 = .ok (.istore_n 3, 1) := by decide +kernel
theorem dX12_slide_25 : decode cX12_slide 25 = .ok (.aload_n 0, 1) := by decide +kernel
theorem dX12_slide_26 : decode cX12_slide 26 = .ok (.iload_n 3, 1) := by decide +kernel
theorem dX12_slide_27 : decode cX12_slide 27 = .ok (.invokevirtual 213, 3) := by decide +kernel
theorem dX12_slide_30 : decode cX12_slide 30 = .ok (.iload_n 1, 1) := by decide +kernel
theorem dX12_slide_31 : decode cX12_slide 31 = .ok (.if_icmp .ne 40, 3) := by decide +kernel
theorem dX12_slide_34 : decode cX12_slide 34 = .ok (.iload_n 2, 1) := by decide +kernel
theorem dX12_slide_35 : decode cX12_slide 35 = .ok (.iload_n 1, 1) := by decide +kernel
theorem dX12_slide_36 : decode cX12_slide 36 = .ok (.if_icmp .eq 35, 3) := by decide +kernel
theorem dX12_slide_39 : decode cX12_slide 39 = .ok (.iload_n 3, 1) := by decide +kernel
theorem dX12_slide_40 : decode cX12_slide 40 = .ok (.iload_n 1, 1) := by decide +kernel
theorem dX12_slide_41 : decode cX12_slide 41 = .ok (.if_icmp .eq 30, 3) := by decide +kernel
theorem dX12_slide_44 : decode cX12_slide 44 = .ok (.iload_n 1, 1) := by decide +kernel
theorem dX12_slide_45 : decode cX12_slide 45 = .ok (.iconst 4, 1) := by decide +kernel
theorem dX12_slide_46 : decode cX12_slide 46 = .ok (.idiv, 1) := by decide +kernel
theorem dX12_slide_47 : decode cX12_slide 47 = .ok (.iload_n 2, 1) := by decide +kernel
theorem dX12_slide_48 : decode cX12_slide 48 = .ok (.iconst 4, 1) := by decide +kernel
theorem dX12_slide_49 : decode cX12_slide 49 = .ok (.idiv, 1) := by decide +kernel
theorem dX12_slide_50 : decode cX12_slide 50 = .ok (.if_icmp .eq 21, 3) := by decide +kernel
theorem dX12_slide_53 : decode cX12_slide 53 = .ok (.iload_n 1, 1) := by decide +kernel
theorem dX12_slide_54 : decode cX12_slide 54 = .ok (.iconst 4, 1) := by decide +kernel
theorem dX12_slide_55 : decode cX12_slide 55 = .ok (.idiv, 1) := by decide +kernel
theorem dX12_slide_56 : decode cX12_slide 56 = .ok (.iload_n 3, 1) := by decide +kernel
theorem dX12_slide_57 : decode cX12_slide 57 = .ok (.iconst 4, 1) := by decide +kernel
theorem dX12_slide_58 : decode cX12_slide 58 = .ok (.idiv, 1) := by decide +kernel
theorem dX12_slide_59 : decode cX12_slide 59 = .ok (.if_icmp .eq 12, 3) := by decide +kernel
theorem dX12_slide_62 : decode cX12_slide 62 = .ok (.iload_n 2, 1) := by decide +kernel
theorem dX12_slide_63 : decode cX12_slide 63 = .ok (.iconst 4, 1) := by decide +kernel
theorem dX12_slide_64 : decode cX12_slide 64 = .ok (.idiv, 1) := by decide +kernel
theorem dX12_slide_65 : decode cX12_slide 65 = .ok (.iload_n 3, 1) := by decide +kernel
theorem dX12_slide_66 : decode cX12_slide 66 = .ok (.iconst 4, 1) := by decide +kernel
theorem dX12_slide_67 : decode cX12_slide 67 = .ok (.idiv, 1) := by decide +kernel
theorem dX12_slide_68 : decode cX12_slide 68 = .ok (.if_icmp .ne 5, 3) := by decide +kernel
theorem dX12_slide_71 : decode cX12_slide 71 = .ok (.iconst 5, 1) := by decide +kernel
theorem dX12_slide_72 : decode cX12_slide 72 = .ok (.ireturn, 1) := by decide +kernel
theorem dX12_slide_73 : decode cX12_slide 73 = .ok (.aload_n 0, 1) := by decide +kernel
theorem dX12_slide_74 : decode cX12_slide 74 = .ok (.iload_n 1, 1) := by decide +kernel
theorem dX12_slide_75 : decode cX12_slide 75 = .ok (.invokevirtual 326, 3) := by decide +kernel
theorem dX12_slide_78 : decode cX12_slide 78 = .ok (.ifCond .ne 21, 3) := by decide +kernel
theorem dX12_slide_81 : decode cX12_slide 81 = .ok (.aload_n 0, 1) := by decide +kernel
theorem dX12_slide_82 : decode cX12_slide 82 = .ok (.iload_n 2, 1) := by decide +kernel
theorem dX12_slide_83 : decode cX12_slide 83 = .ok (.invokevirtual 326, 3) := by decide +kernel
theorem dX12_slide_86 : decode cX12_slide 86 = .ok (.ifCond .ne 13, 3) := by decide +kernel
theorem dX12_slide_89 : decode cX12_slide 89 = .ok (.aload_n 0, 1) := by decide +kernel
theorem dX12_slide_90 : decode cX12_slide 90 = .ok (.iload_n 3, 1) := by decide +kernel
theorem dX12_slide_91 : decode cX12_slide 91 = .ok (.invokevirtual 326, 3) := by decide +kernel
theorem dX12_slide_94 : decode cX12_slide 94 = .ok (.ifCond .ne 5, 3) := by decide +kernel
theorem dX12_slide_97 : decode cX12_slide 97 = .ok (.iconst 5, 1) := by decide +kernel
theorem dX12_slide_98 : decode cX12_slide 98 = .ok (.ireturn, 1) := by decide +kernel
theorem dX12_slide_99 : decode cX12_slide 99 = .ok (.iconst 0, 1) := by decide +kernel
theorem dX12_slide_100 : decode cX12_slide 100 = .ok (.istore 4, 2) := by decide +kernel
theorem dX12_slide_102 : decode cX12_slide 102 = .ok (.iload 4, 2) := by decide +kernel
theorem dX12_slide_104 : decode cX12_slide 104 = .ok (.iconst 4, 1) := by decide +kernel
theorem dX12_slide_105 : decode cX12_slide 105 = .ok (.aload_n 0, 1) := by decide +kernel
theorem dX12_slide_106 : decode cX12_slide 106 = .ok (.getfield 13, 3) := by decide +kernel
theorem dX12_slide_109 : decode cX12_slide 109 = .ok (.sipush 364, 3) := by decide +kernel
theorem dX12_slide_112 : decode cX12_slide 112 = .ok (.iaload, 1) := by decide +kernel
theorem dX12_slide_113 : decode cX12_slide 113 = .ok (.imul, 1) := by decide +kernel
theorem dX12_slide_114 : decode cX12_slide 114 = .ok (.if_icmp .ge 22, 3) := by decide +kernel
theorem dX12_slide_117 : decode cX12_slide 117 = .ok (.aload_n 0, 1) := by decide +kernel
theorem dX12_slide_118 : decode cX12_slide 118 = .ok (.getfield 101, 3) := by decide +kernel
theorem dX12_slide_121 : decode cX12_slide 121 = .ok (.iload 4, 2) := by decide +kernel
theorem dX12_slide_123 : decode cX12_slide 123 = .ok (.aload_n 0, 1) := by decide +kernel
theorem dX12_slide_124 : decode cX12_slide 124 = .ok (.iload 4, 2) := by decide +kernel
theorem dX12_slide_126 : decode cX12_slide 126 = .ok (.invokevirtual 310, 3) := by decide +kernel
theorem dX12_slide_129 : decode cX12_slide 129 = .ok (.iastore, 1) := by decide +kernel
theorem dX12_slide_130 : decode cX12_slide 130 = .ok (.iinc 4 1, 3) := by decide +kernel
theorem dX12_slide_133 : decode cX12_slide 133 = .ok (.goto (-31), 3) := by decide +kernel
theorem dX12_slide_136 : decode cX12_slide 136 = .ok (.aload_n 0, 1) := by decide +kernel
theorem dX12_slide_137 : decode cX12_slide 137 = .ok (.iload_n 1, 1) := by decide +kernel
theorem dX12_slide_138 : decode cX12_slide 138 = .ok (.invokevirtual 329, 3) := by decide +kernel
theorem dX12_slide_141 : decode cX12_slide 141 = .ok (.aload_n 0, 1) := by decide +kernel
theorem dX12_slide_142 : decode cX12_slide 142 = .ok (.iload_n 2, 1) := by decide +kernel
theorem dX12_slide_143 : decode cX12_slide 143 = .ok (.invokevirtual 329, 3) := by decide +kernel
theorem dX12_slide_146 : decode cX12_slide 146 = .ok (.aload_n 0, 1) := by decide +kernel
theorem dX12_slide_147 : decode cX12_slide 147 = .ok (.iload_n 3, 1) := by decide +kernel
theorem dX12_slide_148 : decode cX12_slide 148 = .ok (.invokevirtual 329, 3) := by decide +kernel
theorem dX12_slide_151 : decode cX12_slide 151 = .ok (.iconst 0, 1) := by decide +kernel
theorem dX12_slide_152 : decode cX12_slide 152 = .ok (.ireturn, 1) := by decide +kernel
theorem dX12_goesOver_0 : decode cX12_goesOver 0 = .ok (.iload_n 1, 1) := by decide +kernel
theorem dX12_goesOver_1 : decode cX12_goesOver 1 = .ok (.iconst 2, 1) := by decide +kernel
theorem dX12_goesOver_2 : decode cX12_goesOver 2 = .ok (.irem, 1) := by decide +kernel
theorem dX12_goesOver_3 : decode cX12_goesOver 3 = .ok (.iconst 1, 1) := by decide +kernel
theorem dX12_goesOver_4 : decode cX12_goesOver 4 = .ok (.if_icmp .ne 19, 3) := by decide +kernel
theorem dX12_goesOver_7 : decode cX12_goesOver 7 = .ok (.aload_n 0, 1) := by decide +kernel
theorem dX12_goesOver_8 : decode cX12_goesOver 8 = .ok (.getfield 36, 3) := by decide +kernel
theorem dX12_goesOver_11 : decode cX12_goesOver 11 = .ok (.iload_n 1, 1) := by decide +kernel
theorem dX12_goesOver_12 : decode cX12_goesOver 12 = .ok (.iaload, 1) := by decide +kernel
theorem dX12_goesOver_13 : decode cX12_goesOver 13 = .ok (.iconst 2, 1) := by decide +kernel
theorem dX12_goesOver_14 : decode cX12_goesOver 14 = .ok (.irem, 1) := by decide +kernel
theorem dX12_goesOver_15 : decode cX12_goesOver 15 = .ok (.iconst 1, 1) := by decide +kernel
theorem dX12_goesOver_16 : decode cX12_goesOver 16 = .ok (.if_icmp .ne 7, 3) := by decide +kernel
theorem dX12_goesOver_19 : decode cX12_goesOver 19 = .ok (.iconst 1, 1) := by decide +kernel
theorem dX12_goesOver_20 : decode cX12_goesOver 20 = .ok (.goto 4, 3) := by decide +kernel
theorem dX12_goesOver_23 : decode cX12_goesOver 23 = .ok (.iconst 0, 1) := by decide +kernel
theorem dX12_goesOver_24 : decode cX12_goesOver 24 = .ok (.ireturn, 1) := by decide +kernel
theorem dX12_slides_0 : decode cX12_slides 0 = .ok (.aload_n 0, 1) := by decide +kernel
theorem dX12_slides_1 : decode cX12_slides 1 = .ok (.getfield 36, 3) := by decide +kernel
theorem dX12_slides_4 : decode cX12_slides 4 = .ok (.iload_n 1, 1) := by decide +kernel
theorem dX12_slides_5 : decode cX12_slides 5 = .ok (.iaload, 1) := by decide +kernel
theorem dX12_slides_6 : decode cX12_slides 6 = .ok (.istore_n 2, 1) := by decide +kernel
theorem dX12_slides_7 : decode cX12_slides 7 = .ok (.ldc_w 300, 3) := by decide +kernel
theorem dX12_slides_10 : decode cX12_slides 10 = .ok (.istore_n 3, 1) := by decide +kernel
theorem dX12_slides_11 : decode cX12_slides 11 = .ok (.aload_n 0, 1) := by decide +kernel
theorem dX12_slides_12 : decode cX12_slides 12 = .ok (.getfield 23, 3) := by decide +kernel
theorem dX12_slides_15 : decode cX12_slides 15 = .ok (.iload_n 3, 1) := by decide +kernel
theorem dX12_slides_16 : decode cX12_slides 16 = .ok (.iload_n 1, 1) := by decide +kernel
theorem dX12_slides_17 : decode cX12_slides 17 = .ok (.iadd, 1) := by decide +kernel
theorem dX12_slides_18 : decode cX12_slides 18 = .ok (.aload_n 0, 1) := by decide +kernel
theorem dX12_slides_19 : decode cX12_slides 19 = .ok (.getfield 101, 3) := by decide +kernel
theorem dX12_slides_22 : decode cX12_slides 22 = .ok (.iload_n 2, 1) := by decide +kernel
theorem dX12_slides_23 : decode cX12_slides 23 = .ok (.iconst 2, 1) := by decide +kernel
theorem dX12_slides_24 : decode cX12_slides 24 = .ok (.invokestatic 209, 3) := by decide +kernel
theorem dX12_slides_27 : decode cX12_slides 27 = .ok (.iaload, 1) := by decide +kernel
theorem dX12_slides_28 : decode cX12_slides 28 = .ok (.iastore, 1) := by decide +kernel
theorem dX12_slides_29 : decode cX12_slides 29 = .ok (.aload_n 0, 1) := by decide +kernel
theorem dX12_slides_30 : decode cX12_slides 30 = .ok (.getfield 23, 3) := by decide +kernel
theorem dX12_slides_33 : decode cX12_slides 33 = .ok (.iload_n 3, 1) := by decide +kernel
theorem dX12_slides_34 : decode cX12_slides 34 = .ok (.iload_n 1, 1) := by decide +kernel
theorem dX12_slides_35 : decode cX12_slides 35 = .ok (.iconst 2, 1) := by decide +kernel
theorem dX12_slides_36 : decode cX12_slides 36 = .ok (.invokestatic 209, 3) := by decide +kernel
theorem dX12_slides_39 : decode cX12_slides 39 = .ok (.iadd, 1) := by decide +kernel
theorem dX12_slides_40 : decode cX12_slides 40 = .ok (.aload_n 0, 1) := by decide +kernel
theorem dX12_slides_41 : decode cX12_slides 41 = .ok (.getfield 101, 3) := by decide +kernel
theorem dX12_slides_44 : decode cX12_slides 44 = .ok (.iload_n 1, 1) := by decide +kernel
theorem dX12_slides_45 : decode cX12_slides 45 = .ok (.iaload, 1) := by decide +kernel
theorem dX12_slides_46 : decode cX12_slides 46 = .ok (.iastore, 1) := by decide +kernel
theorem dX12_slides_47 : decode cX12_slides 47 = .ok (.aload_n 0, 1) := by decide +kernel
theorem dX12_slides_48 : decode cX12_slides 48 = .ok (.getfield 23, 3) := by decide +kernel
theorem dX12_slides_51 : decode cX12_slides 51 = .ok (.iload_n 3, 1) := by decide +kernel
theorem dX12_slides_52 : decode cX12_slides 52 = .ok (.iload_n 2, 1) := by decide +kernel
theorem dX12_slides_53 : decode cX12_slides 53 = .ok (.iadd, 1) := by decide +kernel
theorem dX12_slides_54 : decode cX12_slides 54 = .ok (.aload_n 0, 1) := by decide +kernel
theorem dX12_slides_55 : decode cX12_slides 55 = .ok (.getfield 101, 3) := by decide +kernel
theorem dX12_slides_58 : decode cX12_slides 58 = .ok (.iload_n 1, 1) := by decide +kernel
theorem dX12_slides_59 : decode cX12_slides 59 = .ok (.iconst 2, 1) := by decide +kernel
theorem dX12_slides_60 : decode cX12_slides 60 = .ok (.invokestatic 209, 3) := by decide +kernel
theorem dX12_slides_63 : decode cX12_slides 63 = .ok (.iaload, 1) := by decide +kernel
theorem dX12_slides_64 : decode cX12_slides 64 = .ok (.iastore, 1) := by decide +kernel
theorem dX12_slides_65 : decode cX12_slides 65 = .ok (.aload_n 0, 1) := by decide +kernel
theorem dX12_slides_66 : decode cX12_slides 66 = .ok (.getfield 23, 3) := by decide +kernel
theorem dX12_slides_69 : decode cX12_slides 69 = .ok (.iload_n 3, 1) := by decide +kernel
theorem dX12_slides_70 : decode cX12_slides 70 = .ok (.iload_n 2, 1) := by decide +kernel
theorem dX12_slides_71 : decode cX12_slides 71 = .ok (.iconst 2, 1) := by decide +kernel
theorem dX12_slides_72 : decode cX12_slides 72 = .ok (.invokestatic 209, 3) := by decide +kernel
theorem dX12_slides_75 : decode cX12_slides 75 = .ok (.iadd, 1) := by decide +kernel
theorem dX12_slides_76 : decode cX12_slides 76 = .ok (.aload_n 0, 1) := by decide +kernel
theorem dX12_slides_77 : decode cX12_slides 77 = .ok (.getfield 101, 3) := by decide +kernel
theorem dX12_slides_80 : decode cX12_slides 80 = .ok (.iload_n 1, 1) := by decide +kernel
theorem dX12_slides_81 : decode cX12_slides 81 = .ok (.iaload, 1) := by decide +kernel
theorem dX12_slides_82 : decode cX12_slides 82 = .ok (.iastore, 1) := by decide +kernel
theorem dX12_slides_83 : decode cX12_slides 83 = .ok (.return_, 1) := by decide +kernel
theorem dX12_has_0 : decode cX12_has 0 = .ok (.iload_n 1, 1) := by decide +kernel
theorem dX12_has_1 : decode cX12_has 1 = .ok (.iconst 4, 1) := by decide +kernel
theorem dX12_has_2 : decode cX12_has 2 = .ok (.idiv, 1) := by decide +kernel
theorem dX12_has_3 : decode cX12_has 3 = .ok (.bipush 31, 2) := by decide +kernel
theorem dX12_has_5 : decode cX12_has 5 = .ok (.if_icmp .ge 18, 3) := by decide +kernel
theorem dX12_has_8 : decode cX12_has 8 = .ok (.iload_n 0, 1) := by decide +kernel
theorem dX12_has_9 : decode cX12_has 9 = .ok (.iload_n 1, 1) := by decide +kernel
theorem dX12_has_10 : decode cX12_has 10 = .ok (.iconst 4, 1) := by decide +kernel
theorem dX12_has_11 : decode cX12_has 11 = .ok (.idiv, 1) := by decide +kernel
theorem dX12_has_12 : decode cX12_has 12 = .ok (.ishr, 1) := by decide +kernel
theorem dX12_has_13 : decode cX12_has 13 = .ok (.iconst 1, 1) := by decide +kernel
theorem dX12_has_14 : decode cX12_has 14 = .ok (.iand, 1) := by decide +kernel
theorem dX12_has_15 : decode cX12_has 15 = .ok (.iconst 1, 1) := by decide +kernel
theorem dX12_has_16 : decode cX12_has 16 = .ok (.if_icmp .ne 7, 3) := by decide +kernel
theorem dX12_has_19 : decode cX12_has 19 = .ok (.iconst 1, 1) := by decide +kernel
theorem dX12_has_20 : decode cX12_has 20 = .ok (.goto 4, 3) := by decide +kernel
theorem dX12_has_23 : decode cX12_has 23 = .ok (.iconst 0, 1) := by decide +kernel
theorem dX12_has_24 : decode cX12_has 24 = .ok (.ireturn, 1) := by decide +kernel
theorem dX12_wayOut_0 : decode cX12_wayOut 0 = .ok (.iload_n 2, 1) := by decide +kernel
theorem dX12_wayOut_1 : decode cX12_wayOut 1 = .ok (.iload_n 3, 1) := by decide +kernel
theorem dX12_wayOut_2 : decode cX12_wayOut 2 = .ok (.invokestatic 209, 3) := by decide +kernel
theorem dX12_wayOut_5 : decode cX12_wayOut 5 = .ok (.istore 4, 2) := by decide +kernel
theorem dX12_wayOut_7 : decode cX12_wayOut 7 = .ok (.iconst 0, 1) := by decide +kernel
theorem dX12_wayOut_8 : decode cX12_wayOut 8 = .ok (.istore 5, 2) := by decide +kernel
theorem dX12_wayOut_10 : decode cX12_wayOut 10 = .ok (.iload 5, 2) := by decide +kernel
theorem dX12_wayOut_12 : decode cX12_wayOut 12 = .ok (.sipush 200, 3) := by decide +kernel
theorem dX12_wayOut_15 : decode cX12_wayOut 15 = .ok (.if_icmp .ge 39, 3) := by decide +kernel
theorem dX12_wayOut_18 : decode cX12_wayOut 18 = .ok (.iload_n 1, 1) := by decide +kernel
theorem dX12_wayOut_19 : decode cX12_wayOut 19 = .ok (.aload_n 0, 1) := by decide +kernel
theorem dX12_wayOut_20 : decode cX12_wayOut 20 = .ok (.getfield 36, 3) := by decide +kernel
theorem dX12_wayOut_23 : decode cX12_wayOut 23 = .ok (.iload 4, 2) := by decide +kernel
theorem dX12_wayOut_25 : decode cX12_wayOut 25 = .ok (.iaload, 1) := by decide +kernel
theorem dX12_wayOut_26 : decode cX12_wayOut 26 = .ok (.invokestatic 332, 3) := by decide +kernel
theorem dX12_wayOut_29 : decode cX12_wayOut 29 = .ok (.ifCond .ne 6, 3) := by decide +kernel
theorem dX12_wayOut_32 : decode cX12_wayOut 32 = .ok (.iload 4, 2) := by decide +kernel
theorem dX12_wayOut_34 : decode cX12_wayOut 34 = .ok (.ireturn, 1) := by decide +kernel
theorem dX12_wayOut_35 : decode cX12_wayOut 35 = .ok (.aload_n 0, 1) := by decide +kernel
theorem dX12_wayOut_36 : decode cX12_wayOut 36 = .ok (.getfield 36, 3) := by decide +kernel
theorem dX12_wayOut_39 : decode cX12_wayOut 39 = .ok (.iload 4, 2) := by decide +kernel
theorem dX12_wayOut_41 : decode cX12_wayOut 41 = .ok (.iaload, 1) := by decide +kernel
theorem dX12_wayOut_42 : decode cX12_wayOut 42 = .ok (.iload_n 3, 1) := by decide +kernel
theorem dX12_wayOut_43 : decode cX12_wayOut 43 = .ok (.invokestatic 209, 3) := by decide +kernel
theorem dX12_wayOut_46 : decode cX12_wayOut 46 = .ok (.istore 4, 2) := by decide +kernel
theorem dX12_wayOut_48 : decode cX12_wayOut 48 = .ok (.iinc 5 1, 3) := by decide +kernel
theorem dX12_wayOut_51 : decode cX12_wayOut 51 = .ok (.goto (-41), 3) := by decide +kernel
theorem dX12_wayOut_54 : decode cX12_wayOut 54 = .ok (.iconst (-1), 1) := by decide +kernel
theorem dX12_wayOut_55 : decode cX12_wayOut 55 = .ok (.ireturn, 1) := by decide +kernel
theorem dX12_flype_0 : decode cX12_flype 0 = .ok (.aload_n 0, 1) := by decide +kernel
theorem dX12_flype_1 : decode cX12_flype 1 = .ok (.sipush 364, 3) := by decide +kernel
theorem dX12_flype_4 : decode cX12_flype 4 = .ok (.iload_n 1, 1) := by decide +kernel
theorem dX12_flype_5 : decode cX12_flype 5 = .ok (.invokevirtual 301, 3) := by decide +kernel
theorem dX12_flype_8 : decode cX12_flype 8 = .ok (.ifCond .eq 41, 3) := by decide +kernel
theorem dX12_flype_11 : decode cX12_flype 11 = .ok (.iload_n 2, 1) := by decide +kernel
theorem dX12_flype_12 : decode cX12_flype 12 = .ok (.ifCond .lt 37, 3) := by decide +kernel
theorem dX12_flype_15 : decode cX12_flype 15 = .ok (.aload_n 0, 1) := by decide +kernel
theorem dX12_flype_16 : decode cX12_flype 16 = .ok (.getfield 13, 3) := by decide +kernel
theorem dX12_flype_19 : decode cX12_flype 19 = .ok (.sipush 364, 3) := by decide +kernel
theorem dX12_flype_22 : decode cX12_flype 22 = .ok (.iaload, 1) := by decide +kernel
theorem dX12_flype_23 : decode cX12_flype 23 = .ok (.bipush 31, 2) := by decide +kernel
theorem dX12_flype_25 : decode cX12_flype 25 = .ok (.if_icmp .ge 16, 3) := by decide +kernel
theorem dX12_flype_28 : decode cX12_flype 28 = .ok (.iload_n 2, 1) := by decide +kernel
theorem dX12_flype_29 : decode cX12_flype 29 = .ok (.aload_n 0, 1) := by decide +kernel
theorem dX12_flype_30 : decode cX12_flype 30 = .ok (.getfield 13, 3) := by decide +kernel
theorem dX12_flype_33 : decode cX12_flype 33 = .ok (.sipush 364, 3) := by decide +kernel
theorem dX12_flype_36 : decode cX12_flype 36 = .ok (.iaload, 1) := by decide +kernel
theorem dX12_flype_37 : decode cX12_flype 37 = .ok (.ishr, 1) := by decide +kernel
theorem dX12_flype_38 : decode cX12_flype 38 = .ok (.ifCond .ne 11, 3) := by decide +kernel
theorem dX12_flype_41 : decode cX12_flype 41 = .ok (.iload_n 2, 1) := by decide +kernel
theorem dX12_flype_42 : decode cX12_flype 42 = .ok (.iload_n 1, 1) := by decide +kernel
theorem dX12_flype_43 : decode cX12_flype 43 = .ok (.invokestatic 332, 3) := by decide +kernel
theorem dX12_flype_46 : decode cX12_flype 46 = .ok (.ifCond .eq 5, 3) := by decide +kernel
theorem dX12_flype_49 : decode cX12_flype 49 = .ok (.iconst 5, 1) := by decide +kernel
theorem dX12_flype_50 : decode cX12_flype 50 = .ok (.ireturn, 1) := by decide +kernel
theorem dX12_flype_51 : decode cX12_flype 51 = .ok (.aload_n 0, 1) := by decide +kernel
theorem dX12_flype_52 : decode cX12_flype 52 = .ok (.getfield 36, 3) := by decide +kernel
theorem dX12_flype_55 : decode cX12_flype 55 = .ok (.iload_n 1, 1) := by decide +kernel
theorem dX12_flype_56 : decode cX12_flype 56 = .ok (.iaload, 1) := by decide +kernel
theorem dX12_flype_57 : decode cX12_flype 57 = .ok (.istore_n 3, 1) := by decide +kernel
theorem dX12_flype_58 : decode cX12_flype 58 = .ok (.aload_n 0, 1) := by decide +kernel
theorem dX12_flype_59 : decode cX12_flype 59 = .ok (.getfield 36, 3) := by decide +kernel
theorem dX12_flype_62 : decode cX12_flype 62 = .ok (.iload_n 1, 1) := by decide +kernel
theorem dX12_flype_63 : decode cX12_flype 63 = .ok (.iconst 1, 1) := by decide +kernel
theorem dX12_flype_64 : decode cX12_flype 64 = .ok (.invokestatic 209, 3) := by decide +kernel
theorem dX12_flype_67 : decode cX12_flype 67 = .ok (.iaload, 1) := by decide +kernel
theorem dX12_flype_68 : decode cX12_flype 68 = .ok (.istore 4, 2) := by decide +kernel
theorem dX12_flype_70 : decode cX12_flype 70 = .ok (.iconst 0, 1) := by decide +kernel
theorem dX12_flype_71 : decode cX12_flype 71 = .ok (.istore 5, 2) := by decide +kernel
theorem dX12_flype_73 : decode cX12_flype 73 = .ok (.iconst 0, 1) := by decide +kernel
theorem dX12_flype_74 : decode cX12_flype 74 = .ok (.istore 6, 2) := by decide +kernel
theorem dX12_flype_76 : decode cX12_flype 76 = .ok (.iload 6, 2) := by decide +kernel
theorem dX12_flype_78 : decode cX12_flype 78 = .ok (.iconst 4, 1) := by decide +kernel
theorem dX12_flype_79 : decode cX12_flype 79 = .ok (.aload_n 0, 1) := by decide +kernel
theorem dX12_flype_80 : decode cX12_flype 80 = .ok (.getfield 13, 3) := by decide +kernel
theorem dX12_flype_83 : decode cX12_flype 83 = .ok (.sipush 364, 3) := by decide +kernel
theorem dX12_flype_86 : decode cX12_flype 86 = .ok (.iaload, 1) := by decide +kernel
theorem dX12_flype_87 : decode cX12_flype 87 = .ok (.imul, 1) := by decide +kernel
theorem dX12_flype_88 : decode cX12_flype 88 = .ok (.if_icmp .ge 42, 3) := by decide +kernel
theorem dX12_flype_91 : decode cX12_flype 91 = .ok (.iload 5, 2) := by decide +kernel
theorem dX12_flype_93 : decode cX12_flype 93 = .ok (.iload_n 2, 1) := by decide +kernel
theorem dX12_flype_94 : decode cX12_flype 94 = .ok (.iload 6, 2) := by decide +kernel
theorem dX12_flype_96 : decode cX12_flype 96 = .ok (.invokestatic 332, 3) := by decide +kernel
theorem dX12_flype_99 : decode cX12_flype 99 = .ok (.ifCond .eq 21, 3) := by decide +kernel
theorem dX12_flype_102 : decode cX12_flype 102 = .ok (.iload_n 2, 1) := by decide +kernel
theorem dX12_flype_103 : decode cX12_flype 103 = .ok (.aload_n 0, 1) := by decide +kernel
theorem dX12_flype_104 : decode cX12_flype 104 = .ok (.getfield 36, 3) := by decide +kernel
theorem dX12_flype_107 : decode cX12_flype 107 = .ok (.iload 6, 2) := by decide +kernel
theorem dX12_flype_109 : decode cX12_flype 109 = .ok (.iaload, 1) := by decide +kernel
theorem dX12_flype_110 : decode cX12_flype 110 = .ok (.invokestatic 332, 3) := by decide +kernel
theorem dX12_flype_113 : decode cX12_flype 113 = .ok (.ifCond .ne 7, 3) := by decide +kernel
theorem dX12_flype_116 : decode cX12_flype 116 = .ok (.iconst 1, 1) := by decide +kernel
theorem dX12_flype_117 : decode cX12_flype 117 = .ok (.goto 4, 3) := by decide +kernel
theorem dX12_flype_120 : decode cX12_flype 120 = .ok (.iconst 0, 1) := by decide +kernel
theorem dX12_flype_121 : decode cX12_flype 121 = .ok (.iadd, 1) := by decide +kernel
theorem dX12_flype_122 : decode cX12_flype 122 = .ok (.istore 5, 2) := by decide +kernel
theorem dX12_flype_124 : decode cX12_flype 124 = .ok (.iinc 6 1, 3) := by decide +kernel
theorem dX12_flype_127 : decode cX12_flype 127 = .ok (.goto (-51), 3) := by decide +kernel
theorem dX12_flype_130 : decode cX12_flype 130 = .ok (.iload_n 2, 1) := by decide +kernel
theorem dX12_flype_131 : decode cX12_flype 131 = .ok (.iload_n 3, 1) := by decide +kernel
theorem dX12_flype_132 : decode cX12_flype 132 = .ok (.invokestatic 332, 3) := by decide +kernel
theorem dX12_flype_135 : decode cX12_flype 135 = .ok (.ifCond .eq 18, 3) := by decide +kernel
theorem dX12_flype_138 : decode cX12_flype 138 = .ok (.iload_n 2, 1) := by decide +kernel
theorem dX12_flype_139 : decode cX12_flype 139 = .ok (.iload 4, 2) := by decide +kernel
theorem dX12_flype_141 : decode cX12_flype 141 = .ok (.invokestatic 332, 3) := by decide +kernel
theorem dX12_flype_144 : decode cX12_flype 144 = .ok (.ifCond .eq 9, 3) := by decide +kernel
theorem dX12_flype_147 : decode cX12_flype 147 = .ok (.iload 5, 2) := by decide +kernel
theorem dX12_flype_149 : decode cX12_flype 149 = .ok (.iconst 4, 1) := by decide +kernel
theorem dX12_flype_150 : decode cX12_flype 150 = .ok (.if_icmp .eq 5, 3) := by decide +kernel
theorem dX12_flype_153 : decode cX12_flype 153 = .ok (.iconst 5, 1) := by decide +kernel
theorem dX12_flype_154 : decode cX12_flype 154 = .ok (.ireturn, 1) := by decide +kernel
theorem dX12_flype_155 : decode cX12_flype 155 = .ok (.aload_n 0, 1) := by decide +kernel
theorem dX12_flype_156 : decode cX12_flype 156 = .ok (.iload_n 2, 1) := by decide +kernel
theorem dX12_flype_157 : decode cX12_flype 157 = .ok (.iload 4, 2) := by decide +kernel
theorem dX12_flype_159 : decode cX12_flype 159 = .ok (.iconst 3, 1) := by decide +kernel
theorem dX12_flype_160 : decode cX12_flype 160 = .ok (.invokevirtual 335, 3) := by decide +kernel
theorem dX12_flype_163 : decode cX12_flype 163 = .ok (.istore 6, 2) := by decide +kernel
theorem dX12_flype_165 : decode cX12_flype 165 = .ok (.aload_n 0, 1) := by decide +kernel
theorem dX12_flype_166 : decode cX12_flype 166 = .ok (.iload_n 2, 1) := by decide +kernel
theorem dX12_flype_167 : decode cX12_flype 167 = .ok (.iload_n 3, 1) := by decide +kernel
theorem dX12_flype_168 : decode cX12_flype 168 = .ok (.iconst 1, 1) := by decide +kernel
theorem dX12_flype_169 : decode cX12_flype 169 = .ok (.invokevirtual 335, 3) := by decide +kernel
theorem dX12_flype_172 : decode cX12_flype 172 = .ok (.istore 7, 2) := by decide +kernel
theorem dX12_flype_174 : decode cX12_flype 174 = .ok (.iload 6, 2) := by decide +kernel
theorem dX12_flype_176 : decode cX12_flype 176 = .ok (.iconst (-1), 1) := by decide +kernel
theorem dX12_flype_177 : decode cX12_flype 177 = .ok (.if_icmp .eq 42, 3) := by decide +kernel
theorem dX12_flype_180 : decode cX12_flype 180 = .ok (.iload 7, 2) := by decide +kernel
theorem dX12_flype_182 : decode cX12_flype 182 = .ok (.iconst (-1), 1) := by decide +kernel
theorem dX12_flype_183 : decode cX12_flype 183 = .ok (.if_icmp .eq 36, 3) := by decide +kernel
theorem dX12_flype_186 : decode cX12_flype 186 = .ok (.iload 6, 2) := by decide +kernel
theorem dX12_flype_188 : decode cX12_flype 188 = .ok (.iload_n 3, 1) := by decide +kernel
theorem dX12_flype_189 : decode cX12_flype 189 = .ok (.if_icmp .eq 30, 3) := by decide +kernel
theorem dX12_flype_192 : decode cX12_flype 192 = .ok (.iload 6, 2) := by decide +kernel
theorem dX12_flype_194 : decode cX12_flype 194 = .ok (.iload 4, 2) := by decide +kernel
theorem dX12_flype_196 : decode cX12_flype 196 = .ok (.if_icmp .eq 23, 3) := by decide +kernel
theorem dX12_flype_199 : decode cX12_flype 199 = .ok (.iload 7, 2) := by decide +kernel
theorem dX12_flype_201 : decode cX12_flype 201 = .ok (.iload_n 3, 1) := by decide +kernel
theorem dX12_flype_202 : decode cX12_flype 202 = .ok (.if_icmp .eq 17, 3) := by decide +kernel
theorem dX12_flype_205 : decode cX12_flype 205 = .ok (.iload 7, 2) := by decide +kernel
theorem dX12_flype_207 : decode cX12_flype 207 = .ok (.iload 4, 2) := by decide +kernel
theorem dX12_flype_209 : decode cX12_flype 209 = .ok (.if_icmp .eq 10, 3) := by decide +kernel
theorem dX12_flype_212 : decode cX12_flype 212 = .ok (.iload 6, 2) := by decide +kernel
theorem dX12_flype_214 : decode cX12_flype 214 = .ok (.iload 7, 2) := by decide +kernel
theorem dX12_flype_216 : decode cX12_flype 216 = .ok (.if_icmp .ne 5, 3) := by decide +kernel
theorem dX12_flype_219 : decode cX12_flype 219 = .ok (.iconst 5, 1) := by decide +kernel
theorem dX12_flype_220 : decode cX12_flype 220 = .ok (.ireturn, 1) := by decide +kernel
theorem dX12_flype_221 : decode cX12_flype 221 = .ok (.ldc_w 300, 3) := by decide +kernel
theorem dX12_flype_224 : decode cX12_flype 224 = .ok (.istore 8, 2) := by decide +kernel
theorem dX12_flype_226 : decode cX12_flype 226 = .ok (.aload_n 0, 1) := by decide +kernel
theorem dX12_flype_227 : decode cX12_flype 227 = .ok (.iload_n 1, 1) := by decide +kernel
theorem dX12_flype_228 : decode cX12_flype 228 = .ok (.invokevirtual 310, 3) := by decide +kernel
theorem dX12_flype_231 : decode cX12_flype 231 = .ok (.istore 9, 2) := by decide +kernel
theorem dX12_flype_233 : decode cX12_flype 233 = .ok (.aload_n 0, 1) := by decide +kernel
theorem dX12_flype_234 : decode cX12_flype 234 = .ok (.iload_n 1, 1) := by decide +kernel
theorem dX12_flype_235 : decode cX12_flype 235 = .ok (.iconst 1, 1) := by decide +kernel
theorem dX12_flype_236 : decode cX12_flype 236 = .ok (.invokestatic 209, 3) := by decide +kernel
theorem dX12_flype_239 : decode cX12_flype 239 = .ok (.invokevirtual 310, 3) := by decide +kernel
theorem dX12_flype_242 : decode cX12_flype 242 = .ok (.istore 10, 2) := by decide +kernel
theorem dX12_flype_244 : decode cX12_flype 244 = .ok (.aload_n 0, 1) := by decide +kernel
theorem dX12_flype_245 : decode cX12_flype 245 = .ok (.iload_n 1, 1) := by decide +kernel
theorem dX12_flype_246 : decode cX12_flype 246 = .ok (.iconst 2, 1) := by decide +kernel
theorem dX12_flype_247 : decode cX12_flype 247 = .ok (.invokestatic 209, 3) := by decide +kernel
theorem dX12_flype_250 : decode cX12_flype 250 = .ok (.invokevirtual 310, 3) := by decide +kernel
theorem dX12_flype_253 : decode cX12_flype 253 = .ok (.istore 11, 2) := by decide +kernel
theorem dX12_flype_255 : decode cX12_flype 255 = .ok (.aload_n 0, 1) := by decide +kernel
theorem dX12_flype_256 : decode cX12_flype 256 = .ok (.iload_n 1, 1) := by decide +kernel
theorem dX12_flype_257 : decode cX12_flype 257 = .ok (.iconst 3, 1) := by decide +kernel
theorem dX12_flype_258 : decode cX12_flype 258 = .ok (.invokestatic 209, 3) := by decide +kernel
theorem dX12_flype_261 : decode cX12_flype 261 = .ok (.invokevirtual 310, 3) := by decide +kernel
theorem dX12_flype_264 : decode cX12_flype 264 = .ok (.istore 12, 2) := by decide +kernel
theorem dX12_flype_266 : decode cX12_flype 266 = .ok (.aload_n 0, 1) := by decide +kernel
theorem dX12_flype_267 : decode cX12_flype 267 = .ok (.iload 6, 2) := by decide +kernel
theorem dX12_flype_269 : decode cX12_flype 269 = .ok (.invokevirtual 310, 3) := by decide +kernel
theorem dX12_flype_272 : decode cX12_flype 272 = .ok (.istore 13, 2) := by decide +kernel
theorem dX12_flype_274 : decode cX12_flype 274 = .ok (.aload_n 0, 1) := by decide +kernel
theorem dX12_flype_275 : decode cX12_flype 275 = .ok (.iload 7, 2) := by decide +kernel
theorem dX12_flype_277 : decode cX12_flype 277 = .ok (.invokevirtual 310, 3) := by decide +kernel
theorem dX12_flype_280 : decode cX12_flype 280 = .ok (.istore 14, 2) := by decide +kernel
theorem dX12_flype_282 : decode cX12_flype 282 = .ok (.aload_n 0, 1) := by decide +kernel
theorem dX12_flype_283 : decode cX12_flype 283 = .ok (.getfield 23, 3) := by decide +kernel
theorem dX12_flype_286 : decode cX12_flype 286 = .ok (.iload 8, 2) := by decide +kernel
theorem dX12_flype_288 : decode cX12_flype 288 = .ok (.iload_n 1, 1) := by decide +kernel
theorem dX12_flype_289 : decode cX12_flype 289 = .ok (.iadd, 1) := by decide +kernel
theorem dX12_flype_290 : decode cX12_flype 290 = .ok (.iload 14, 2) := by decide +kernel
theorem dX12_flype_292 : decode cX12_flype 292 = .ok (.iastore, 1) := by decide +kernel
theorem dX12_flype_293 : decode cX12_flype 293 = .ok (.aload_n 0, 1) := by decide +kernel
theorem dX12_flype_294 : decode cX12_flype 294 = .ok (.getfield 23, 3) := by decide +kernel
theorem dX12_flype_297 : decode cX12_flype 297 = .ok (.iload 8, 2) := by decide +kernel
theorem dX12_flype_299 : decode cX12_flype 299 = .ok (.iload_n 1, 1) := by decide +kernel
theorem dX12_flype_300 : decode cX12_flype 300 = .ok (.iconst 1, 1) := by decide +kernel
theorem dX12_flype_301 : decode cX12_flype 301 = .ok (.invokestatic 209, 3) := by decide +kernel
theorem dX12_flype_304 : decode cX12_flype 304 = .ok (.iadd, 1) := by decide +kernel
theorem dX12_flype_305 : decode cX12_flype 305 = .ok (.iload 13, 2) := by decide +kernel
theorem dX12_flype_307 : decode cX12_flype 307 = .ok (.iastore, 1) := by decide +kernel
theorem dX12_flype_308 : decode cX12_flype 308 = .ok (.aload_n 0, 1) := by decide +kernel
theorem dX12_flype_309 : decode cX12_flype 309 = .ok (.getfield 23, 3) := by decide +kernel
theorem dX12_flype_312 : decode cX12_flype 312 = .ok (.iload 8, 2) := by decide +kernel
theorem dX12_flype_314 : decode cX12_flype 314 = .ok (.iload_n 1, 1) := by decide +kernel
theorem dX12_flype_315 : decode cX12_flype 315 = .ok (.iconst 2, 1) := by decide +kernel
theorem dX12_flype_316 : decode cX12_flype 316 = .ok (.invokestatic 209, 3) := by decide +kernel
theorem dX12_flype_319 : decode cX12_flype 319 = .ok (.iadd, 1) := by decide +kernel
theorem dX12_flype_320 : decode cX12_flype 320 = .ok (.iload 9, 2) := by decide +kernel
theorem dX12_flype_322 : decode cX12_flype 322 = .ok (.iastore, 1) := by decide +kernel
theorem dX12_flype_323 : decode cX12_flype 323 = .ok (.aload_n 0, 1) := by decide +kernel
theorem dX12_flype_324 : decode cX12_flype 324 = .ok (.getfield 23, 3) := by decide +kernel
theorem dX12_flype_327 : decode cX12_flype 327 = .ok (.iload 8, 2) := by decide +kernel
theorem dX12_flype_329 : decode cX12_flype 329 = .ok (.iload_n 1, 1) := by decide +kernel
theorem dX12_flype_330 : decode cX12_flype 330 = .ok (.iconst 3, 1) := by decide +kernel
theorem dX12_flype_331 : decode cX12_flype 331 = .ok (.invokestatic 209, 3) := by decide +kernel
theorem dX12_flype_334 : decode cX12_flype 334 = .ok (.iadd, 1) := by decide +kernel
theorem dX12_flype_335 : decode cX12_flype 335 = .ok (.iload 10, 2) := by decide +kernel
theorem dX12_flype_337 : decode cX12_flype 337 = .ok (.iastore, 1) := by decide +kernel
theorem dX12_flype_338 : decode cX12_flype 338 = .ok (.aload_n 0, 1) := by decide +kernel
theorem dX12_flype_339 : decode cX12_flype 339 = .ok (.getfield 23, 3) := by decide +kernel
theorem dX12_flype_342 : decode cX12_flype 342 = .ok (.iload 8, 2) := by decide +kernel
theorem dX12_flype_344 : decode cX12_flype 344 = .ok (.iload_n 3, 1) := by decide +kernel
theorem dX12_flype_345 : decode cX12_flype 345 = .ok (.iadd, 1) := by decide +kernel
theorem dX12_flype_346 : decode cX12_flype 346 = .ok (.iload 11, 2) := by decide +kernel
theorem dX12_flype_348 : decode cX12_flype 348 = .ok (.iastore, 1) := by decide +kernel
theorem dX12_flype_349 : decode cX12_flype 349 = .ok (.aload_n 0, 1) := by decide +kernel
theorem dX12_flype_350 : decode cX12_flype 350 = .ok (.getfield 23, 3) := by decide +kernel
theorem dX12_flype_353 : decode cX12_flype 353 = .ok (.iload 8, 2) := by decide +kernel
theorem dX12_flype_355 : decode cX12_flype 355 = .ok (.iload 4, 2) := by decide +kernel
theorem dX12_flype_357 : decode cX12_flype 357 = .ok (.iadd, 1) := by decide +kernel
theorem dX12_flype_358 : decode cX12_flype 358 = .ok (.iload 12, 2) := by decide +kernel
theorem dX12_flype_360 : decode cX12_flype 360 = .ok (.iastore, 1) := by decide +kernel
theorem dX12_flype_361 : decode cX12_flype 361 = .ok (.aload_n 0, 1) := by decide +kernel
theorem dX12_flype_362 : decode cX12_flype 362 = .ok (.getfield 23, 3) := by decide +kernel
theorem dX12_flype_365 : decode cX12_flype 365 = .ok (.iload 8, 2) := by decide +kernel
theorem dX12_flype_367 : decode cX12_flype 367 = .ok (.iload 7, 2) := by decide +kernel
theorem dX12_flype_369 : decode cX12_flype 369 = .ok (.iadd, 1) := by decide +kernel
theorem dX12_flype_370 : decode cX12_flype 370 = .ok (.iload 9, 2) := by decide +kernel
theorem dX12_flype_372 : decode cX12_flype 372 = .ok (.iastore, 1) := by decide +kernel
theorem dX12_flype_373 : decode cX12_flype 373 = .ok (.aload_n 0, 1) := by decide +kernel
theorem dX12_flype_374 : decode cX12_flype 374 = .ok (.getfield 23, 3) := by decide +kernel
theorem dX12_flype_377 : decode cX12_flype 377 = .ok (.iload 8, 2) := by decide +kernel
theorem dX12_flype_379 : decode cX12_flype 379 = .ok (.iload 6, 2) := by decide +kernel
theorem dX12_flype_381 : decode cX12_flype 381 = .ok (.iadd, 1) := by decide +kernel
theorem dX12_flype_382 : decode cX12_flype 382 = .ok (.iload 10, 2) := by decide +kernel
theorem dX12_flype_384 : decode cX12_flype 384 = .ok (.iastore, 1) := by decide +kernel
theorem dX12_flype_385 : decode cX12_flype 385 = .ok (.iconst 0, 1) := by decide +kernel
theorem dX12_flype_386 : decode cX12_flype 386 = .ok (.istore 15, 2) := by decide +kernel
theorem dX12_flype_388 : decode cX12_flype 388 = .ok (.iload 15, 2) := by decide +kernel
theorem dX12_flype_390 : decode cX12_flype 390 = .ok (.aload_n 0, 1) := by decide +kernel
theorem dX12_flype_391 : decode cX12_flype 391 = .ok (.getfield 13, 3) := by decide +kernel
theorem dX12_flype_394 : decode cX12_flype 394 = .ok (.sipush 364, 3) := by decide +kernel
theorem dX12_flype_397 : decode cX12_flype 397 = .ok (.iaload, 1) := by decide +kernel
theorem dX12_flype_398 : decode cX12_flype 398 = .ok (.if_icmp .ge 29, 3) := by decide +kernel
theorem dX12_flype_401 : decode cX12_flype 401 = .ok (.iload_n 2, 1) := by decide +kernel
theorem dX12_flype_402 : decode cX12_flype 402 = .ok (.iconst 4, 1) := by decide +kernel
theorem dX12_flype_403 : decode cX12_flype 403 = .ok (.iload 15, 2) := by decide +kernel
theorem dX12_flype_405 : decode cX12_flype 405 = .ok (.imul, 1) := by decide +kernel
theorem dX12_flype_406 : decode cX12_flype 406 = .ok (.invokestatic 332, 3) := by decide +kernel
theorem dX12_flype_409 : decode cX12_flype 409 = .ok (.ifCond .eq 12, 3) := by decide +kernel
theorem dX12_flype_412 : decode cX12_flype 412 = .ok (.aload_n 0, 1) := by decide +kernel
theorem dX12_flype_413 : decode cX12_flype 413 = .ok (.sipush 364, 3) := by decide +kernel
theorem dX12_flype_416 : decode cX12_flype 416 = .ok (.iload 15, 2) := by decide +kernel
theorem dX12_flype_418 : decode cX12_flype 418 = .ok (.invokevirtual 338, 3) := by decide +kernel
theorem dX12_flype_421 : decode cX12_flype 421 = .ok (.iinc 15 1, 3) := by decide +kernel
theorem dX12_flype_424 : decode cX12_flype 424 = .ok (.goto (-36), 3) := by decide +kernel
theorem dX12_flype_427 : decode cX12_flype 427 = .ok (.iconst 0, 1) := by decide +kernel
theorem dX12_flype_428 : decode cX12_flype 428 = .ok (.ireturn, 1) := by decide +kernel
theorem dX12_turnOver_0 : decode cX12_turnOver 0 = .ok (.sipush 160, 3) := by decide +kernel
theorem dX12_turnOver_3 : decode cX12_turnOver 3 = .ok (.iload_n 1, 1) := by decide +kernel
theorem dX12_turnOver_4 : decode cX12_turnOver 4 = .ok (.imul, 1) := by decide +kernel
theorem dX12_turnOver_5 : decode cX12_turnOver 5 = .ok (.iconst 4, 1) := by decide +kernel
theorem dX12_turnOver_6 : decode cX12_turnOver 6 = .ok (.iload_n 2, 1) := by decide +kernel
theorem dX12_turnOver_7 : decode cX12_turnOver 7 = .ok (.imul, 1) := by decide +kernel
theorem dX12_turnOver_8 : decode cX12_turnOver 8 = .ok (.iadd, 1) := by decide +kernel
theorem dX12_turnOver_9 : decode cX12_turnOver 9 = .ok (.istore_n 3, 1) := by decide +kernel
theorem dX12_turnOver_10 : decode cX12_turnOver 10 = .ok (.aload_n 0, 1) := by decide +kernel
theorem dX12_turnOver_11 : decode cX12_turnOver 11 = .ok (.getfield 23, 3) := by decide +kernel
theorem dX12_turnOver_14 : decode cX12_turnOver 14 = .ok (.iload_n 3, 1) := by decide +kernel
theorem dX12_turnOver_15 : decode cX12_turnOver 15 = .ok (.iaload, 1) := by decide +kernel
theorem dX12_turnOver_16 : decode cX12_turnOver 16 = .ok (.istore 4, 2) := by decide +kernel
theorem dX12_turnOver_18 : decode cX12_turnOver 18 = .ok (.aload_n 0, 1) := by decide +kernel
theorem dX12_turnOver_19 : decode cX12_turnOver 19 = .ok (.getfield 23, 3) := by decide +kernel
theorem dX12_turnOver_22 : decode cX12_turnOver 22 = .ok (.iload_n 3, 1) := by decide +kernel
theorem dX12_turnOver_23 : decode cX12_turnOver 23 = .ok (.aload_n 0, 1) := by decide +kernel
theorem dX12_turnOver_24 : decode cX12_turnOver 24 = .ok (.getfield 23, 3) := by decide +kernel
theorem dX12_turnOver_27 : decode cX12_turnOver 27 = .ok (.iload_n 3, 1) := by decide +kernel
theorem dX12_turnOver_28 : decode cX12_turnOver 28 = .ok (.iconst 1, 1) := by decide +kernel
theorem dX12_turnOver_29 : decode cX12_turnOver 29 = .ok (.iadd, 1) := by decide +kernel
theorem dX12_turnOver_30 : decode cX12_turnOver 30 = .ok (.iaload, 1) := by decide +kernel
theorem dX12_turnOver_31 : decode cX12_turnOver 31 = .ok (.iastore, 1) := by decide +kernel
theorem dX12_turnOver_32 : decode cX12_turnOver 32 = .ok (.aload_n 0, 1) := by decide +kernel
theorem dX12_turnOver_33 : decode cX12_turnOver 33 = .ok (.getfield 23, 3) := by decide +kernel
theorem dX12_turnOver_36 : decode cX12_turnOver 36 = .ok (.iload_n 3, 1) := by decide +kernel
theorem dX12_turnOver_37 : decode cX12_turnOver 37 = .ok (.iconst 1, 1) := by decide +kernel
theorem dX12_turnOver_38 : decode cX12_turnOver 38 = .ok (.iadd, 1) := by decide +kernel
theorem dX12_turnOver_39 : decode cX12_turnOver 39 = .ok (.iload 4, 2) := by decide +kernel
theorem dX12_turnOver_41 : decode cX12_turnOver 41 = .ok (.iastore, 1) := by decide +kernel
theorem dX12_turnOver_42 : decode cX12_turnOver 42 = .ok (.aload_n 0, 1) := by decide +kernel
theorem dX12_turnOver_43 : decode cX12_turnOver 43 = .ok (.getfield 23, 3) := by decide +kernel
theorem dX12_turnOver_46 : decode cX12_turnOver 46 = .ok (.iload_n 3, 1) := by decide +kernel
theorem dX12_turnOver_47 : decode cX12_turnOver 47 = .ok (.iconst 2, 1) := by decide +kernel
theorem dX12_turnOver_48 : decode cX12_turnOver 48 = .ok (.iadd, 1) := by decide +kernel
theorem dX12_turnOver_49 : decode cX12_turnOver 49 = .ok (.iaload, 1) := by decide +kernel
theorem dX12_turnOver_50 : decode cX12_turnOver 50 = .ok (.istore 4, 2) := by decide +kernel
theorem dX12_turnOver_52 : decode cX12_turnOver 52 = .ok (.aload_n 0, 1) := by decide +kernel
theorem dX12_turnOver_53 : decode cX12_turnOver 53 = .ok (.getfield 23, 3) := by decide +kernel
theorem dX12_turnOver_56 : decode cX12_turnOver 56 = .ok (.iload_n 3, 1) := by decide +kernel
theorem dX12_turnOver_57 : decode cX12_turnOver 57 = .ok (.iconst 2, 1) := by decide +kernel
theorem dX12_turnOver_58 : decode cX12_turnOver 58 = .ok (.iadd, 1) := by decide +kernel
theorem dX12_turnOver_59 : decode cX12_turnOver 59 = .ok (.aload_n 0, 1) := by decide +kernel
theorem dX12_turnOver_60 : decode cX12_turnOver 60 = .ok (.getfield 23, 3) := by decide +kernel
theorem dX12_turnOver_63 : decode cX12_turnOver 63 = .ok (.iload_n 3, 1) := by decide +kernel
theorem dX12_turnOver_64 : decode cX12_turnOver 64 = .ok (.iconst 3, 1) := by decide +kernel
theorem dX12_turnOver_65 : decode cX12_turnOver 65 = .ok (.iadd, 1) := by decide +kernel
theorem dX12_turnOver_66 : decode cX12_turnOver 66 = .ok (.iaload, 1) := by decide +kernel
theorem dX12_turnOver_67 : decode cX12_turnOver 67 = .ok (.iastore, 1) := by decide +kernel
theorem dX12_turnOver_68 : decode cX12_turnOver 68 = .ok (.aload_n 0, 1) := by decide +kernel
theorem dX12_turnOver_69 : decode cX12_turnOver 69 = .ok (.getfield 23, 3) := by decide +kernel
theorem dX12_turnOver_72 : decode cX12_turnOver 72 = .ok (.iload_n 3, 1) := by decide +kernel
theorem dX12_turnOver_73 : decode cX12_turnOver 73 = .ok (.iconst 3, 1) := by decide +kernel
theorem dX12_turnOver_74 : decode cX12_turnOver 74 = .ok (.iadd, 1) := by decide +kernel
theorem dX12_turnOver_75 : decode cX12_turnOver 75 = .ok (.iload 4, 2) := by decide +kernel
theorem dX12_turnOver_77 : decode cX12_turnOver 77 = .ok (.iastore, 1) := by decide +kernel
theorem dX12_turnOver_78 : decode cX12_turnOver 78 = .ok (.return_, 1) := by decide +kernel
theorem dX12_smooth_0 : decode cX12_smooth 0 = .ok (.iload_n 1, 1) := by decide +kernel
theorem dX12_smooth_1 : decode cX12_smooth 1 = .ok (.i2l, 1) := by decide +kernel
theorem dX12_smooth_2 : decode cX12_smooth 2 = .ok (.lconst 0, 1) := by decide +kernel
theorem dX12_smooth_3 : decode cX12_smooth 3 = .ok (.aload_n 0, 1) := by decide +kernel
theorem dX12_smooth_4 : decode cX12_smooth 4 = .ok (.getfield 13, 3) := by decide +kernel
theorem dX12_smooth_7 : decode cX12_smooth 7 = .ok (.sipush 364, 3) := by decide +kernel
theorem dX12_smooth_10 : decode cX12_smooth 10 = .ok (.iaload, 1) := by decide +kernel
theorem dX12_smooth_11 : decode cX12_smooth 11 = .ok (.iconst 1, 1) := by decide +kernel
theorem dX12_smooth_12 : decode cX12_smooth 12 = .ok (.isub, 1) := by decide +kernel
theorem dX12_smooth_13 : decode cX12_smooth 13 = .ok (.i2l, 1) := by decide +kernel
theorem dX12_smooth_14 : decode cX12_smooth 14 = .ok (.invokestatic 172, 3) := by decide +kernel
theorem dX12_smooth_17 : decode cX12_smooth 17 = .ok (.ifCond .eq 13, 3) := by decide +kernel
theorem dX12_smooth_20 : decode cX12_smooth 20 = .ok (.iload_n 2, 1) := by decide +kernel
theorem dX12_smooth_21 : decode cX12_smooth 21 = .ok (.i2l, 1) := by decide +kernel
theorem dX12_smooth_22 : decode cX12_smooth 22 = .ok (.lconst 0, 1) := by decide +kernel
theorem dX12_smooth_23 : decode cX12_smooth 23 = .ok (.lconst 1, 1) := by decide +kernel
theorem dX12_smooth_24 : decode cX12_smooth 24 = .ok (.invokestatic 172, 3) := by decide +kernel
theorem dX12_smooth_27 : decode cX12_smooth 27 = .ok (.ifCond .ne 5, 3) := by decide +kernel
theorem dX12_smooth_30 : decode cX12_smooth 30 = .ok (.iconst 5, 1) := by decide +kernel
theorem dX12_smooth_31 : decode cX12_smooth 31 = .ok (.ireturn, 1) := by decide +kernel
theorem dX12_smooth_32 : decode cX12_smooth 32 = .ok (.aload_n 0, 1) := by decide +kernel
theorem dX12_smooth_33 : decode cX12_smooth 33 = .ok (.sipush 364, 3) := by decide +kernel
theorem dX12_smooth_36 : decode cX12_smooth 36 = .ok (.aload_n 0, 1) := by decide +kernel
theorem dX12_smooth_37 : decode cX12_smooth 37 = .ok (.iconst 4, 1) := by decide +kernel
theorem dX12_smooth_38 : decode cX12_smooth 38 = .ok (.iload_n 1, 1) := by decide +kernel
theorem dX12_smooth_39 : decode cX12_smooth 39 = .ok (.imul, 1) := by decide +kernel
theorem dX12_smooth_40 : decode cX12_smooth 40 = .ok (.invokevirtual 310, 3) := by decide +kernel
theorem dX12_smooth_43 : decode cX12_smooth 43 = .ok (.aload_n 0, 1) := by decide +kernel
theorem dX12_smooth_44 : decode cX12_smooth 44 = .ok (.iconst 4, 1) := by decide +kernel
theorem dX12_smooth_45 : decode cX12_smooth 45 = .ok (.iload_n 1, 1) := by decide +kernel
theorem dX12_smooth_46 : decode cX12_smooth 46 = .ok (.imul, 1) := by decide +kernel
theorem dX12_smooth_47 : decode cX12_smooth 47 = .ok (.iload_n 2, 1) := by decide +kernel
theorem dX12_smooth_48 : decode cX12_smooth 48 = .ok (.ifCond .ne 7, 3) := by decide +kernel
theorem dX12_smooth_51 : decode cX12_smooth 51 = .ok (.iconst 1, 1) := by decide +kernel
theorem dX12_smooth_52 : decode cX12_smooth 52 = .ok (.goto 4, 3) := by decide +kernel
theorem dX12_smooth_55 : decode cX12_smooth 55 = .ok (.iconst 3, 1) := by decide +kernel
theorem dX12_smooth_56 : decode cX12_smooth 56 = .ok (.iadd, 1) := by decide +kernel
theorem dX12_smooth_57 : decode cX12_smooth 57 = .ok (.invokevirtual 310, 3) := by decide +kernel
theorem dX12_smooth_60 : decode cX12_smooth 60 = .ok (.invokevirtual 313, 3) := by decide +kernel
theorem dX12_smooth_63 : decode cX12_smooth 63 = .ok (.aload_n 0, 1) := by decide +kernel
theorem dX12_smooth_64 : decode cX12_smooth 64 = .ok (.sipush 364, 3) := by decide +kernel
theorem dX12_smooth_67 : decode cX12_smooth 67 = .ok (.aload_n 0, 1) := by decide +kernel
theorem dX12_smooth_68 : decode cX12_smooth 68 = .ok (.iconst 4, 1) := by decide +kernel
theorem dX12_smooth_69 : decode cX12_smooth 69 = .ok (.iload_n 1, 1) := by decide +kernel
theorem dX12_smooth_70 : decode cX12_smooth 70 = .ok (.imul, 1) := by decide +kernel
theorem dX12_smooth_71 : decode cX12_smooth 71 = .ok (.iload_n 2, 1) := by decide +kernel
theorem dX12_smooth_72 : decode cX12_smooth 72 = .ok (.ifCond .ne 7, 3) := by decide +kernel
theorem dX12_smooth_75 : decode cX12_smooth 75 = .ok (.iconst 2, 1) := by decide +kernel
theorem dX12_smooth_76 : decode cX12_smooth 76 = .ok (.goto 4, 3) := by decide +kernel
theorem dX12_smooth_79 : decode cX12_smooth 79 = .ok (.iconst 1, 1) := by decide +kernel
theorem dX12_smooth_80 : decode cX12_smooth 80 = .ok (.iadd, 1) := by decide +kernel
theorem dX12_smooth_81 : decode cX12_smooth 81 = .ok (.invokevirtual 310, 3) := by decide +kernel
theorem dX12_smooth_84 : decode cX12_smooth 84 = .ok (.aload_n 0, 1) := by decide +kernel
theorem dX12_smooth_85 : decode cX12_smooth 85 = .ok (.iconst 4, 1) := by decide +kernel
theorem dX12_smooth_86 : decode cX12_smooth 86 = .ok (.iload_n 1, 1) := by decide +kernel
theorem dX12_smooth_87 : decode cX12_smooth 87 = .ok (.imul, 1) := by decide +kernel
theorem dX12_smooth_88 : decode cX12_smooth 88 = .ok (.iload_n 2, 1) := by decide +kernel
theorem dX12_smooth_89 : decode cX12_smooth 89 = .ok (.ifCond .ne 7, 3) := by decide +kernel
theorem dX12_smooth_92 : decode cX12_smooth 92 = .ok (.iconst 3, 1) := by decide +kernel
theorem dX12_smooth_93 : decode cX12_smooth 93 = .ok (.goto 4, 3) := by decide +kernel
theorem dX12_smooth_96 : decode cX12_smooth 96 = .ok (.iconst 2, 1) := by decide +kernel
theorem dX12_smooth_97 : decode cX12_smooth 97 = .ok (.iadd, 1) := by decide +kernel
theorem dX12_smooth_98 : decode cX12_smooth 98 = .ok (.invokevirtual 310, 3) := by decide +kernel
theorem dX12_smooth_101 : decode cX12_smooth 101 = .ok (.invokevirtual 313, 3) := by decide +kernel
theorem dX12_smooth_104 : decode cX12_smooth 104 = .ok (.aload_n 0, 1) := by decide +kernel
theorem dX12_smooth_105 : decode cX12_smooth 105 = .ok (.sipush 364, 3) := by decide +kernel
theorem dX12_smooth_108 : decode cX12_smooth 108 = .ok (.iload_n 1, 1) := by decide +kernel
theorem dX12_smooth_109 : decode cX12_smooth 109 = .ok (.invokevirtual 317, 3) := by decide +kernel
theorem dX12_smooth_112 : decode cX12_smooth 112 = .ok (.aload_n 0, 1) := by decide +kernel
theorem dX12_smooth_113 : decode cX12_smooth 113 = .ok (.invokevirtual 320, 3) := by decide +kernel
theorem dX12_smooth_116 : decode cX12_smooth 116 = .ok (.ireturn, 1) := by decide +kernel
theorem dX12_rotate_0 : decode cX12_rotate 0 = .ok (.iload_n 2, 1) := by decide +kernel
theorem dX12_rotate_1 : decode cX12_rotate 1 = .ok (.i2l, 1) := by decide +kernel
theorem dX12_rotate_2 : decode cX12_rotate 2 = .ok (.lconst 0, 1) := by decide +kernel
theorem dX12_rotate_3 : decode cX12_rotate 3 = .ok (.aload_n 0, 1) := by decide +kernel
theorem dX12_rotate_4 : decode cX12_rotate 4 = .ok (.getfield 13, 3) := by decide +kernel
theorem dX12_rotate_7 : decode cX12_rotate 7 = .ok (.iload_n 1, 1) := by decide +kernel
theorem dX12_rotate_8 : decode cX12_rotate 8 = .ok (.iaload, 1) := by decide +kernel
theorem dX12_rotate_9 : decode cX12_rotate 9 = .ok (.iconst 1, 1) := by decide +kernel
theorem dX12_rotate_10 : decode cX12_rotate 10 = .ok (.isub, 1) := by decide +kernel
theorem dX12_rotate_11 : decode cX12_rotate 11 = .ok (.i2l, 1) := by decide +kernel
theorem dX12_rotate_12 : decode cX12_rotate 12 = .ok (.invokestatic 172, 3) := by decide +kernel
theorem dX12_rotate_15 : decode cX12_rotate 15 = .ok (.ifCond .ne 5, 3) := by decide +kernel
theorem dX12_rotate_18 : decode cX12_rotate 18 = .ok (.iconst 5, 1) := by decide +kernel
theorem dX12_rotate_19 : decode cX12_rotate 19 = .ok (.ireturn, 1) := by decide +kernel
theorem dX12_rotate_20 : decode cX12_rotate 20 = .ok (.sipush 160, 3) := by decide +kernel
theorem dX12_rotate_23 : decode cX12_rotate 23 = .ok (.iload_n 1, 1) := by decide +kernel
theorem dX12_rotate_24 : decode cX12_rotate 24 = .ok (.imul, 1) := by decide +kernel
theorem dX12_rotate_25 : decode cX12_rotate 25 = .ok (.iconst 4, 1) := by decide +kernel
theorem dX12_rotate_26 : decode cX12_rotate 26 = .ok (.iload_n 2, 1) := by decide +kernel
theorem dX12_rotate_27 : decode cX12_rotate 27 = .ok (.imul, 1) := by decide +kernel
theorem dX12_rotate_28 : decode cX12_rotate 28 = .ok (.iadd, 1) := by decide +kernel
theorem dX12_rotate_29 : decode cX12_rotate 29 = .ok (.istore 4, 2) := by decide +kernel
theorem dX12_rotate_31 : decode cX12_rotate 31 = .ok (.iconst 0, 1) := by decide +kernel
theorem dX12_rotate_32 : decode cX12_rotate 32 = .ok (.istore 5, 2) := by decide +kernel
theorem dX12_rotate_34 : decode cX12_rotate 34 = .ok (.iload 5, 2) := by decide +kernel
theorem dX12_rotate_36 : decode cX12_rotate 36 = .ok (.iconst 4, 1) := by decide +kernel
theorem dX12_rotate_37 : decode cX12_rotate 37 = .ok (.if_icmp .ge 26, 3) := by decide +kernel
theorem dX12_rotate_40 : decode cX12_rotate 40 = .ok (.aload_n 0, 1) := by decide +kernel
theorem dX12_rotate_41 : decode cX12_rotate 41 = .ok (.getfield 29, 3) := by decide +kernel
theorem dX12_rotate_44 : decode cX12_rotate 44 = .ok (.iload 5, 2) := by decide +kernel
theorem dX12_rotate_46 : decode cX12_rotate 46 = .ok (.aload_n 0, 1) := by decide +kernel
theorem dX12_rotate_47 : decode cX12_rotate 47 = .ok (.getfield 23, 3) := by decide +kernel
theorem dX12_rotate_50 : decode cX12_rotate 50 = .ok (.iload 4, 2) := by decide +kernel
theorem dX12_rotate_52 : decode cX12_rotate 52 = .ok (.iload 5, 2) := by decide +kernel
theorem dX12_rotate_54 : decode cX12_rotate 54 = .ok (.iadd, 1) := by decide +kernel
theorem dX12_rotate_55 : decode cX12_rotate 55 = .ok (.iaload, 1) := by decide +kernel
theorem dX12_rotate_56 : decode cX12_rotate 56 = .ok (.iastore, 1) := by decide +kernel
theorem dX12_rotate_57 : decode cX12_rotate 57 = .ok (.iinc 5 1, 3) := by decide +kernel
theorem dX12_rotate_60 : decode cX12_rotate 60 = .ok (.goto (-26), 3) := by decide +kernel
theorem dX12_rotate_63 : decode cX12_rotate 63 = .ok (.iconst 0, 1) := by decide +kernel
theorem dX12_rotate_64 : decode cX12_rotate 64 = .ok (.istore 5, 2) := by decide +kernel
theorem dX12_rotate_66 : decode cX12_rotate 66 = .ok (.iload 5, 2) := by decide +kernel
theorem dX12_rotate_68 : decode cX12_rotate 68 = .ok (.iconst 4, 1) := by decide +kernel
theorem dX12_rotate_69 : decode cX12_rotate 69 = .ok (.if_icmp .ge 30, 3) := by decide +kernel
theorem dX12_rotate_72 : decode cX12_rotate 72 = .ok (.aload_n 0, 1) := by decide +kernel
theorem dX12_rotate_73 : decode cX12_rotate 73 = .ok (.getfield 23, 3) := by decide +kernel
theorem dX12_rotate_76 : decode cX12_rotate 76 = .ok (.iload 4, 2) := by decide +kernel
theorem dX12_rotate_78 : decode cX12_rotate 78 = .ok (.iload 5, 2) := by decide +kernel
theorem dX12_rotate_80 : decode cX12_rotate 80 = .ok (.iadd, 1) := by decide +kernel
theorem dX12_rotate_81 : decode cX12_rotate 81 = .ok (.aload_n 0, 1) := by decide +kernel
theorem dX12_rotate_82 : decode cX12_rotate 82 = .ok (.getfield 29, 3) := by decide +kernel
theorem dX12_rotate_85 : decode cX12_rotate 85 = .ok (.iload 5, 2) := by decide +kernel
theorem dX12_rotate_87 : decode cX12_rotate 87 = .ok (.iload_n 3, 1) := by decide +kernel
theorem dX12_rotate_88 : decode cX12_rotate 88 = .ok (.iadd, 1) := by decide +kernel
theorem dX12_rotate_89 : decode cX12_rotate 89 = .ok (.iconst 3, 1) := by decide +kernel
theorem dX12_rotate_90 : decode cX12_rotate 90 = .ok (.iand, 1) := by decide +kernel
theorem dX12_rotate_91 : decode cX12_rotate 91 = .ok (.iaload, 1) := by decide +kernel
theorem dX12_rotate_92 : decode cX12_rotate 92 = .ok (.iastore, 1) := by decide +kernel
theorem dX12_rotate_93 : decode cX12_rotate 93 = .ok (.iinc 5 1, 3) := by decide +kernel
theorem dX12_rotate_96 : decode cX12_rotate 96 = .ok (.goto (-30), 3) := by decide +kernel
theorem dX12_rotate_99 : decode cX12_rotate 99 = .ok (.iconst 0, 1) := by decide +kernel
theorem dX12_rotate_100 : decode cX12_rotate 100 = .ok (.ireturn, 1) := by decide +kernel
theorem dX12_moved_0 : decode cX12_moved 0 = .ok (.iload_n 1, 1) := by decide +kernel
theorem dX12_moved_1 : decode cX12_moved 1 = .ok (.tableswitch 71 0 4 #[35, 42, 51, 57, 64], 35) := by decide +kernel
theorem dX12_moved_36 : decode cX12_moved 36 = .ok (.aload_n 0, 1) := by decide +kernel
theorem dX12_moved_37 : decode cX12_moved 37 = .ok (.iload_n 2, 1) := by decide +kernel
theorem dX12_moved_38 : decode cX12_moved 38 = .ok (.iload_n 3, 1) := by decide +kernel
theorem dX12_moved_39 : decode cX12_moved 39 = .ok (.invokevirtual 341, 3) := by decide +kernel
theorem dX12_moved_42 : decode cX12_moved 42 = .ok (.ireturn, 1) := by decide +kernel
theorem dX12_moved_43 : decode cX12_moved 43 = .ok (.aload_n 0, 1) := by decide +kernel
theorem dX12_moved_44 : decode cX12_moved 44 = .ok (.iload_n 2, 1) := by decide +kernel
theorem dX12_moved_45 : decode cX12_moved 45 = .ok (.iload_n 3, 1) := by decide +kernel
theorem dX12_moved_46 : decode cX12_moved 46 = .ok (.iload 4, 2) := by decide +kernel
theorem dX12_moved_48 : decode cX12_moved 48 = .ok (.invokevirtual 344, 3) := by decide +kernel
theorem dX12_moved_51 : decode cX12_moved 51 = .ok (.ireturn, 1) := by decide +kernel
theorem dX12_moved_52 : decode cX12_moved 52 = .ok (.aload_n 0, 1) := by decide +kernel
theorem dX12_moved_53 : decode cX12_moved 53 = .ok (.iload_n 2, 1) := by decide +kernel
theorem dX12_moved_54 : decode cX12_moved 54 = .ok (.invokevirtual 347, 3) := by decide +kernel
theorem dX12_moved_57 : decode cX12_moved 57 = .ok (.ireturn, 1) := by decide +kernel
theorem dX12_moved_58 : decode cX12_moved 58 = .ok (.aload_n 0, 1) := by decide +kernel
theorem dX12_moved_59 : decode cX12_moved 59 = .ok (.iload_n 2, 1) := by decide +kernel
theorem dX12_moved_60 : decode cX12_moved 60 = .ok (.iload_n 3, 1) := by decide +kernel
theorem dX12_moved_61 : decode cX12_moved 61 = .ok (.invokevirtual 350, 3) := by decide +kernel
theorem dX12_moved_64 : decode cX12_moved 64 = .ok (.ireturn, 1) := by decide +kernel
theorem dX12_moved_65 : decode cX12_moved 65 = .ok (.aload_n 0, 1) := by decide +kernel
theorem dX12_moved_66 : decode cX12_moved 66 = .ok (.iload_n 2, 1) := by decide +kernel
theorem dX12_moved_67 : decode cX12_moved 67 = .ok (.iload_n 3, 1) := by decide +kernel
theorem dX12_moved_68 : decode cX12_moved 68 = .ok (.invokevirtual 353, 3) := by decide +kernel
theorem dX12_moved_71 : decode cX12_moved 71 = .ok (.ireturn, 1) := by decide +kernel
theorem dX12_moved_72 : decode cX12_moved 72 = .ok (.aload_n 0, 1) := by decide +kernel
theorem dX12_moved_73 : decode cX12_moved 73 = .ok (.sipush 364, 3) := by decide +kernel
theorem dX12_moved_76 : decode cX12_moved 76 = .ok (.iload_n 2, 1) := by decide +kernel
theorem dX12_moved_77 : decode cX12_moved 77 = .ok (.iconst 1, 1) := by decide +kernel
theorem dX12_moved_78 : decode cX12_moved 78 = .ok (.invokevirtual 356, 3) := by decide +kernel
theorem dX12_moved_81 : decode cX12_moved 81 = .ok (.ireturn, 1) := by decide +kernel
theorem dX12_unmoved_0 : decode cX12_unmoved 0 = .ok (.iload_n 1, 1) := by decide +kernel
theorem dX12_unmoved_1 : decode cX12_unmoved 1 = .ok (.tableswitch 94 0 3 #[31, 37, 43, 68], 31) := by decide +kernel
theorem dX12_unmoved_32 : decode cX12_unmoved 32 = .ok (.aload_n 0, 1) := by decide +kernel
theorem dX12_unmoved_33 : decode cX12_unmoved 33 = .ok (.iload_n 2, 1) := by decide +kernel
theorem dX12_unmoved_34 : decode cX12_unmoved 34 = .ok (.invokevirtual 359, 3) := by decide +kernel
theorem dX12_unmoved_37 : decode cX12_unmoved 37 = .ok (.ireturn, 1) := by decide +kernel
theorem dX12_unmoved_38 : decode cX12_unmoved 38 = .ok (.aload_n 0, 1) := by decide +kernel
theorem dX12_unmoved_39 : decode cX12_unmoved 39 = .ok (.iload_n 2, 1) := by decide +kernel
theorem dX12_unmoved_40 : decode cX12_unmoved 40 = .ok (.invokevirtual 362, 3) := by decide +kernel
theorem dX12_unmoved_43 : decode cX12_unmoved 43 = .ok (.ireturn, 1) := by decide +kernel
theorem dX12_unmoved_44 : decode cX12_unmoved 44 = .ok (.aload_n 0, 1) := by decide +kernel
theorem dX12_unmoved_45 : decode cX12_unmoved 45 = .ok (.sipush 364, 3) := by decide +kernel
theorem dX12_unmoved_48 : decode cX12_unmoved 48 = .ok (.iload_n 2, 1) := by decide +kernel
theorem dX12_unmoved_49 : decode cX12_unmoved 49 = .ok (.invokevirtual 301, 3) := by decide +kernel
theorem dX12_unmoved_52 : decode cX12_unmoved 52 = .ok (.ifCond .eq 15, 3) := by decide +kernel
theorem dX12_unmoved_55 : decode cX12_unmoved 55 = .ok (.aload_n 0, 1) := by decide +kernel
theorem dX12_unmoved_56 : decode cX12_unmoved 56 = .ok (.iload_n 2, 1) := by decide +kernel
theorem dX12_unmoved_57 : decode cX12_unmoved 57 = .ok (.iconst 2, 1) := by decide +kernel
theorem dX12_unmoved_58 : decode cX12_unmoved 58 = .ok (.invokestatic 209, 3) := by decide +kernel
theorem dX12_unmoved_61 : decode cX12_unmoved 61 = .ok (.invokevirtual 347, 3) := by decide +kernel
theorem dX12_unmoved_64 : decode cX12_unmoved 64 = .ok (.goto 4, 3) := by decide +kernel
theorem dX12_unmoved_67 : decode cX12_unmoved 67 = .ok (.iconst 5, 1) := by decide +kernel
theorem dX12_unmoved_68 : decode cX12_unmoved 68 = .ok (.ireturn, 1) := by decide +kernel
theorem dX12_unmoved_69 : decode cX12_unmoved 69 = .ok (.aload_n 0, 1) := by decide +kernel
theorem dX12_unmoved_70 : decode cX12_unmoved 70 = .ok (.sipush 364, 3) := by decide +kernel
theorem dX12_unmoved_73 : decode cX12_unmoved 73 = .ok (.iload_n 2, 1) := by decide +kernel
theorem dX12_unmoved_74 : decode cX12_unmoved 74 = .ok (.invokevirtual 301, 3) := by decide +kernel
theorem dX12_unmoved_77 : decode cX12_unmoved 77 = .ok (.ifCond .eq 16, 3) := by decide +kernel
theorem dX12_unmoved_80 : decode cX12_unmoved 80 = .ok (.aload_n 0, 1) := by decide +kernel
theorem dX12_unmoved_81 : decode cX12_unmoved 81 = .ok (.iload_n 2, 1) := by decide +kernel
theorem dX12_unmoved_82 : decode cX12_unmoved 82 = .ok (.iconst 2, 1) := by decide +kernel
theorem dX12_unmoved_83 : decode cX12_unmoved 83 = .ok (.invokestatic 209, 3) := by decide +kernel
theorem dX12_unmoved_86 : decode cX12_unmoved 86 = .ok (.iload_n 3, 1) := by decide +kernel
theorem dX12_unmoved_87 : decode cX12_unmoved 87 = .ok (.invokevirtual 350, 3) := by decide +kernel
theorem dX12_unmoved_90 : decode cX12_unmoved 90 = .ok (.goto 4, 3) := by decide +kernel
theorem dX12_unmoved_93 : decode cX12_unmoved 93 = .ok (.iconst 5, 1) := by decide +kernel
theorem dX12_unmoved_94 : decode cX12_unmoved 94 = .ok (.ireturn, 1) := by decide +kernel
theorem dX12_unmoved_95 : decode cX12_unmoved 95 = .ok (.aload_n 0, 1) := by decide +kernel
theorem dX12_unmoved_96 : decode cX12_unmoved 96 = .ok (.sipush 364, 3) := by decide +kernel
theorem dX12_unmoved_99 : decode cX12_unmoved 99 = .ok (.iload_n 2, 1) := by decide +kernel
theorem dX12_unmoved_100 : decode cX12_unmoved 100 = .ok (.iconst 3, 1) := by decide +kernel
theorem dX12_unmoved_101 : decode cX12_unmoved 101 = .ok (.invokevirtual 356, 3) := by decide +kernel
theorem dX12_unmoved_104 : decode cX12_unmoved 104 = .ok (.ireturn, 1) := by decide +kernel
theorem dX12_move_0 : decode cX12_move 0 = .ok (.iload_n 1, 1) := by decide +kernel
theorem dX12_move_1 : decode cX12_move 1 = .ok (.i2l, 1) := by decide +kernel
theorem dX12_move_2 : decode cX12_move 2 = .ok (.lconst 0, 1) := by decide +kernel
theorem dX12_move_3 : decode cX12_move 3 = .ok (.ldc2_w 235, 3) := by decide +kernel
theorem dX12_move_6 : decode cX12_move 6 = .ok (.invokestatic 172, 3) := by decide +kernel
theorem dX12_move_9 : decode cX12_move 9 = .ok (.ifCond .ne 10, 3) := by decide +kernel
theorem dX12_move_12 : decode cX12_move 12 = .ok (.aload_n 0, 1) := by decide +kernel
theorem dX12_move_13 : decode cX12_move 13 = .ok (.bipush (-2), 2) := by decide +kernel
theorem dX12_move_15 : decode cX12_move 15 = .ok (.invokevirtual 165, 3) := by decide +kernel
theorem dX12_move_18 : decode cX12_move 18 = .ok (.ireturn, 1) := by decide +kernel
theorem dX12_move_19 : decode cX12_move 19 = .ok (.aload_n 0, 1) := by decide +kernel
theorem dX12_move_20 : decode cX12_move 20 = .ok (.getfield 365, 3) := by decide +kernel
theorem dX12_move_23 : decode cX12_move 23 = .ok (.bipush 60, 2) := by decide +kernel
theorem dX12_move_25 : decode cX12_move 25 = .ok (.if_icmp .ne 10, 3) := by decide +kernel
theorem dX12_move_28 : decode cX12_move 28 = .ok (.aload_n 0, 1) := by decide +kernel
theorem dX12_move_29 : decode cX12_move 29 = .ok (.bipush (-3), 2) := by decide +kernel
theorem dX12_move_31 : decode cX12_move 31 = .ok (.invokevirtual 165, 3) := by decide +kernel
theorem dX12_move_34 : decode cX12_move 34 = .ok (.ireturn, 1) := by decide +kernel
theorem dX12_move_35 : decode cX12_move 35 = .ok (.aload_n 0, 1) := by decide +kernel
theorem dX12_move_36 : decode cX12_move 36 = .ok (.getfield 104, 3) := by decide +kernel
theorem dX12_move_39 : decode cX12_move 39 = .ok (.iconst 4, 1) := by decide +kernel
theorem dX12_move_40 : decode cX12_move 40 = .ok (.aload_n 0, 1) := by decide +kernel
theorem dX12_move_41 : decode cX12_move 41 = .ok (.getfield 365, 3) := by decide +kernel
theorem dX12_move_44 : decode cX12_move 44 = .ok (.imul, 1) := by decide +kernel
theorem dX12_move_45 : decode cX12_move 45 = .ok (.iload_n 1, 1) := by decide +kernel
theorem dX12_move_46 : decode cX12_move 46 = .ok (.iastore, 1) := by decide +kernel
theorem dX12_move_47 : decode cX12_move 47 = .ok (.aload_n 0, 1) := by decide +kernel
theorem dX12_move_48 : decode cX12_move 48 = .ok (.getfield 104, 3) := by decide +kernel
theorem dX12_move_51 : decode cX12_move 51 = .ok (.iconst 4, 1) := by decide +kernel
theorem dX12_move_52 : decode cX12_move 52 = .ok (.aload_n 0, 1) := by decide +kernel
theorem dX12_move_53 : decode cX12_move 53 = .ok (.getfield 365, 3) := by decide +kernel
theorem dX12_move_56 : decode cX12_move 56 = .ok (.imul, 1) := by decide +kernel
theorem dX12_move_57 : decode cX12_move 57 = .ok (.iconst 1, 1) := by decide +kernel
theorem dX12_move_58 : decode cX12_move 58 = .ok (.iadd, 1) := by decide +kernel
theorem dX12_move_59 : decode cX12_move 59 = .ok (.iload_n 2, 1) := by decide +kernel
theorem dX12_move_60 : decode cX12_move 60 = .ok (.iastore, 1) := by decide +kernel
theorem dX12_move_61 : decode cX12_move 61 = .ok (.aload_n 0, 1) := by decide +kernel
theorem dX12_move_62 : decode cX12_move 62 = .ok (.getfield 104, 3) := by decide +kernel
theorem dX12_move_65 : decode cX12_move 65 = .ok (.iconst 4, 1) := by decide +kernel
theorem dX12_move_66 : decode cX12_move 66 = .ok (.aload_n 0, 1) := by decide +kernel
theorem dX12_move_67 : decode cX12_move 67 = .ok (.getfield 365, 3) := by decide +kernel
theorem dX12_move_70 : decode cX12_move 70 = .ok (.imul, 1) := by decide +kernel
theorem dX12_move_71 : decode cX12_move 71 = .ok (.iconst 2, 1) := by decide +kernel
theorem dX12_move_72 : decode cX12_move 72 = .ok (.iadd, 1) := by decide +kernel
theorem dX12_move_73 : decode cX12_move 73 = .ok (.iload_n 3, 1) := by decide +kernel
theorem dX12_move_74 : decode cX12_move 74 = .ok (.iastore, 1) := by decide +kernel
theorem dX12_move_75 : decode cX12_move 75 = .ok (.aload_n 0, 1) := by decide +kernel
theorem dX12_move_76 : decode cX12_move 76 = .ok (.getfield 104, 3) := by decide +kernel
theorem dX12_move_79 : decode cX12_move 79 = .ok (.iconst 4, 1) := by decide +kernel
theorem dX12_move_80 : decode cX12_move 80 = .ok (.aload_n 0, 1) := by decide +kernel
theorem dX12_move_81 : decode cX12_move 81 = .ok (.getfield 365, 3) := by decide +kernel
theorem dX12_move_84 : decode cX12_move 84 = .ok (.imul, 1) := by decide +kernel
theorem dX12_move_85 : decode cX12_move 85 = .ok (.iconst 3, 1) := by decide +kernel
theorem dX12_move_86 : decode cX12_move 86 = .ok (.iadd, 1) := by decide +kernel
theorem dX12_move_87 : decode cX12_move 87 = .ok (.iload 4, 2) := by decide +kernel
theorem dX12_move_89 : decode cX12_move 89 = .ok (.iastore, 1) := by decide +kernel
theorem dX12_move_90 : decode cX12_move 90 = .ok (.aload_n 0, 1) := by decide +kernel
theorem dX12_move_91 : decode cX12_move 91 = .ok (.dup, 1) := by decide +kernel
theorem dX12_move_92 : decode cX12_move 92 = .ok (.getfield 365, 3) := by decide +kernel
theorem dX12_move_95 : decode cX12_move 95 = .ok (.iconst 1, 1) := by decide +kernel
theorem dX12_move_96 : decode cX12_move 96 = .ok (.iadd, 1) := by decide +kernel
theorem dX12_move_97 : decode cX12_move 97 = .ok (.putfield 365, 3) := by decide +kernel
theorem dX12_move_100 : decode cX12_move 100 = .ok (.aload_n 0, 1) := by decide +kernel
theorem dX12_move_101 : decode cX12_move 101 = .ok (.aload_n 0, 1) := by decide +kernel
theorem dX12_move_102 : decode cX12_move 102 = .ok (.getfield 365, 3) := by decide +kernel
theorem dX12_move_105 : decode cX12_move 105 = .ok (.iconst 1, 1) := by decide +kernel
theorem dX12_move_106 : decode cX12_move 106 = .ok (.isub, 1) := by decide +kernel
theorem dX12_move_107 : decode cX12_move 107 = .ok (.invokevirtual 180, 3) := by decide +kernel
theorem dX12_move_110 : decode cX12_move 110 = .ok (.ireturn, 1) := by decide +kernel
theorem dX12_isMove_0 : decode cX12_isMove 0 = .ok (.iload_n 1, 1) := by decide +kernel
theorem dX12_isMove_1 : decode cX12_isMove 1 = .ok (.i2l, 1) := by decide +kernel
theorem dX12_isMove_2 : decode cX12_isMove 2 = .ok (.lconst 0, 1) := by decide +kernel
theorem dX12_isMove_3 : decode cX12_isMove 3 = .ok (.aload_n 0, 1) := by decide +kernel
theorem dX12_isMove_4 : decode cX12_isMove 4 = .ok (.getfield 365, 3) := by decide +kernel
theorem dX12_isMove_7 : decode cX12_isMove 7 = .ok (.iconst 1, 1) := by decide +kernel
theorem dX12_isMove_8 : decode cX12_isMove 8 = .ok (.isub, 1) := by decide +kernel
theorem dX12_isMove_9 : decode cX12_isMove 9 = .ok (.i2l, 1) := by decide +kernel
theorem dX12_isMove_10 : decode cX12_isMove 10 = .ok (.invokestatic 172, 3) := by decide +kernel
theorem dX12_isMove_13 : decode cX12_isMove 13 = .ok (.ireturn, 1) := by decide +kernel
theorem dX12_body_0 : decode cX12_body 0 = .ok (.aload_n 0, 1) := by decide +kernel
theorem dX12_body_1 : decode cX12_body 1 = .ok (.getfield 107, 3) := by decide +kernel
theorem dX12_body_4 : decode cX12_body 4 = .ok (.aload_n 0, 1) := by decide +kernel
theorem dX12_body_5 : decode cX12_body 5 = .ok (.getfield 368, 3) := by decide +kernel
theorem dX12_body_8 : decode cX12_body 8 = .ok (.iload_n 1, 1) := by decide +kernel
theorem dX12_body_9 : decode cX12_body 9 = .ok (.iastore, 1) := by decide +kernel
theorem dX12_body_10 : decode cX12_body 10 = .ok (.aload_n 0, 1) := by decide +kernel
theorem dX12_body_11 : decode cX12_body 11 = .ok (.dup, 1) := by decide +kernel
theorem dX12_body_12 : decode cX12_body 12 = .ok (.getfield 368, 3) := by decide +kernel
theorem dX12_body_15 : decode cX12_body 15 = .ok (.iconst 1, 1) := by decide +kernel
theorem dX12_body_16 : decode cX12_body 16 = .ok (.iadd, 1) := by decide +kernel
theorem dX12_body_17 : decode cX12_body 17 = .ok (.putfield 368, 3) := by decide +kernel
theorem dX12_body_20 : decode cX12_body 20 = .ok (.return_, 1) := by decide +kernel
theorem dX12_tells_0 : decode cX12_tells 0 = .ok (.aload_n 0, 1) := by decide +kernel
theorem dX12_tells_1 : decode cX12_tells 1 = .ok (.iload_n 1, 1) := by decide +kernel
theorem dX12_tells_2 : decode cX12_tells 2 = .ok (.invokevirtual 371, 3) := by decide +kernel
theorem dX12_tells_5 : decode cX12_tells 5 = .ok (.ifCond .eq 15, 3) := by decide +kernel
theorem dX12_tells_8 : decode cX12_tells 8 = .ok (.iload_n 2, 1) := by decide +kernel
theorem dX12_tells_9 : decode cX12_tells 9 = .ok (.i2l, 1) := by decide +kernel
theorem dX12_tells_10 : decode cX12_tells 10 = .ok (.lconst 0, 1) := by decide +kernel
theorem dX12_tells_11 : decode cX12_tells 11 = .ok (.ldc2_w 235, 3) := by decide +kernel
theorem dX12_tells_14 : decode cX12_tells 14 = .ok (.invokestatic 172, 3) := by decide +kernel
theorem dX12_tells_17 : decode cX12_tells 17 = .ok (.ifCond .ne 10, 3) := by decide +kernel
theorem dX12_tells_20 : decode cX12_tells 20 = .ok (.aload_n 0, 1) := by decide +kernel
theorem dX12_tells_21 : decode cX12_tells 21 = .ok (.bipush (-2), 2) := by decide +kernel
theorem dX12_tells_23 : decode cX12_tells 23 = .ok (.invokevirtual 165, 3) := by decide +kernel
theorem dX12_tells_26 : decode cX12_tells 26 = .ok (.ireturn, 1) := by decide +kernel
theorem dX12_tells_27 : decode cX12_tells 27 = .ok (.aload_n 0, 1) := by decide +kernel
theorem dX12_tells_28 : decode cX12_tells 28 = .ok (.iconst 0, 1) := by decide +kernel
theorem dX12_tells_29 : decode cX12_tells 29 = .ok (.putfield 368, 3) := by decide +kernel
theorem dX12_tells_32 : decode cX12_tells 32 = .ok (.iload_n 2, 1) := by decide +kernel
theorem dX12_tells_33 : decode cX12_tells 33 = .ok (.iconst 4, 1) := by decide +kernel
theorem dX12_tells_34 : decode cX12_tells 34 = .ok (.if_icmp .ge 18, 3) := by decide +kernel
theorem dX12_tells_37 : decode cX12_tells 37 = .ok (.aload_n 0, 1) := by decide +kernel
theorem dX12_tells_38 : decode cX12_tells 38 = .ok (.aload_n 0, 1) := by decide +kernel
theorem dX12_tells_39 : decode cX12_tells 39 = .ok (.getfield 104, 3) := by decide +kernel
theorem dX12_tells_42 : decode cX12_tells 42 = .ok (.iconst 4, 1) := by decide +kernel
theorem dX12_tells_43 : decode cX12_tells 43 = .ok (.iload_n 1, 1) := by decide +kernel
theorem dX12_tells_44 : decode cX12_tells 44 = .ok (.imul, 1) := by decide +kernel
theorem dX12_tells_45 : decode cX12_tells 45 = .ok (.iload_n 2, 1) := by decide +kernel
theorem dX12_tells_46 : decode cX12_tells 46 = .ok (.iadd, 1) := by decide +kernel
theorem dX12_tells_47 : decode cX12_tells 47 = .ok (.iaload, 1) := by decide +kernel
theorem dX12_tells_48 : decode cX12_tells 48 = .ok (.invokevirtual 180, 3) := by decide +kernel
theorem dX12_tells_51 : decode cX12_tells 51 = .ok (.ireturn, 1) := by decide +kernel
theorem dX12_tells_52 : decode cX12_tells 52 = .ok (.aload_n 0, 1) := by decide +kernel
theorem dX12_tells_53 : decode cX12_tells 53 = .ok (.aload_n 0, 1) := by decide +kernel
theorem dX12_tells_54 : decode cX12_tells 54 = .ok (.getfield 104, 3) := by decide +kernel
theorem dX12_tells_57 : decode cX12_tells 57 = .ok (.iconst 4, 1) := by decide +kernel
theorem dX12_tells_58 : decode cX12_tells 58 = .ok (.iload_n 1, 1) := by decide +kernel
theorem dX12_tells_59 : decode cX12_tells 59 = .ok (.imul, 1) := by decide +kernel
theorem dX12_tells_60 : decode cX12_tells 60 = .ok (.iaload, 1) := by decide +kernel
theorem dX12_tells_61 : decode cX12_tells 61 = .ok (.invokevirtual 374, 3) := by decide +kernel
theorem dX12_tells_64 : decode cX12_tells 64 = .ok (.istore_n 3, 1) := by decide +kernel
theorem dX12_tells_65 : decode cX12_tells 65 = .ok (.aload_n 0, 1) := by decide +kernel
theorem dX12_tells_66 : decode cX12_tells 66 = .ok (.iload_n 2, 1) := by decide +kernel
theorem dX12_tells_67 : decode cX12_tells 67 = .ok (.iconst 4, 1) := by decide +kernel
theorem dX12_tells_68 : decode cX12_tells 68 = .ok (.if_icmp .ne 7, 3) := by decide +kernel
theorem dX12_tells_71 : decode cX12_tells 71 = .ok (.iload_n 3, 1) := by decide +kernel
theorem dX12_tells_72 : decode cX12_tells 72 = .ok (.goto 12, 3) := by decide +kernel
theorem dX12_tells_75 : decode cX12_tells 75 = .ok (.iload_n 3, 1) := by decide +kernel
theorem dX12_tells_76 : decode cX12_tells 76 = .ok (.ifCond .ne 7, 3) := by decide +kernel
theorem dX12_tells_79 : decode cX12_tells 79 = .ok (.iconst 1, 1) := by decide +kernel
theorem dX12_tells_80 : decode cX12_tells 80 = .ok (.goto 4, 3) := by decide +kernel
theorem dX12_tells_83 : decode cX12_tells 83 = .ok (.iconst 0, 1) := by decide +kernel
theorem dX12_tells_84 : decode cX12_tells 84 = .ok (.invokevirtual 180, 3) := by decide +kernel
theorem dX12_tells_87 : decode cX12_tells 87 = .ok (.ireturn, 1) := by decide +kernel
theorem dX12_moreOf_0 : decode cX12_moreOf 0 = .ok (.iload_n 1, 1) := by decide +kernel
theorem dX12_moreOf_1 : decode cX12_moreOf 1 = .ok (.tableswitch 73 0 4 #[35, 42, 59, 59, 66], 35) := by decide +kernel
theorem dX12_moreOf_36 : decode cX12_moreOf 36 = .ok (.aload_n 0, 1) := by decide +kernel
theorem dX12_moreOf_37 : decode cX12_moreOf 37 = .ok (.iconst 1, 1) := by decide +kernel
theorem dX12_moreOf_38 : decode cX12_moreOf 38 = .ok (.invokevirtual 377, 3) := by decide +kernel
theorem dX12_moreOf_41 : decode cX12_moreOf 41 = .ok (.iconst 1, 1) := by decide +kernel
theorem dX12_moreOf_42 : decode cX12_moreOf 42 = .ok (.ireturn, 1) := by decide +kernel
theorem dX12_moreOf_43 : decode cX12_moreOf 43 = .ok (.aload_n 0, 1) := by decide +kernel
theorem dX12_moreOf_44 : decode cX12_moreOf 44 = .ok (.iconst 2, 1) := by decide +kernel
theorem dX12_moreOf_45 : decode cX12_moreOf 45 = .ok (.invokevirtual 377, 3) := by decide +kernel
theorem dX12_moreOf_48 : decode cX12_moreOf 48 = .ok (.aload_n 0, 1) := by decide +kernel
theorem dX12_moreOf_49 : decode cX12_moreOf 49 = .ok (.iconst 1, 1) := by decide +kernel
theorem dX12_moreOf_50 : decode cX12_moreOf 50 = .ok (.invokevirtual 377, 3) := by decide +kernel
theorem dX12_moreOf_53 : decode cX12_moreOf 53 = .ok (.aload_n 0, 1) := by decide +kernel
theorem dX12_moreOf_54 : decode cX12_moreOf 54 = .ok (.iconst 1, 1) := by decide +kernel
theorem dX12_moreOf_55 : decode cX12_moreOf 55 = .ok (.invokevirtual 377, 3) := by decide +kernel
theorem dX12_moreOf_58 : decode cX12_moreOf 58 = .ok (.iconst 2, 1) := by decide +kernel
theorem dX12_moreOf_59 : decode cX12_moreOf 59 = .ok (.ireturn, 1) := by decide +kernel
theorem dX12_moreOf_60 : decode cX12_moreOf 60 = .ok (.aload_n 0, 1) := by decide +kernel
theorem dX12_moreOf_61 : decode cX12_moreOf 61 = .ok (.iconst 3, 1) := by decide +kernel
theorem dX12_moreOf_62 : decode cX12_moreOf 62 = .ok (.invokevirtual 377, 3) := by decide +kernel
theorem dX12_moreOf_65 : decode cX12_moreOf 65 = .ok (.iconst 0, 1) := by decide +kernel
theorem dX12_moreOf_66 : decode cX12_moreOf 66 = .ok (.ireturn, 1) := by decide +kernel
theorem dX12_moreOf_67 : decode cX12_moreOf 67 = .ok (.aload_n 0, 1) := by decide +kernel
theorem dX12_moreOf_68 : decode cX12_moreOf 68 = .ok (.iconst 5, 1) := by decide +kernel
theorem dX12_moreOf_69 : decode cX12_moreOf 69 = .ok (.invokevirtual 377, 3) := by decide +kernel
theorem dX12_moreOf_72 : decode cX12_moreOf 72 = .ok (.iconst (-1), 1) := by decide +kernel
theorem dX12_moreOf_73 : decode cX12_moreOf 73 = .ok (.ireturn, 1) := by decide +kernel
theorem dX12_moreOf_74 : decode cX12_moreOf 74 = .ok (.aload_n 0, 1) := by decide +kernel
theorem dX12_moreOf_75 : decode cX12_moreOf 75 = .ok (.bipush 6, 2) := by decide +kernel
theorem dX12_moreOf_77 : decode cX12_moreOf 77 = .ok (.invokevirtual 377, 3) := by decide +kernel
theorem dX12_moreOf_80 : decode cX12_moreOf 80 = .ok (.iconst 0, 1) := by decide +kernel
theorem dX12_moreOf_81 : decode cX12_moreOf 81 = .ok (.ireturn, 1) := by decide +kernel
theorem dX12_trace_0 : decode cX12_trace 0 = .ok (.iload_n 1, 1) := by decide +kernel
theorem dX12_trace_1 : decode cX12_trace 1 = .ok (.i2l, 1) := by decide +kernel
theorem dX12_trace_2 : decode cX12_trace 2 = .ok (.lconst 0, 1) := by decide +kernel
theorem dX12_trace_3 : decode cX12_trace 3 = .ok (.aload_n 0, 1) := by decide +kernel
theorem dX12_trace_4 : decode cX12_trace 4 = .ok (.getfield 368, 3) := by decide +kernel
theorem dX12_trace_7 : decode cX12_trace 7 = .ok (.iconst 1, 1) := by decide +kernel
theorem dX12_trace_8 : decode cX12_trace 8 = .ok (.isub, 1) := by decide +kernel
theorem dX12_trace_9 : decode cX12_trace 9 = .ok (.i2l, 1) := by decide +kernel
theorem dX12_trace_10 : decode cX12_trace 10 = .ok (.invokestatic 172, 3) := by decide +kernel
theorem dX12_trace_13 : decode cX12_trace 13 = .ok (.ifCond .eq 12, 3) := by decide +kernel
theorem dX12_trace_16 : decode cX12_trace 16 = .ok (.aload_n 0, 1) := by decide +kernel
theorem dX12_trace_17 : decode cX12_trace 17 = .ok (.getfield 107, 3) := by decide +kernel
theorem dX12_trace_20 : decode cX12_trace 20 = .ok (.iload_n 1, 1) := by decide +kernel
theorem dX12_trace_21 : decode cX12_trace 21 = .ok (.iaload, 1) := by decide +kernel
theorem dX12_trace_22 : decode cX12_trace 22 = .ok (.goto 4, 3) := by decide +kernel
theorem dX12_trace_25 : decode cX12_trace 25 = .ok (.iconst (-1), 1) := by decide +kernel
theorem dX12_trace_26 : decode cX12_trace 26 = .ok (.ireturn, 1) := by decide +kernel
theorem dX12_as_0 : decode cX12_as 0 = .ok (.aload_n 0, 1) := by decide +kernel
theorem dX12_as_1 : decode cX12_as 1 = .ok (.iload_n 1, 1) := by decide +kernel
theorem dX12_as_2 : decode cX12_as 2 = .ok (.invokevirtual 371, 3) := by decide +kernel
theorem dX12_as_5 : decode cX12_as 5 = .ok (.ifCond .eq 15, 3) := by decide +kernel
theorem dX12_as_8 : decode cX12_as 8 = .ok (.iload_n 2, 1) := by decide +kernel
theorem dX12_as_9 : decode cX12_as 9 = .ok (.i2l, 1) := by decide +kernel
theorem dX12_as_10 : decode cX12_as 10 = .ok (.lconst 0, 1) := by decide +kernel
theorem dX12_as_11 : decode cX12_as 11 = .ok (.ldc2_w 235, 3) := by decide +kernel
theorem dX12_as_14 : decode cX12_as 14 = .ok (.invokestatic 172, 3) := by decide +kernel
theorem dX12_as_17 : decode cX12_as 17 = .ok (.ifCond .ne 10, 3) := by decide +kernel
theorem dX12_as_20 : decode cX12_as 20 = .ok (.aload_n 0, 1) := by decide +kernel
theorem dX12_as_21 : decode cX12_as 21 = .ok (.bipush (-2), 2) := by decide +kernel
theorem dX12_as_23 : decode cX12_as 23 = .ok (.invokevirtual 165, 3) := by decide +kernel
theorem dX12_as_26 : decode cX12_as 26 = .ok (.ireturn, 1) := by decide +kernel
theorem dX12_as_27 : decode cX12_as 27 = .ok (.aload_n 0, 1) := by decide +kernel
theorem dX12_as_28 : decode cX12_as 28 = .ok (.getfield 104, 3) := by decide +kernel
theorem dX12_as_31 : decode cX12_as 31 = .ok (.iconst 4, 1) := by decide +kernel
theorem dX12_as_32 : decode cX12_as 32 = .ok (.iload_n 1, 1) := by decide +kernel
theorem dX12_as_33 : decode cX12_as 33 = .ok (.imul, 1) := by decide +kernel
theorem dX12_as_34 : decode cX12_as 34 = .ok (.iaload, 1) := by decide +kernel
theorem dX12_as_35 : decode cX12_as 35 = .ok (.istore_n 3, 1) := by decide +kernel
theorem dX12_as_36 : decode cX12_as 36 = .ok (.iload_n 3, 1) := by decide +kernel
theorem dX12_as_37 : decode cX12_as 37 = .ok (.iload_n 2, 1) := by decide +kernel
theorem dX12_as_38 : decode cX12_as 38 = .ok (.if_icmp .eq 17, 3) := by decide +kernel
theorem dX12_as_41 : decode cX12_as 41 = .ok (.iload_n 3, 1) := by decide +kernel
theorem dX12_as_42 : decode cX12_as 42 = .ok (.iconst 2, 1) := by decide +kernel
theorem dX12_as_43 : decode cX12_as 43 = .ok (.irem, 1) := by decide +kernel
theorem dX12_as_44 : decode cX12_as 44 = .ok (.iconst 1, 1) := by decide +kernel
theorem dX12_as_45 : decode cX12_as 45 = .ok (.if_icmp .ne 14, 3) := by decide +kernel
theorem dX12_as_48 : decode cX12_as 48 = .ok (.iload_n 2, 1) := by decide +kernel
theorem dX12_as_49 : decode cX12_as 49 = .ok (.iload_n 3, 1) := by decide +kernel
theorem dX12_as_50 : decode cX12_as 50 = .ok (.iconst 1, 1) := by decide +kernel
theorem dX12_as_51 : decode cX12_as 51 = .ok (.isub, 1) := by decide +kernel
theorem dX12_as_52 : decode cX12_as 52 = .ok (.if_icmp .ne 7, 3) := by decide +kernel
theorem dX12_as_55 : decode cX12_as 55 = .ok (.iconst 1, 1) := by decide +kernel
theorem dX12_as_56 : decode cX12_as 56 = .ok (.goto 4, 3) := by decide +kernel
theorem dX12_as_59 : decode cX12_as 59 = .ok (.iconst 0, 1) := by decide +kernel
theorem dX12_as_60 : decode cX12_as 60 = .ok (.istore 4, 2) := by decide +kernel
theorem dX12_as_62 : decode cX12_as 62 = .ok (.iload 4, 2) := by decide +kernel
theorem dX12_as_64 : decode cX12_as 64 = .ok (.ifCond .eq 11, 3) := by decide +kernel
theorem dX12_as_67 : decode cX12_as 67 = .ok (.aload_n 0, 1) := by decide +kernel
theorem dX12_as_68 : decode cX12_as 68 = .ok (.iconst 1, 1) := by decide +kernel
theorem dX12_as_69 : decode cX12_as 69 = .ok (.invokevirtual 180, 3) := by decide +kernel
theorem dX12_as_72 : decode cX12_as 72 = .ok (.goto 8, 3) := by decide +kernel
theorem dX12_as_75 : decode cX12_as 75 = .ok (.aload_n 0, 1) := by decide +kernel
theorem dX12_as_76 : decode cX12_as 76 = .ok (.iconst 4, 1) := by decide +kernel
theorem dX12_as_77 : decode cX12_as 77 = .ok (.invokevirtual 200, 3) := by decide +kernel
theorem dX12_as_80 : decode cX12_as 80 = .ok (.ireturn, 1) := by decide +kernel
theorem dX12_tried_0 : decode cX12_tried 0 = .ok (.aload_n 0, 1) := by decide +kernel
theorem dX12_tried_1 : decode cX12_tried 1 = .ok (.iload_n 1, 1) := by decide +kernel
theorem dX12_tried_2 : decode cX12_tried 2 = .ok (.invokevirtual 187, 3) := by decide +kernel
theorem dX12_tried_5 : decode cX12_tried 5 = .ok (.ifCond .eq 11, 3) := by decide +kernel
theorem dX12_tried_8 : decode cX12_tried 8 = .ok (.aload_n 0, 1) := by decide +kernel
theorem dX12_tried_9 : decode cX12_tried 9 = .ok (.iload_n 2, 1) := by decide +kernel
theorem dX12_tried_10 : decode cX12_tried 10 = .ok (.invokevirtual 371, 3) := by decide +kernel
theorem dX12_tried_13 : decode cX12_tried 13 = .ok (.ifCond .ne 10, 3) := by decide +kernel
theorem dX12_tried_16 : decode cX12_tried 16 = .ok (.aload_n 0, 1) := by decide +kernel
theorem dX12_tried_17 : decode cX12_tried 17 = .ok (.bipush (-2), 2) := by decide +kernel
theorem dX12_tried_19 : decode cX12_tried 19 = .ok (.invokevirtual 165, 3) := by decide +kernel
theorem dX12_tried_22 : decode cX12_tried 22 = .ok (.ireturn, 1) := by decide +kernel
theorem dX12_tried_23 : decode cX12_tried 23 = .ok (.aload_n 0, 1) := by decide +kernel
theorem dX12_tried_24 : decode cX12_tried 24 = .ok (.getfield 104, 3) := by decide +kernel
theorem dX12_tried_27 : decode cX12_tried 27 = .ok (.iconst 4, 1) := by decide +kernel
theorem dX12_tried_28 : decode cX12_tried 28 = .ok (.iload_n 2, 1) := by decide +kernel
theorem dX12_tried_29 : decode cX12_tried 29 = .ok (.imul, 1) := by decide +kernel
theorem dX12_tried_30 : decode cX12_tried 30 = .ok (.iaload, 1) := by decide +kernel
theorem dX12_tried_31 : decode cX12_tried 31 = .ok (.istore 4, 2) := by decide +kernel
theorem dX12_tried_33 : decode cX12_tried 33 = .ok (.iload_n 3, 1) := by decide +kernel
theorem dX12_tried_34 : decode cX12_tried 34 = .ok (.ifCond .eq 15, 3) := by decide +kernel
theorem dX12_tried_37 : decode cX12_tried 37 = .ok (.iload 4, 2) := by decide +kernel
theorem dX12_tried_39 : decode cX12_tried 39 = .ok (.iconst 4, 1) := by decide +kernel
theorem dX12_tried_40 : decode cX12_tried 40 = .ok (.if_icmp .ne 9, 3) := by decide +kernel
theorem dX12_tried_43 : decode cX12_tried 43 = .ok (.aload_n 0, 1) := by decide +kernel
theorem dX12_tried_44 : decode cX12_tried 44 = .ok (.iconst 4, 1) := by decide +kernel
theorem dX12_tried_45 : decode cX12_tried 45 = .ok (.invokevirtual 200, 3) := by decide +kernel
theorem dX12_tried_48 : decode cX12_tried 48 = .ok (.ireturn, 1) := by decide +kernel
theorem dX12_tried_49 : decode cX12_tried 49 = .ok (.aload_n 0, 1) := by decide +kernel
theorem dX12_tried_50 : decode cX12_tried 50 = .ok (.iload_n 1, 1) := by decide +kernel
theorem dX12_tried_51 : decode cX12_tried 51 = .ok (.invokevirtual 237, 3) := by decide +kernel
theorem dX12_tried_54 : decode cX12_tried 54 = .ok (.istore 5, 2) := by decide +kernel
theorem dX12_tried_56 : decode cX12_tried 56 = .ok (.iload 5, 2) := by decide +kernel
theorem dX12_tried_58 : decode cX12_tried 58 = .ok (.ifCond .ge 6, 3) := by decide +kernel
theorem dX12_tried_61 : decode cX12_tried 61 = .ok (.iload 5, 2) := by decide +kernel
theorem dX12_tried_63 : decode cX12_tried 63 = .ok (.ireturn, 1) := by decide +kernel
theorem dX12_tried_64 : decode cX12_tried 64 = .ok (.aload_n 0, 1) := by decide +kernel
theorem dX12_tried_65 : decode cX12_tried 65 = .ok (.iload_n 1, 1) := by decide +kernel
theorem dX12_tried_66 : decode cX12_tried 66 = .ok (.sipush 364, 3) := by decide +kernel
theorem dX12_tried_69 : decode cX12_tried 69 = .ok (.invokevirtual 176, 3) := by decide +kernel
theorem dX12_tried_72 : decode cX12_tried 72 = .ok (.iload_n 3, 1) := by decide +kernel
theorem dX12_tried_73 : decode cX12_tried 73 = .ok (.ifCond .eq 32, 3) := by decide +kernel
theorem dX12_tried_76 : decode cX12_tried 76 = .ok (.aload_n 0, 1) := by decide +kernel
theorem dX12_tried_77 : decode cX12_tried 77 = .ok (.iload 4, 2) := by decide +kernel
theorem dX12_tried_79 : decode cX12_tried 79 = .ok (.aload_n 0, 1) := by decide +kernel
theorem dX12_tried_80 : decode cX12_tried 80 = .ok (.getfield 104, 3) := by decide +kernel
theorem dX12_tried_83 : decode cX12_tried 83 = .ok (.iconst 4, 1) := by decide +kernel
theorem dX12_tried_84 : decode cX12_tried 84 = .ok (.iload_n 2, 1) := by decide +kernel
theorem dX12_tried_85 : decode cX12_tried 85 = .ok (.imul, 1) := by decide +kernel
theorem dX12_tried_86 : decode cX12_tried 86 = .ok (.iconst 1, 1) := by decide +kernel
theorem dX12_tried_87 : decode cX12_tried 87 = .ok (.iadd, 1) := by decide +kernel
theorem dX12_tried_88 : decode cX12_tried 88 = .ok (.iaload, 1) := by decide +kernel
theorem dX12_tried_89 : decode cX12_tried 89 = .ok (.aload_n 0, 1) := by decide +kernel
theorem dX12_tried_90 : decode cX12_tried 90 = .ok (.getfield 104, 3) := by decide +kernel
theorem dX12_tried_93 : decode cX12_tried 93 = .ok (.iconst 4, 1) := by decide +kernel
theorem dX12_tried_94 : decode cX12_tried 94 = .ok (.iload_n 2, 1) := by decide +kernel
theorem dX12_tried_95 : decode cX12_tried 95 = .ok (.imul, 1) := by decide +kernel
theorem dX12_tried_96 : decode cX12_tried 96 = .ok (.iconst 2, 1) := by decide +kernel
theorem dX12_tried_97 : decode cX12_tried 97 = .ok (.iadd, 1) := by decide +kernel
theorem dX12_tried_98 : decode cX12_tried 98 = .ok (.iaload, 1) := by decide +kernel
theorem dX12_tried_99 : decode cX12_tried 99 = .ok (.invokevirtual 380, 3) := by decide +kernel
theorem dX12_tried_102 : decode cX12_tried 102 = .ok (.goto 39, 3) := by decide +kernel
theorem dX12_tried_105 : decode cX12_tried 105 = .ok (.aload_n 0, 1) := by decide +kernel
theorem dX12_tried_106 : decode cX12_tried 106 = .ok (.iload 4, 2) := by decide +kernel
theorem dX12_tried_108 : decode cX12_tried 108 = .ok (.aload_n 0, 1) := by decide +kernel
theorem dX12_tried_109 : decode cX12_tried 109 = .ok (.getfield 104, 3) := by decide +kernel
theorem dX12_tried_112 : decode cX12_tried 112 = .ok (.iconst 4, 1) := by decide +kernel
theorem dX12_tried_113 : decode cX12_tried 113 = .ok (.iload_n 2, 1) := by decide +kernel
theorem dX12_tried_114 : decode cX12_tried 114 = .ok (.imul, 1) := by decide +kernel
theorem dX12_tried_115 : decode cX12_tried 115 = .ok (.iconst 1, 1) := by decide +kernel
theorem dX12_tried_116 : decode cX12_tried 116 = .ok (.iadd, 1) := by decide +kernel
theorem dX12_tried_117 : decode cX12_tried 117 = .ok (.iaload, 1) := by decide +kernel
theorem dX12_tried_118 : decode cX12_tried 118 = .ok (.aload_n 0, 1) := by decide +kernel
theorem dX12_tried_119 : decode cX12_tried 119 = .ok (.getfield 104, 3) := by decide +kernel
theorem dX12_tried_122 : decode cX12_tried 122 = .ok (.iconst 4, 1) := by decide +kernel
theorem dX12_tried_123 : decode cX12_tried 123 = .ok (.iload_n 2, 1) := by decide +kernel
theorem dX12_tried_124 : decode cX12_tried 124 = .ok (.imul, 1) := by decide +kernel
theorem dX12_tried_125 : decode cX12_tried 125 = .ok (.iconst 2, 1) := by decide +kernel
theorem dX12_tried_126 : decode cX12_tried 126 = .ok (.iadd, 1) := by decide +kernel
theorem dX12_tried_127 : decode cX12_tried 127 = .ok (.iaload, 1) := by decide +kernel
theorem dX12_tried_128 : decode cX12_tried 128 = .ok (.aload_n 0, 1) := by decide +kernel
theorem dX12_tried_129 : decode cX12_tried 129 = .ok (.getfield 104, 3) := by decide +kernel
theorem dX12_tried_132 : decode cX12_tried 132 = .ok (.iconst 4, 1) := by decide +kernel
theorem dX12_tried_133 : decode cX12_tried 133 = .ok (.iload_n 2, 1) := by decide +kernel
theorem dX12_tried_134 : decode cX12_tried 134 = .ok (.imul, 1) := by decide +kernel
theorem dX12_tried_135 : decode cX12_tried 135 = .ok (.iconst 3, 1) := by decide +kernel
theorem dX12_tried_136 : decode cX12_tried 136 = .ok (.iadd, 1) := by decide +kernel
theorem dX12_tried_137 : decode cX12_tried 137 = .ok (.iaload, 1) := by decide +kernel
theorem dX12_tried_138 : decode cX12_tried 138 = .ok (.invokevirtual 383, 3) := by decide +kernel
theorem dX12_tried_141 : decode cX12_tried 141 = .ok (.istore 6, 2) := by decide +kernel
theorem dX12_tried_143 : decode cX12_tried 143 = .ok (.iload 6, 2) := by decide +kernel
theorem dX12_tried_145 : decode cX12_tried 145 = .ok (.ifCond .le 12, 3) := by decide +kernel
theorem dX12_tried_148 : decode cX12_tried 148 = .ok (.aload_n 0, 1) := by decide +kernel
theorem dX12_tried_149 : decode cX12_tried 149 = .ok (.iload 6, 2) := by decide +kernel
theorem dX12_tried_151 : decode cX12_tried 151 = .ok (.invokevirtual 200, 3) := by decide +kernel
theorem dX12_tried_154 : decode cX12_tried 154 = .ok (.goto 4, 3) := by decide +kernel
theorem dX12_tried_157 : decode cX12_tried 157 = .ok (.iconst 0, 1) := by decide +kernel
theorem dX12_tried_158 : decode cX12_tried 158 = .ok (.ireturn, 1) := by decide +kernel
theorem dX12_may_0 : decode cX12_may 0 = .ok (.aload_n 0, 1) := by decide +kernel
theorem dX12_may_1 : decode cX12_may 1 = .ok (.iload_n 1, 1) := by decide +kernel
theorem dX12_may_2 : decode cX12_may 2 = .ok (.iload_n 2, 1) := by decide +kernel
theorem dX12_may_3 : decode cX12_may 3 = .ok (.iconst 0, 1) := by decide +kernel
theorem dX12_may_4 : decode cX12_may 4 = .ok (.invokevirtual 387, 3) := by decide +kernel
theorem dX12_may_7 : decode cX12_may 7 = .ok (.istore_n 3, 1) := by decide +kernel
theorem dX12_may_8 : decode cX12_may 8 = .ok (.iload_n 3, 1) := by decide +kernel
theorem dX12_may_9 : decode cX12_may 9 = .ok (.ifCond .ge 7, 3) := by decide +kernel
theorem dX12_may_12 : decode cX12_may 12 = .ok (.iload_n 3, 1) := by decide +kernel
theorem dX12_may_13 : decode cX12_may 13 = .ok (.goto 8, 3) := by decide +kernel
theorem dX12_may_16 : decode cX12_may 16 = .ok (.aload_n 0, 1) := by decide +kernel
theorem dX12_may_17 : decode cX12_may 17 = .ok (.iconst 1, 1) := by decide +kernel
theorem dX12_may_18 : decode cX12_may 18 = .ok (.invokevirtual 180, 3) := by decide +kernel
theorem dX12_may_21 : decode cX12_may 21 = .ok (.ireturn, 1) := by decide +kernel
theorem dX12_does_0 : decode cX12_does 0 = .ok (.aload_n 0, 1) := by decide +kernel
theorem dX12_does_1 : decode cX12_does 1 = .ok (.iload_n 1, 1) := by decide +kernel
theorem dX12_does_2 : decode cX12_does 2 = .ok (.iload_n 2, 1) := by decide +kernel
theorem dX12_does_3 : decode cX12_does 3 = .ok (.iconst 0, 1) := by decide +kernel
theorem dX12_does_4 : decode cX12_does 4 = .ok (.invokevirtual 387, 3) := by decide +kernel
theorem dX12_does_7 : decode cX12_does 7 = .ok (.istore_n 3, 1) := by decide +kernel
theorem dX12_does_8 : decode cX12_does 8 = .ok (.iload_n 3, 1) := by decide +kernel
theorem dX12_does_9 : decode cX12_does 9 = .ok (.ifCond .ne 11, 3) := by decide +kernel
theorem dX12_does_12 : decode cX12_does 12 = .ok (.aload_n 0, 1) := by decide +kernel
theorem dX12_does_13 : decode cX12_does 13 = .ok (.iload_n 1, 1) := by decide +kernel
theorem dX12_does_14 : decode cX12_does 14 = .ok (.sipush 364, 3) := by decide +kernel
theorem dX12_does_17 : decode cX12_does 17 = .ok (.invokevirtual 391, 3) := by decide +kernel
theorem dX12_does_20 : decode cX12_does 20 = .ok (.iload_n 3, 1) := by decide +kernel
theorem dX12_does_21 : decode cX12_does 21 = .ok (.ifCond .ge 7, 3) := by decide +kernel
theorem dX12_does_24 : decode cX12_does 24 = .ok (.iload_n 3, 1) := by decide +kernel
theorem dX12_does_25 : decode cX12_does 25 = .ok (.goto 8, 3) := by decide +kernel
theorem dX12_does_28 : decode cX12_does 28 = .ok (.aload_n 0, 1) := by decide +kernel
theorem dX12_does_29 : decode cX12_does 29 = .ok (.iconst 1, 1) := by decide +kernel
theorem dX12_does_30 : decode cX12_does 30 = .ok (.invokevirtual 180, 3) := by decide +kernel
theorem dX12_does_33 : decode cX12_does 33 = .ok (.ireturn, 1) := by decide +kernel
theorem dX12_undoes_0 : decode cX12_undoes 0 = .ok (.aload_n 0, 1) := by decide +kernel
theorem dX12_undoes_1 : decode cX12_undoes 1 = .ok (.iload_n 1, 1) := by decide +kernel
theorem dX12_undoes_2 : decode cX12_undoes 2 = .ok (.iload_n 2, 1) := by decide +kernel
theorem dX12_undoes_3 : decode cX12_undoes 3 = .ok (.iconst 1, 1) := by decide +kernel
theorem dX12_undoes_4 : decode cX12_undoes 4 = .ok (.invokevirtual 387, 3) := by decide +kernel
theorem dX12_undoes_7 : decode cX12_undoes 7 = .ok (.istore_n 3, 1) := by decide +kernel
theorem dX12_undoes_8 : decode cX12_undoes 8 = .ok (.iload_n 3, 1) := by decide +kernel
theorem dX12_undoes_9 : decode cX12_undoes 9 = .ok (.ifCond .ne 11, 3) := by decide +kernel
theorem dX12_undoes_12 : decode cX12_undoes 12 = .ok (.aload_n 0, 1) := by decide +kernel
theorem dX12_undoes_13 : decode cX12_undoes 13 = .ok (.iload_n 1, 1) := by decide +kernel
theorem dX12_undoes_14 : decode cX12_undoes 14 = .ok (.sipush 364, 3) := by decide +kernel
theorem dX12_undoes_17 : decode cX12_undoes 17 = .ok (.invokevirtual 391, 3) := by decide +kernel
theorem dX12_undoes_20 : decode cX12_undoes 20 = .ok (.iload_n 3, 1) := by decide +kernel
theorem dX12_undoes_21 : decode cX12_undoes 21 = .ok (.ifCond .ge 7, 3) := by decide +kernel
theorem dX12_undoes_24 : decode cX12_undoes 24 = .ok (.iload_n 3, 1) := by decide +kernel
theorem dX12_undoes_25 : decode cX12_undoes 25 = .ok (.goto 8, 3) := by decide +kernel
theorem dX12_undoes_28 : decode cX12_undoes 28 = .ok (.aload_n 0, 1) := by decide +kernel
theorem dX12_undoes_29 : decode cX12_undoes 29 = .ok (.iconst 1, 1) := by decide +kernel
theorem dX12_undoes_30 : decode cX12_undoes 30 = .ok (.invokevirtual 180, 3) := by decide +kernel
theorem dX12_undoes_33 : decode cX12_undoes 33 = .ok (.ireturn, 1) := by decide +kernel
theorem dX12_allTurned_0 : decode cX12_allTurned 0 = .ok (.aload_n 0, 1) := by decide +kernel
theorem dX12_allTurned_1 : decode cX12_allTurned 1 = .ok (.iload_n 1, 1) := by decide +kernel
theorem dX12_allTurned_2 : decode cX12_allTurned 2 = .ok (.invokevirtual 237, 3) := by decide +kernel
theorem dX12_allTurned_5 : decode cX12_allTurned 5 = .ok (.istore_n 3, 1) := by decide +kernel
theorem dX12_allTurned_6 : decode cX12_allTurned 6 = .ok (.iload_n 3, 1) := by decide +kernel
theorem dX12_allTurned_7 : decode cX12_allTurned 7 = .ok (.ifCond .ge 5, 3) := by decide +kernel
theorem dX12_allTurned_10 : decode cX12_allTurned 10 = .ok (.iload_n 3, 1) := by decide +kernel
theorem dX12_allTurned_11 : decode cX12_allTurned 11 = .ok (.ireturn, 1) := by decide +kernel
theorem dX12_allTurned_12 : decode cX12_allTurned 12 = .ok (.aload_n 0, 1) := by decide +kernel
theorem dX12_allTurned_13 : decode cX12_allTurned 13 = .ok (.iload_n 1, 1) := by decide +kernel
theorem dX12_allTurned_14 : decode cX12_allTurned 14 = .ok (.sipush 364, 3) := by decide +kernel
theorem dX12_allTurned_17 : decode cX12_allTurned 17 = .ok (.invokevirtual 176, 3) := by decide +kernel
theorem dX12_allTurned_20 : decode cX12_allTurned 20 = .ok (.iconst 0, 1) := by decide +kernel
theorem dX12_allTurned_21 : decode cX12_allTurned 21 = .ok (.istore 4, 2) := by decide +kernel
theorem dX12_allTurned_23 : decode cX12_allTurned 23 = .ok (.iload 4, 2) := by decide +kernel
theorem dX12_allTurned_25 : decode cX12_allTurned 25 = .ok (.aload_n 0, 1) := by decide +kernel
theorem dX12_allTurned_26 : decode cX12_allTurned 26 = .ok (.getfield 13, 3) := by decide +kernel
theorem dX12_allTurned_29 : decode cX12_allTurned 29 = .ok (.iload_n 1, 1) := by decide +kernel
theorem dX12_allTurned_30 : decode cX12_allTurned 30 = .ok (.iaload, 1) := by decide +kernel
theorem dX12_allTurned_31 : decode cX12_allTurned 31 = .ok (.if_icmp .ge 37, 3) := by decide +kernel
theorem dX12_allTurned_34 : decode cX12_allTurned 34 = .ok (.iload_n 2, 1) := by decide +kernel
theorem dX12_allTurned_35 : decode cX12_allTurned 35 = .ok (.ifCond .eq 18, 3) := by decide +kernel
theorem dX12_allTurned_38 : decode cX12_allTurned 38 = .ok (.aload_n 0, 1) := by decide +kernel
theorem dX12_allTurned_39 : decode cX12_allTurned 39 = .ok (.sipush 364, 3) := by decide +kernel
theorem dX12_allTurned_42 : decode cX12_allTurned 42 = .ok (.iload 4, 2) := by decide +kernel
theorem dX12_allTurned_44 : decode cX12_allTurned 44 = .ok (.iconst 1, 1) := by decide +kernel
theorem dX12_allTurned_45 : decode cX12_allTurned 45 = .ok (.invokevirtual 356, 3) := by decide +kernel
theorem dX12_allTurned_48 : decode cX12_allTurned 48 = .ok (.istore 5, 2) := by decide +kernel
theorem dX12_allTurned_50 : decode cX12_allTurned 50 = .ok (.goto 12, 3) := by decide +kernel
theorem dX12_allTurned_53 : decode cX12_allTurned 53 = .ok (.aload_n 0, 1) := by decide +kernel
theorem dX12_allTurned_54 : decode cX12_allTurned 54 = .ok (.sipush 364, 3) := by decide +kernel
theorem dX12_allTurned_57 : decode cX12_allTurned 57 = .ok (.iload 4, 2) := by decide +kernel
theorem dX12_allTurned_59 : decode cX12_allTurned 59 = .ok (.invokevirtual 338, 3) := by decide +kernel
theorem dX12_allTurned_62 : decode cX12_allTurned 62 = .ok (.iinc 4 1, 3) := by decide +kernel
theorem dX12_allTurned_65 : decode cX12_allTurned 65 = .ok (.goto (-42), 3) := by decide +kernel
theorem dX12_allTurned_68 : decode cX12_allTurned 68 = .ok (.aload_n 0, 1) := by decide +kernel
theorem dX12_allTurned_69 : decode cX12_allTurned 69 = .ok (.iload_n 1, 1) := by decide +kernel
theorem dX12_allTurned_70 : decode cX12_allTurned 70 = .ok (.sipush 364, 3) := by decide +kernel
theorem dX12_allTurned_73 : decode cX12_allTurned 73 = .ok (.invokevirtual 391, 3) := by decide +kernel
theorem dX12_allTurned_76 : decode cX12_allTurned 76 = .ok (.aload_n 0, 1) := by decide +kernel
theorem dX12_allTurned_77 : decode cX12_allTurned 77 = .ok (.iconst 1, 1) := by decide +kernel
theorem dX12_allTurned_78 : decode cX12_allTurned 78 = .ok (.invokevirtual 180, 3) := by decide +kernel
theorem dX12_allTurned_81 : decode cX12_allTurned 81 = .ok (.ireturn, 1) := by decide +kernel
theorem dX12_mirror_0 : decode cX12_mirror 0 = .ok (.aload_n 0, 1) := by decide +kernel
theorem dX12_mirror_1 : decode cX12_mirror 1 = .ok (.iload_n 1, 1) := by decide +kernel
theorem dX12_mirror_2 : decode cX12_mirror 2 = .ok (.iconst 1, 1) := by decide +kernel
theorem dX12_mirror_3 : decode cX12_mirror 3 = .ok (.invokevirtual 394, 3) := by decide +kernel
theorem dX12_mirror_6 : decode cX12_mirror 6 = .ok (.ireturn, 1) := by decide +kernel
theorem dX12_turn_0 : decode cX12_turn 0 = .ok (.aload_n 0, 1) := by decide +kernel
theorem dX12_turn_1 : decode cX12_turn 1 = .ok (.iload_n 1, 1) := by decide +kernel
theorem dX12_turn_2 : decode cX12_turn 2 = .ok (.iconst 0, 1) := by decide +kernel
theorem dX12_turn_3 : decode cX12_turn 3 = .ok (.invokevirtual 394, 3) := by decide +kernel
theorem dX12_turn_6 : decode cX12_turn 6 = .ok (.ireturn, 1) := by decide +kernel
theorem dX12_undo_0 : decode cX12_undo 0 = .ok (.aload_n 0, 1) := by decide +kernel
theorem dX12_undo_1 : decode cX12_undo 1 = .ok (.iload_n 1, 1) := by decide +kernel
theorem dX12_undo_2 : decode cX12_undo 2 = .ok (.invokevirtual 187, 3) := by decide +kernel
theorem dX12_undo_5 : decode cX12_undo 5 = .ok (.ifCond .ne 10, 3) := by decide +kernel
theorem dX12_undo_8 : decode cX12_undo 8 = .ok (.aload_n 0, 1) := by decide +kernel
theorem dX12_undo_9 : decode cX12_undo 9 = .ok (.bipush (-2), 2) := by decide +kernel
theorem dX12_undo_11 : decode cX12_undo 11 = .ok (.invokevirtual 165, 3) := by decide +kernel
theorem dX12_undo_14 : decode cX12_undo 14 = .ok (.ireturn, 1) := by decide +kernel
theorem dX12_undo_15 : decode cX12_undo 15 = .ok (.aload_n 0, 1) := by decide +kernel
theorem dX12_undo_16 : decode cX12_undo 16 = .ok (.getfield 26, 3) := by decide +kernel
theorem dX12_undo_19 : decode cX12_undo 19 = .ok (.iload_n 1, 1) := by decide +kernel
theorem dX12_undo_20 : decode cX12_undo 20 = .ok (.iaload, 1) := by decide +kernel
theorem dX12_undo_21 : decode cX12_undo 21 = .ok (.ifCond .ne 9, 3) := by decide +kernel
theorem dX12_undo_24 : decode cX12_undo 24 = .ok (.aload_n 0, 1) := by decide +kernel
theorem dX12_undo_25 : decode cX12_undo 25 = .ok (.iconst 5, 1) := by decide +kernel
theorem dX12_undo_26 : decode cX12_undo 26 = .ok (.invokevirtual 200, 3) := by decide +kernel
theorem dX12_undo_29 : decode cX12_undo 29 = .ok (.ireturn, 1) := by decide +kernel
theorem dX12_undo_30 : decode cX12_undo 30 = .ok (.aload_n 0, 1) := by decide +kernel
theorem dX12_undo_31 : decode cX12_undo 31 = .ok (.getfield 26, 3) := by decide +kernel
theorem dX12_undo_34 : decode cX12_undo 34 = .ok (.iload_n 1, 1) := by decide +kernel
theorem dX12_undo_35 : decode cX12_undo 35 = .ok (.dup2, 1) := by decide +kernel
theorem dX12_undo_36 : decode cX12_undo 36 = .ok (.iaload, 1) := by decide +kernel
theorem dX12_undo_37 : decode cX12_undo 37 = .ok (.iconst 1, 1) := by decide +kernel
theorem dX12_undo_38 : decode cX12_undo 38 = .ok (.isub, 1) := by decide +kernel
theorem dX12_undo_39 : decode cX12_undo 39 = .ok (.iastore, 1) := by decide +kernel
theorem dX12_undo_40 : decode cX12_undo 40 = .ok (.aload_n 0, 1) := by decide +kernel
theorem dX12_undo_41 : decode cX12_undo 41 = .ok (.bipush 24, 2) := by decide +kernel
theorem dX12_undo_43 : decode cX12_undo 43 = .ok (.bipush 10, 2) := by decide +kernel
theorem dX12_undo_45 : decode cX12_undo 45 = .ok (.iload_n 1, 1) := by decide +kernel
theorem dX12_undo_46 : decode cX12_undo 46 = .ok (.imul, 1) := by decide +kernel
theorem dX12_undo_47 : decode cX12_undo 47 = .ok (.iadd, 1) := by decide +kernel
theorem dX12_undo_48 : decode cX12_undo 48 = .ok (.aload_n 0, 1) := by decide +kernel
theorem dX12_undo_49 : decode cX12_undo 49 = .ok (.getfield 26, 3) := by decide +kernel
theorem dX12_undo_52 : decode cX12_undo 52 = .ok (.iload_n 1, 1) := by decide +kernel
theorem dX12_undo_53 : decode cX12_undo 53 = .ok (.iaload, 1) := by decide +kernel
theorem dX12_undo_54 : decode cX12_undo 54 = .ok (.iadd, 1) := by decide +kernel
theorem dX12_undo_55 : decode cX12_undo 55 = .ok (.iload_n 1, 1) := by decide +kernel
theorem dX12_undo_56 : decode cX12_undo 56 = .ok (.invokevirtual 176, 3) := by decide +kernel
theorem dX12_undo_59 : decode cX12_undo 59 = .ok (.aload_n 0, 1) := by decide +kernel
theorem dX12_undo_60 : decode cX12_undo 60 = .ok (.aload_n 0, 1) := by decide +kernel
theorem dX12_undo_61 : decode cX12_undo 61 = .ok (.getfield 26, 3) := by decide +kernel
theorem dX12_undo_64 : decode cX12_undo 64 = .ok (.iload_n 1, 1) := by decide +kernel
theorem dX12_undo_65 : decode cX12_undo 65 = .ok (.iaload, 1) := by decide +kernel
theorem dX12_undo_66 : decode cX12_undo 66 = .ok (.invokevirtual 180, 3) := by decide +kernel
theorem dX12_undo_69 : decode cX12_undo 69 = .ok (.ireturn, 1) := by decide +kernel
theorem dX12_twin_0 : decode cX12_twin 0 = .ok (.aload_n 0, 1) := by decide +kernel
theorem dX12_twin_1 : decode cX12_twin 1 = .ok (.iload_n 1, 1) := by decide +kernel
theorem dX12_twin_2 : decode cX12_twin 2 = .ok (.invokevirtual 187, 3) := by decide +kernel
theorem dX12_twin_5 : decode cX12_twin 5 = .ok (.ifCond .ne 12, 3) := by decide +kernel
theorem dX12_twin_8 : decode cX12_twin 8 = .ok (.aload_n 0, 1) := by decide +kernel
theorem dX12_twin_9 : decode cX12_twin 9 = .ok (.bipush (-2), 2) := by decide +kernel
theorem dX12_twin_11 : decode cX12_twin 11 = .ok (.invokevirtual 165, 3) := by decide +kernel
theorem dX12_twin_14 : decode cX12_twin 14 = .ok (.goto 26, 3) := by decide +kernel
theorem dX12_twin_17 : decode cX12_twin 17 = .ok (.aload_n 0, 1) := by decide +kernel
theorem dX12_twin_18 : decode cX12_twin 18 = .ok (.getfield 169, 3) := by decide +kernel
theorem dX12_twin_21 : decode cX12_twin 21 = .ok (.bipush 24, 2) := by decide +kernel
theorem dX12_twin_23 : decode cX12_twin 23 = .ok (.if_icmp .ne 12, 3) := by decide +kernel
theorem dX12_twin_26 : decode cX12_twin 26 = .ok (.aload_n 0, 1) := by decide +kernel
theorem dX12_twin_27 : decode cX12_twin 27 = .ok (.bipush (-3), 2) := by decide +kernel
theorem dX12_twin_29 : decode cX12_twin 29 = .ok (.invokevirtual 165, 3) := by decide +kernel
theorem dX12_twin_32 : decode cX12_twin 32 = .ok (.goto 8, 3) := by decide +kernel
theorem dX12_twin_35 : decode cX12_twin 35 = .ok (.aload_n 0, 1) := by decide +kernel
theorem dX12_twin_36 : decode cX12_twin 36 = .ok (.iload_n 1, 1) := by decide +kernel
theorem dX12_twin_37 : decode cX12_twin 37 = .ok (.invokevirtual 297, 3) := by decide +kernel
theorem dX12_twin_40 : decode cX12_twin 40 = .ok (.ireturn, 1) := by decide +kernel
theorem dX12_join_0 : decode cX12_join 0 = .ok (.aload_n 0, 1) := by decide +kernel
theorem dX12_join_1 : decode cX12_join 1 = .ok (.iload_n 1, 1) := by decide +kernel
theorem dX12_join_2 : decode cX12_join 2 = .ok (.invokevirtual 187, 3) := by decide +kernel
theorem dX12_join_5 : decode cX12_join 5 = .ok (.ifCond .eq 11, 3) := by decide +kernel
theorem dX12_join_8 : decode cX12_join 8 = .ok (.aload_n 0, 1) := by decide +kernel
theorem dX12_join_9 : decode cX12_join 9 = .ok (.iload_n 3, 1) := by decide +kernel
theorem dX12_join_10 : decode cX12_join 10 = .ok (.invokevirtual 187, 3) := by decide +kernel
theorem dX12_join_13 : decode cX12_join 13 = .ok (.ifCond .ne 10, 3) := by decide +kernel
theorem dX12_join_16 : decode cX12_join 16 = .ok (.aload_n 0, 1) := by decide +kernel
theorem dX12_join_17 : decode cX12_join 17 = .ok (.bipush (-2), 2) := by decide +kernel
theorem dX12_join_19 : decode cX12_join 19 = .ok (.invokevirtual 165, 3) := by decide +kernel
theorem dX12_join_22 : decode cX12_join 22 = .ok (.ireturn, 1) := by decide +kernel
theorem dX12_join_23 : decode cX12_join 23 = .ok (.aload_n 0, 1) := by decide +kernel
theorem dX12_join_24 : decode cX12_join 24 = .ok (.getfield 169, 3) := by decide +kernel
theorem dX12_join_27 : decode cX12_join 27 = .ok (.bipush 24, 2) := by decide +kernel
theorem dX12_join_29 : decode cX12_join 29 = .ok (.if_icmp .ne 10, 3) := by decide +kernel
theorem dX12_join_32 : decode cX12_join 32 = .ok (.aload_n 0, 1) := by decide +kernel
theorem dX12_join_33 : decode cX12_join 33 = .ok (.bipush (-3), 2) := by decide +kernel
theorem dX12_join_35 : decode cX12_join 35 = .ok (.invokevirtual 165, 3) := by decide +kernel
theorem dX12_join_38 : decode cX12_join 38 = .ok (.ireturn, 1) := by decide +kernel
theorem dX12_join_39 : decode cX12_join 39 = .ok (.aload_n 0, 1) := by decide +kernel
theorem dX12_join_40 : decode cX12_join 40 = .ok (.iload_n 1, 1) := by decide +kernel
theorem dX12_join_41 : decode cX12_join 41 = .ok (.invokevirtual 226, 3) := by decide +kernel
theorem dX12_join_44 : decode cX12_join 44 = .ok (.ifCond .gt 11, 3) := by decide +kernel
theorem dX12_join_47 : decode cX12_join 47 = .ok (.aload_n 0, 1) := by decide +kernel
theorem dX12_join_48 : decode cX12_join 48 = .ok (.iload_n 3, 1) := by decide +kernel
theorem dX12_join_49 : decode cX12_join 49 = .ok (.invokevirtual 226, 3) := by decide +kernel
theorem dX12_join_52 : decode cX12_join 52 = .ok (.ifCond .le 9, 3) := by decide +kernel
theorem dX12_join_55 : decode cX12_join 55 = .ok (.aload_n 0, 1) := by decide +kernel
theorem dX12_join_56 : decode cX12_join 56 = .ok (.iconst 3, 1) := by decide +kernel
theorem dX12_join_57 : decode cX12_join 57 = .ok (.invokevirtual 200, 3) := by decide +kernel
theorem dX12_join_60 : decode cX12_join 60 = .ok (.ireturn, 1) := by decide +kernel
theorem dX12_join_61 : decode cX12_join 61 = .ok (.aload_n 0, 1) := by decide +kernel
theorem dX12_join_62 : decode cX12_join 62 = .ok (.iload_n 1, 1) := by decide +kernel
theorem dX12_join_63 : decode cX12_join 63 = .ok (.iload_n 2, 1) := by decide +kernel
theorem dX12_join_64 : decode cX12_join 64 = .ok (.invokevirtual 301, 3) := by decide +kernel
theorem dX12_join_67 : decode cX12_join 67 = .ok (.ifCond .eq 13, 3) := by decide +kernel
theorem dX12_join_70 : decode cX12_join 70 = .ok (.aload_n 0, 1) := by decide +kernel
theorem dX12_join_71 : decode cX12_join 71 = .ok (.iload_n 3, 1) := by decide +kernel
theorem dX12_join_72 : decode cX12_join 72 = .ok (.iload 4, 2) := by decide +kernel
theorem dX12_join_74 : decode cX12_join 74 = .ok (.invokevirtual 301, 3) := by decide +kernel
theorem dX12_join_77 : decode cX12_join 77 = .ok (.ifCond .ne 9, 3) := by decide +kernel
theorem dX12_join_80 : decode cX12_join 80 = .ok (.aload_n 0, 1) := by decide +kernel
theorem dX12_join_81 : decode cX12_join 81 = .ok (.iconst 5, 1) := by decide +kernel
theorem dX12_join_82 : decode cX12_join 82 = .ok (.invokevirtual 200, 3) := by decide +kernel
theorem dX12_join_85 : decode cX12_join 85 = .ok (.ireturn, 1) := by decide +kernel
theorem dX12_join_86 : decode cX12_join 86 = .ok (.aload_n 0, 1) := by decide +kernel
theorem dX12_join_87 : decode cX12_join 87 = .ok (.getfield 13, 3) := by decide +kernel
theorem dX12_join_90 : decode cX12_join 90 = .ok (.iload_n 1, 1) := by decide +kernel
theorem dX12_join_91 : decode cX12_join 91 = .ok (.iaload, 1) := by decide +kernel
theorem dX12_join_92 : decode cX12_join 92 = .ok (.aload_n 0, 1) := by decide +kernel
theorem dX12_join_93 : decode cX12_join 93 = .ok (.getfield 13, 3) := by decide +kernel
theorem dX12_join_96 : decode cX12_join 96 = .ok (.iload_n 3, 1) := by decide +kernel
theorem dX12_join_97 : decode cX12_join 97 = .ok (.iaload, 1) := by decide +kernel
theorem dX12_join_98 : decode cX12_join 98 = .ok (.iadd, 1) := by decide +kernel
theorem dX12_join_99 : decode cX12_join 99 = .ok (.bipush 40, 2) := by decide +kernel
theorem dX12_join_101 : decode cX12_join 101 = .ok (.if_icmp .gt 21, 3) := by decide +kernel
theorem dX12_join_104 : decode cX12_join 104 = .ok (.aload_n 0, 1) := by decide +kernel
theorem dX12_join_105 : decode cX12_join 105 = .ok (.getfield 16, 3) := by decide +kernel
theorem dX12_join_108 : decode cX12_join 108 = .ok (.iload_n 1, 1) := by decide +kernel
theorem dX12_join_109 : decode cX12_join 109 = .ok (.iaload, 1) := by decide +kernel
theorem dX12_join_110 : decode cX12_join 110 = .ok (.aload_n 0, 1) := by decide +kernel
theorem dX12_join_111 : decode cX12_join 111 = .ok (.getfield 16, 3) := by decide +kernel
theorem dX12_join_114 : decode cX12_join 114 = .ok (.iload_n 3, 1) := by decide +kernel
theorem dX12_join_115 : decode cX12_join 115 = .ok (.iaload, 1) := by decide +kernel
theorem dX12_join_116 : decode cX12_join 116 = .ok (.iadd, 1) := by decide +kernel
theorem dX12_join_117 : decode cX12_join 117 = .ok (.bipush 9, 2) := by decide +kernel
theorem dX12_join_119 : decode cX12_join 119 = .ok (.if_icmp .le 10, 3) := by decide +kernel
theorem dX12_join_122 : decode cX12_join 122 = .ok (.aload_n 0, 1) := by decide +kernel
theorem dX12_join_123 : decode cX12_join 123 = .ok (.bipush 8, 2) := by decide +kernel
theorem dX12_join_125 : decode cX12_join 125 = .ok (.invokevirtual 200, 3) := by decide +kernel
theorem dX12_join_128 : decode cX12_join 128 = .ok (.ireturn, 1) := by decide +kernel
theorem dX12_join_129 : decode cX12_join 129 = .ok (.aload_n 0, 1) := by decide +kernel
theorem dX12_join_130 : decode cX12_join 130 = .ok (.iload_n 1, 1) := by decide +kernel
theorem dX12_join_131 : decode cX12_join 131 = .ok (.sipush 364, 3) := by decide +kernel
theorem dX12_join_134 : decode cX12_join 134 = .ok (.invokevirtual 176, 3) := by decide +kernel
theorem dX12_join_137 : decode cX12_join 137 = .ok (.aload_n 0, 1) := by decide +kernel
theorem dX12_join_138 : decode cX12_join 138 = .ok (.getfield 16, 3) := by decide +kernel
theorem dX12_join_141 : decode cX12_join 141 = .ok (.sipush 364, 3) := by decide +kernel
theorem dX12_join_144 : decode cX12_join 144 = .ok (.dup2, 1) := by decide +kernel
theorem dX12_join_145 : decode cX12_join 145 = .ok (.iaload, 1) := by decide +kernel
theorem dX12_join_146 : decode cX12_join 146 = .ok (.aload_n 0, 1) := by decide +kernel
theorem dX12_join_147 : decode cX12_join 147 = .ok (.getfield 16, 3) := by decide +kernel
theorem dX12_join_150 : decode cX12_join 150 = .ok (.iload_n 3, 1) := by decide +kernel
theorem dX12_join_151 : decode cX12_join 151 = .ok (.iaload, 1) := by decide +kernel
theorem dX12_join_152 : decode cX12_join 152 = .ok (.iadd, 1) := by decide +kernel
theorem dX12_join_153 : decode cX12_join 153 = .ok (.iastore, 1) := by decide +kernel
theorem dX12_join_154 : decode cX12_join 154 = .ok (.iconst 0, 1) := by decide +kernel
theorem dX12_join_155 : decode cX12_join 155 = .ok (.istore 5, 2) := by decide +kernel
theorem dX12_join_157 : decode cX12_join 157 = .ok (.iload 5, 2) := by decide +kernel
theorem dX12_join_159 : decode cX12_join 159 = .ok (.bipush 100, 2) := by decide +kernel
theorem dX12_join_161 : decode cX12_join 161 = .ok (.if_icmp .ge 17, 3) := by decide +kernel
theorem dX12_join_164 : decode cX12_join 164 = .ok (.aload_n 0, 1) := by decide +kernel
theorem dX12_join_165 : decode cX12_join 165 = .ok (.getfield 46, 3) := by decide +kernel
theorem dX12_join_168 : decode cX12_join 168 = .ok (.iload 5, 2) := by decide +kernel
theorem dX12_join_170 : decode cX12_join 170 = .ok (.iconst (-1), 1) := by decide +kernel
theorem dX12_join_171 : decode cX12_join 171 = .ok (.iastore, 1) := by decide +kernel
theorem dX12_join_172 : decode cX12_join 172 = .ok (.iinc 5 1, 3) := by decide +kernel
theorem dX12_join_175 : decode cX12_join 175 = .ok (.goto (-18), 3) := by decide +kernel
theorem dX12_join_178 : decode cX12_join 178 = .ok (.iconst 0, 1) := by decide +kernel
theorem dX12_join_179 : decode cX12_join 179 = .ok (.istore 5, 2) := by decide +kernel
theorem dX12_join_181 : decode cX12_join 181 = .ok (.iload 5, 2) := by decide +kernel
theorem dX12_join_183 : decode cX12_join 183 = .ok (.aload_n 0, 1) := by decide +kernel
theorem dX12_join_184 : decode cX12_join 184 = .ok (.getfield 13, 3) := by decide +kernel
theorem dX12_join_187 : decode cX12_join 187 = .ok (.iload_n 3, 1) := by decide +kernel
theorem dX12_join_188 : decode cX12_join 188 = .ok (.iaload, 1) := by decide +kernel
theorem dX12_join_189 : decode cX12_join 189 = .ok (.if_icmp .ge 121, 3) := by decide +kernel
theorem dX12_join_192 : decode cX12_join 192 = .ok (.iconst 0, 1) := by decide +kernel
theorem dX12_join_193 : decode cX12_join 193 = .ok (.istore 6, 2) := by decide +kernel
theorem dX12_join_195 : decode cX12_join 195 = .ok (.iload 6, 2) := by decide +kernel
theorem dX12_join_197 : decode cX12_join 197 = .ok (.iconst 4, 1) := by decide +kernel
theorem dX12_join_198 : decode cX12_join 198 = .ok (.if_icmp .ge 75, 3) := by decide +kernel
theorem dX12_join_201 : decode cX12_join 201 = .ok (.aload_n 0, 1) := by decide +kernel
theorem dX12_join_202 : decode cX12_join 202 = .ok (.getfield 23, 3) := by decide +kernel
theorem dX12_join_205 : decode cX12_join 205 = .ok (.sipush 160, 3) := by decide +kernel
theorem dX12_join_208 : decode cX12_join 208 = .ok (.iload_n 3, 1) := by decide +kernel
theorem dX12_join_209 : decode cX12_join 209 = .ok (.imul, 1) := by decide +kernel
theorem dX12_join_210 : decode cX12_join 210 = .ok (.iconst 4, 1) := by decide +kernel
theorem dX12_join_211 : decode cX12_join 211 = .ok (.iload 5, 2) := by decide +kernel
theorem dX12_join_213 : decode cX12_join 213 = .ok (.imul, 1) := by decide +kernel
theorem dX12_join_214 : decode cX12_join 214 = .ok (.iadd, 1) := by decide +kernel
theorem dX12_join_215 : decode cX12_join 215 = .ok (.iload 6, 2) := by decide +kernel
theorem dX12_join_217 : decode cX12_join 217 = .ok (.iadd, 1) := by decide +kernel
theorem dX12_join_218 : decode cX12_join 218 = .ok (.iaload, 1) := by decide +kernel
theorem dX12_join_219 : decode cX12_join 219 = .ok (.istore 7, 2) := by decide +kernel
theorem dX12_join_221 : decode cX12_join 221 = .ok (.aload_n 0, 1) := by decide +kernel
theorem dX12_join_222 : decode cX12_join 222 = .ok (.getfield 46, 3) := by decide +kernel
theorem dX12_join_225 : decode cX12_join 225 = .ok (.iload 7, 2) := by decide +kernel
theorem dX12_join_227 : decode cX12_join 227 = .ok (.aload_n 0, 1) := by decide +kernel
theorem dX12_join_228 : decode cX12_join 228 = .ok (.getfield 46, 3) := by decide +kernel
theorem dX12_join_231 : decode cX12_join 231 = .ok (.iload 7, 2) := by decide +kernel
theorem dX12_join_233 : decode cX12_join 233 = .ok (.iaload, 1) := by decide +kernel
theorem dX12_join_234 : decode cX12_join 234 = .ok (.iconst (-1), 1) := by decide +kernel
theorem dX12_join_235 : decode cX12_join 235 = .ok (.if_icmp .ne 10, 3) := by decide +kernel
theorem dX12_join_238 : decode cX12_join 238 = .ok (.aload_n 0, 1) := by decide +kernel
theorem dX12_join_239 : decode cX12_join 239 = .ok (.invokevirtual 398, 3) := by decide +kernel
theorem dX12_join_242 : decode cX12_join 242 = .ok (.goto 10, 3) := by decide +kernel
theorem dX12_join_245 : decode cX12_join 245 = .ok (.aload_n 0, 1) := by decide +kernel
theorem dX12_join_246 : decode cX12_join 246 = .ok (.getfield 46, 3) := by decide +kernel
theorem dX12_join_249 : decode cX12_join 249 = .ok (.iload 7, 2) := by decide +kernel
theorem dX12_join_251 : decode cX12_join 251 = .ok (.iaload, 1) := by decide +kernel
theorem dX12_join_252 : decode cX12_join 252 = .ok (.iastore, 1) := by decide +kernel
theorem dX12_join_253 : decode cX12_join 253 = .ok (.aload_n 0, 1) := by decide +kernel
theorem dX12_join_254 : decode cX12_join 254 = .ok (.getfield 29, 3) := by decide +kernel
theorem dX12_join_257 : decode cX12_join 257 = .ok (.iload 6, 2) := by decide +kernel
theorem dX12_join_259 : decode cX12_join 259 = .ok (.aload_n 0, 1) := by decide +kernel
theorem dX12_join_260 : decode cX12_join 260 = .ok (.getfield 46, 3) := by decide +kernel
theorem dX12_join_263 : decode cX12_join 263 = .ok (.iload 7, 2) := by decide +kernel
theorem dX12_join_265 : decode cX12_join 265 = .ok (.iaload, 1) := by decide +kernel
theorem dX12_join_266 : decode cX12_join 266 = .ok (.iastore, 1) := by decide +kernel
theorem dX12_join_267 : decode cX12_join 267 = .ok (.iinc 6 1, 3) := by decide +kernel
theorem dX12_join_270 : decode cX12_join 270 = .ok (.goto (-75), 3) := by decide +kernel
theorem dX12_join_273 : decode cX12_join 273 = .ok (.aload_n 0, 1) := by decide +kernel
theorem dX12_join_274 : decode cX12_join 274 = .ok (.sipush 364, 3) := by decide +kernel
theorem dX12_join_277 : decode cX12_join 277 = .ok (.aload_n 0, 1) := by decide +kernel
theorem dX12_join_278 : decode cX12_join 278 = .ok (.getfield 29, 3) := by decide +kernel
theorem dX12_join_281 : decode cX12_join 281 = .ok (.iconst 0, 1) := by decide +kernel
theorem dX12_join_282 : decode cX12_join 282 = .ok (.iaload, 1) := by decide +kernel
theorem dX12_join_283 : decode cX12_join 283 = .ok (.aload_n 0, 1) := by decide +kernel
theorem dX12_join_284 : decode cX12_join 284 = .ok (.getfield 29, 3) := by decide +kernel
theorem dX12_join_287 : decode cX12_join 287 = .ok (.iconst 1, 1) := by decide +kernel
theorem dX12_join_288 : decode cX12_join 288 = .ok (.iaload, 1) := by decide +kernel
theorem dX12_join_289 : decode cX12_join 289 = .ok (.aload_n 0, 1) := by decide +kernel
theorem dX12_join_290 : decode cX12_join 290 = .ok (.getfield 29, 3) := by decide +kernel
theorem dX12_join_293 : decode cX12_join 293 = .ok (.iconst 2, 1) := by decide +kernel
theorem dX12_join_294 : decode cX12_join 294 = .ok (.iaload, 1) := by decide +kernel
theorem dX12_join_295 : decode cX12_join 295 = .ok (.aload_n 0, 1) := by decide +kernel
theorem dX12_join_296 : decode cX12_join 296 = .ok (.getfield 29, 3) := by decide +kernel
theorem dX12_join_299 : decode cX12_join 299 = .ok (.iconst 3, 1) := by decide +kernel
theorem dX12_join_300 : decode cX12_join 300 = .ok (.iaload, 1) := by decide +kernel
theorem dX12_join_301 : decode cX12_join 301 = .ok (.invokevirtual 194, 3) := by decide +kernel
theorem dX12_join_304 : decode cX12_join 304 = .ok (.iinc 5 1, 3) := by decide +kernel
theorem dX12_join_307 : decode cX12_join 307 = .ok (.goto (-126), 3) := by decide +kernel
theorem dX12_join_310 : decode cX12_join 310 = .ok (.aload_n 0, 1) := by decide +kernel
theorem dX12_join_311 : decode cX12_join 311 = .ok (.sipush 364, 3) := by decide +kernel
theorem dX12_join_314 : decode cX12_join 314 = .ok (.invokevirtual 216, 3) := by decide +kernel
theorem dX12_join_317 : decode cX12_join 317 = .ok (.iconst 4, 1) := by decide +kernel
theorem dX12_join_318 : decode cX12_join 318 = .ok (.aload_n 0, 1) := by decide +kernel
theorem dX12_join_319 : decode cX12_join 319 = .ok (.getfield 13, 3) := by decide +kernel
theorem dX12_join_322 : decode cX12_join 322 = .ok (.iload_n 1, 1) := by decide +kernel
theorem dX12_join_323 : decode cX12_join 323 = .ok (.iaload, 1) := by decide +kernel
theorem dX12_join_324 : decode cX12_join 324 = .ok (.imul, 1) := by decide +kernel
theorem dX12_join_325 : decode cX12_join 325 = .ok (.iload 4, 2) := by decide +kernel
theorem dX12_join_327 : decode cX12_join 327 = .ok (.iadd, 1) := by decide +kernel
theorem dX12_join_328 : decode cX12_join 328 = .ok (.istore 5, 2) := by decide +kernel
theorem dX12_join_330 : decode cX12_join 330 = .ok (.aload_n 0, 1) := by decide +kernel
theorem dX12_join_331 : decode cX12_join 331 = .ok (.sipush 364, 3) := by decide +kernel
theorem dX12_join_334 : decode cX12_join 334 = .ok (.iconst (-1), 1) := by decide +kernel
theorem dX12_join_335 : decode cX12_join 335 = .ok (.invokevirtual 307, 3) := by decide +kernel
theorem dX12_join_338 : decode cX12_join 338 = .ok (.istore 6, 2) := by decide +kernel
theorem dX12_join_340 : decode cX12_join 340 = .ok (.aload_n 0, 1) := by decide +kernel
theorem dX12_join_341 : decode cX12_join 341 = .ok (.iload_n 2, 1) := by decide +kernel
theorem dX12_join_342 : decode cX12_join 342 = .ok (.invokevirtual 310, 3) := by decide +kernel
theorem dX12_join_345 : decode cX12_join 345 = .ok (.istore 7, 2) := by decide +kernel
theorem dX12_join_347 : decode cX12_join 347 = .ok (.aload_n 0, 1) := by decide +kernel
theorem dX12_join_348 : decode cX12_join 348 = .ok (.getfield 36, 3) := by decide +kernel
theorem dX12_join_351 : decode cX12_join 351 = .ok (.iload_n 2, 1) := by decide +kernel
theorem dX12_join_352 : decode cX12_join 352 = .ok (.iaload, 1) := by decide +kernel
theorem dX12_join_353 : decode cX12_join 353 = .ok (.istore 8, 2) := by decide +kernel
theorem dX12_join_355 : decode cX12_join 355 = .ok (.aload_n 0, 1) := by decide +kernel
theorem dX12_join_356 : decode cX12_join 356 = .ok (.getfield 36, 3) := by decide +kernel
theorem dX12_join_359 : decode cX12_join 359 = .ok (.iload 5, 2) := by decide +kernel
theorem dX12_join_361 : decode cX12_join 361 = .ok (.iaload, 1) := by decide +kernel
theorem dX12_join_362 : decode cX12_join 362 = .ok (.istore 9, 2) := by decide +kernel
theorem dX12_join_364 : decode cX12_join 364 = .ok (.aload_n 0, 1) := by decide +kernel
theorem dX12_join_365 : decode cX12_join 365 = .ok (.getfield 23, 3) := by decide +kernel
theorem dX12_join_368 : decode cX12_join 368 = .ok (.ldc_w 300, 3) := by decide +kernel
theorem dX12_join_371 : decode cX12_join 371 = .ok (.iload 5, 2) := by decide +kernel
theorem dX12_join_373 : decode cX12_join 373 = .ok (.iadd, 1) := by decide +kernel
theorem dX12_join_374 : decode cX12_join 374 = .ok (.iload 7, 2) := by decide +kernel
theorem dX12_join_376 : decode cX12_join 376 = .ok (.iastore, 1) := by decide +kernel
theorem dX12_join_377 : decode cX12_join 377 = .ok (.aload_n 0, 1) := by decide +kernel
theorem dX12_join_378 : decode cX12_join 378 = .ok (.getfield 23, 3) := by decide +kernel
theorem dX12_join_381 : decode cX12_join 381 = .ok (.ldc_w 300, 3) := by decide +kernel
theorem dX12_join_384 : decode cX12_join 384 = .ok (.iload 8, 2) := by decide +kernel
theorem dX12_join_386 : decode cX12_join 386 = .ok (.iadd, 1) := by decide +kernel
theorem dX12_join_387 : decode cX12_join 387 = .ok (.iload 6, 2) := by decide +kernel
theorem dX12_join_389 : decode cX12_join 389 = .ok (.iastore, 1) := by decide +kernel
theorem dX12_join_390 : decode cX12_join 390 = .ok (.aload_n 0, 1) := by decide +kernel
theorem dX12_join_391 : decode cX12_join 391 = .ok (.getfield 23, 3) := by decide +kernel
theorem dX12_join_394 : decode cX12_join 394 = .ok (.ldc_w 300, 3) := by decide +kernel
theorem dX12_join_397 : decode cX12_join 397 = .ok (.iload 9, 2) := by decide +kernel
theorem dX12_join_399 : decode cX12_join 399 = .ok (.iadd, 1) := by decide +kernel
theorem dX12_join_400 : decode cX12_join 400 = .ok (.iload 6, 2) := by decide +kernel
theorem dX12_join_402 : decode cX12_join 402 = .ok (.iastore, 1) := by decide +kernel
theorem dX12_join_403 : decode cX12_join 403 = .ok (.aload_n 0, 1) := by decide +kernel
theorem dX12_join_404 : decode cX12_join 404 = .ok (.sipush 364, 3) := by decide +kernel
theorem dX12_join_407 : decode cX12_join 407 = .ok (.invokevirtual 297, 3) := by decide +kernel
theorem dX12_join_410 : decode cX12_join 410 = .ok (.ireturn, 1) := by decide +kernel
theorem dX12_fresh_0 : decode cX12_fresh 0 = .ok (.aload_n 0, 1) := by decide +kernel
theorem dX12_fresh_1 : decode cX12_fresh 1 = .ok (.sipush 364, 3) := by decide +kernel
theorem dX12_fresh_4 : decode cX12_fresh 4 = .ok (.iconst (-1), 1) := by decide +kernel
theorem dX12_fresh_5 : decode cX12_fresh 5 = .ok (.invokevirtual 307, 3) := by decide +kernel
theorem dX12_fresh_8 : decode cX12_fresh 8 = .ok (.istore_n 1, 1) := by decide +kernel
theorem dX12_fresh_9 : decode cX12_fresh 9 = .ok (.iconst 1, 1) := by decide +kernel
theorem dX12_fresh_10 : decode cX12_fresh 10 = .ok (.istore_n 2, 1) := by decide +kernel
theorem dX12_fresh_11 : decode cX12_fresh 11 = .ok (.iload_n 2, 1) := by decide +kernel
theorem dX12_fresh_12 : decode cX12_fresh 12 = .ok (.ifCond .eq 43, 3) := by decide +kernel
theorem dX12_fresh_15 : decode cX12_fresh 15 = .ok (.iconst 0, 1) := by decide +kernel
theorem dX12_fresh_16 : decode cX12_fresh 16 = .ok (.istore_n 2, 1) := by decide +kernel
theorem dX12_fresh_17 : decode cX12_fresh 17 = .ok (.iconst 0, 1) := by decide +kernel
theorem dX12_fresh_18 : decode cX12_fresh 18 = .ok (.istore_n 3, 1) := by decide +kernel
theorem dX12_fresh_19 : decode cX12_fresh 19 = .ok (.iload_n 3, 1) := by decide +kernel
theorem dX12_fresh_20 : decode cX12_fresh 20 = .ok (.bipush 100, 2) := by decide +kernel
theorem dX12_fresh_22 : decode cX12_fresh 22 = .ok (.if_icmp .ge 30, 3) := by decide +kernel
theorem dX12_fresh_25 : decode cX12_fresh 25 = .ok (.aload_n 0, 1) := by decide +kernel
theorem dX12_fresh_26 : decode cX12_fresh 26 = .ok (.getfield 46, 3) := by decide +kernel
theorem dX12_fresh_29 : decode cX12_fresh 29 = .ok (.iload_n 3, 1) := by decide +kernel
theorem dX12_fresh_30 : decode cX12_fresh 30 = .ok (.iaload, 1) := by decide +kernel
theorem dX12_fresh_31 : decode cX12_fresh 31 = .ok (.iload_n 1, 1) := by decide +kernel
theorem dX12_fresh_32 : decode cX12_fresh 32 = .ok (.if_icmp .ne 14, 3) := by decide +kernel
theorem dX12_fresh_35 : decode cX12_fresh 35 = .ok (.aload_n 0, 1) := by decide +kernel
theorem dX12_fresh_36 : decode cX12_fresh 36 = .ok (.sipush 364, 3) := by decide +kernel
theorem dX12_fresh_39 : decode cX12_fresh 39 = .ok (.iload_n 1, 1) := by decide +kernel
theorem dX12_fresh_40 : decode cX12_fresh 40 = .ok (.invokevirtual 307, 3) := by decide +kernel
theorem dX12_fresh_43 : decode cX12_fresh 43 = .ok (.istore_n 1, 1) := by decide +kernel
theorem dX12_fresh_44 : decode cX12_fresh 44 = .ok (.iconst 1, 1) := by decide +kernel
theorem dX12_fresh_45 : decode cX12_fresh 45 = .ok (.istore_n 2, 1) := by decide +kernel
theorem dX12_fresh_46 : decode cX12_fresh 46 = .ok (.iinc 3 1, 3) := by decide +kernel
theorem dX12_fresh_49 : decode cX12_fresh 49 = .ok (.goto (-30), 3) := by decide +kernel
theorem dX12_fresh_52 : decode cX12_fresh 52 = .ok (.goto (-41), 3) := by decide +kernel
theorem dX12_fresh_55 : decode cX12_fresh 55 = .ok (.iload_n 1, 1) := by decide +kernel
theorem dX12_fresh_56 : decode cX12_fresh 56 = .ok (.ireturn, 1) := by decide +kernel
theorem dX12_walk_0 : decode cX12_walk 0 = .ok (.iconst 0, 1) := by decide +kernel
theorem dX12_walk_1 : decode cX12_walk 1 = .ok (.istore 4, 2) := by decide +kernel
theorem dX12_walk_3 : decode cX12_walk 3 = .ok (.iload 4, 2) := by decide +kernel
theorem dX12_walk_5 : decode cX12_walk 5 = .ok (.aload_n 0, 1) := by decide +kernel
theorem dX12_walk_6 : decode cX12_walk 6 = .ok (.getfield 13, 3) := by decide +kernel
theorem dX12_walk_9 : decode cX12_walk 9 = .ok (.iload_n 1, 1) := by decide +kernel
theorem dX12_walk_10 : decode cX12_walk 10 = .ok (.iaload, 1) := by decide +kernel
theorem dX12_walk_11 : decode cX12_walk 11 = .ok (.if_icmp .ge 17, 3) := by decide +kernel
theorem dX12_walk_14 : decode cX12_walk 14 = .ok (.aload_n 0, 1) := by decide +kernel
theorem dX12_walk_15 : decode cX12_walk 15 = .ok (.getfield 110, 3) := by decide +kernel
theorem dX12_walk_18 : decode cX12_walk 18 = .ok (.iload 4, 2) := by decide +kernel
theorem dX12_walk_20 : decode cX12_walk 20 = .ok (.iconst (-1), 1) := by decide +kernel
theorem dX12_walk_21 : decode cX12_walk 21 = .ok (.iastore, 1) := by decide +kernel
theorem dX12_walk_22 : decode cX12_walk 22 = .ok (.iinc 4 1, 3) := by decide +kernel
theorem dX12_walk_25 : decode cX12_walk 25 = .ok (.goto (-22), 3) := by decide +kernel
theorem dX12_walk_28 : decode cX12_walk 28 = .ok (.aload_n 0, 1) := by decide +kernel
theorem dX12_walk_29 : decode cX12_walk 29 = .ok (.getfield 110, 3) := by decide +kernel
theorem dX12_walk_32 : decode cX12_walk 32 = .ok (.iload_n 2, 1) := by decide +kernel
theorem dX12_walk_33 : decode cX12_walk 33 = .ok (.iconst 0, 1) := by decide +kernel
theorem dX12_walk_34 : decode cX12_walk 34 = .ok (.iastore, 1) := by decide +kernel
theorem dX12_walk_35 : decode cX12_walk 35 = .ok (.aload_n 0, 1) := by decide +kernel
theorem dX12_walk_36 : decode cX12_walk 36 = .ok (.getfield 113, 3) := by decide +kernel
theorem dX12_walk_39 : decode cX12_walk 39 = .ok (.iload_n 2, 1) := by decide +kernel
theorem dX12_walk_40 : decode cX12_walk 40 = .ok (.iload_n 3, 1) := by decide +kernel
theorem dX12_walk_41 : decode cX12_walk 41 = .ok (.iastore, 1) := by decide +kernel
theorem dX12_walk_42 : decode cX12_walk 42 = .ok (.aload_n 0, 1) := by decide +kernel
theorem dX12_walk_43 : decode cX12_walk 43 = .ok (.getfield 116, 3) := by decide +kernel
theorem dX12_walk_46 : decode cX12_walk 46 = .ok (.iconst 0, 1) := by decide +kernel
theorem dX12_walk_47 : decode cX12_walk 47 = .ok (.iload_n 2, 1) := by decide +kernel
theorem dX12_walk_48 : decode cX12_walk 48 = .ok (.iastore, 1) := by decide +kernel
theorem dX12_walk_49 : decode cX12_walk 49 = .ok (.iconst 1, 1) := by decide +kernel
theorem dX12_walk_50 : decode cX12_walk 50 = .ok (.istore 4, 2) := by decide +kernel
theorem dX12_walk_52 : decode cX12_walk 52 = .ok (.iconst 0, 1) := by decide +kernel
theorem dX12_walk_53 : decode cX12_walk 53 = .ok (.istore 5, 2) := by decide +kernel
theorem dX12_walk_55 : decode cX12_walk 55 = .ok (.iload 5, 2) := by decide +kernel
theorem dX12_walk_57 : decode cX12_walk 57 = .ok (.iload 4, 2) := by decide +kernel
theorem dX12_walk_59 : decode cX12_walk 59 = .ok (.if_icmp .ge 140, 3) := by decide +kernel
theorem dX12_walk_62 : decode cX12_walk 62 = .ok (.aload_n 0, 1) := by decide +kernel
theorem dX12_walk_63 : decode cX12_walk 63 = .ok (.getfield 116, 3) := by decide +kernel
theorem dX12_walk_66 : decode cX12_walk 66 = .ok (.iload 5, 2) := by decide +kernel
theorem dX12_walk_68 : decode cX12_walk 68 = .ok (.iaload, 1) := by decide +kernel
theorem dX12_walk_69 : decode cX12_walk 69 = .ok (.istore 6, 2) := by decide +kernel
theorem dX12_walk_71 : decode cX12_walk 71 = .ok (.iconst 0, 1) := by decide +kernel
theorem dX12_walk_72 : decode cX12_walk 72 = .ok (.istore 7, 2) := by decide +kernel
theorem dX12_walk_74 : decode cX12_walk 74 = .ok (.iload 7, 2) := by decide +kernel
theorem dX12_walk_76 : decode cX12_walk 76 = .ok (.iconst 4, 1) := by decide +kernel
theorem dX12_walk_77 : decode cX12_walk 77 = .ok (.if_icmp .ge 116, 3) := by decide +kernel
theorem dX12_walk_80 : decode cX12_walk 80 = .ok (.aload_n 0, 1) := by decide +kernel
theorem dX12_walk_81 : decode cX12_walk 81 = .ok (.getfield 36, 3) := by decide +kernel
theorem dX12_walk_84 : decode cX12_walk 84 = .ok (.iconst 4, 1) := by decide +kernel
theorem dX12_walk_85 : decode cX12_walk 85 = .ok (.iload 6, 2) := by decide +kernel
theorem dX12_walk_87 : decode cX12_walk 87 = .ok (.imul, 1) := by decide +kernel
theorem dX12_walk_88 : decode cX12_walk 88 = .ok (.iload 7, 2) := by decide +kernel
theorem dX12_walk_90 : decode cX12_walk 90 = .ok (.aload_n 0, 1) := by decide +kernel
theorem dX12_walk_91 : decode cX12_walk 91 = .ok (.getfield 113, 3) := by decide +kernel
theorem dX12_walk_94 : decode cX12_walk 94 = .ok (.iload 6, 2) := by decide +kernel
theorem dX12_walk_96 : decode cX12_walk 96 = .ok (.iaload, 1) := by decide +kernel
theorem dX12_walk_97 : decode cX12_walk 97 = .ok (.iadd, 1) := by decide +kernel
theorem dX12_walk_98 : decode cX12_walk 98 = .ok (.iconst 3, 1) := by decide +kernel
theorem dX12_walk_99 : decode cX12_walk 99 = .ok (.iand, 1) := by decide +kernel
theorem dX12_walk_100 : decode cX12_walk 100 = .ok (.iadd, 1) := by decide +kernel
theorem dX12_walk_101 : decode cX12_walk 101 = .ok (.iaload, 1) := by decide +kernel
theorem dX12_walk_102 : decode cX12_walk 102 = .ok (.istore 8, 2) := by decide +kernel
theorem dX12_walk_104 : decode cX12_walk 104 = .ok (.iload 8, 2) := by decide +kernel
theorem dX12_walk_106 : decode cX12_walk 106 = .ok (.iconst 4, 1) := by decide +kernel
theorem dX12_walk_107 : decode cX12_walk 107 = .ok (.idiv, 1) := by decide +kernel
theorem dX12_walk_108 : decode cX12_walk 108 = .ok (.istore 9, 2) := by decide +kernel
theorem dX12_walk_110 : decode cX12_walk 110 = .ok (.aload_n 0, 1) := by decide +kernel
theorem dX12_walk_111 : decode cX12_walk 111 = .ok (.getfield 110, 3) := by decide +kernel
theorem dX12_walk_114 : decode cX12_walk 114 = .ok (.iload 9, 2) := by decide +kernel
theorem dX12_walk_116 : decode cX12_walk 116 = .ok (.iaload, 1) := by decide +kernel
theorem dX12_walk_117 : decode cX12_walk 117 = .ok (.iconst (-1), 1) := by decide +kernel
theorem dX12_walk_118 : decode cX12_walk 118 = .ok (.if_icmp .ne 35, 3) := by decide +kernel
theorem dX12_walk_121 : decode cX12_walk 121 = .ok (.aload_n 0, 1) := by decide +kernel
theorem dX12_walk_122 : decode cX12_walk 122 = .ok (.getfield 110, 3) := by decide +kernel
theorem dX12_walk_125 : decode cX12_walk 125 = .ok (.iload 9, 2) := by decide +kernel
theorem dX12_walk_127 : decode cX12_walk 127 = .ok (.iload 4, 2) := by decide +kernel
theorem dX12_walk_129 : decode cX12_walk 129 = .ok (.iastore, 1) := by decide +kernel
theorem dX12_walk_130 : decode cX12_walk 130 = .ok (.aload_n 0, 1) := by decide +kernel
theorem dX12_walk_131 : decode cX12_walk 131 = .ok (.getfield 113, 3) := by decide +kernel
theorem dX12_walk_134 : decode cX12_walk 134 = .ok (.iload 9, 2) := by decide +kernel
theorem dX12_walk_136 : decode cX12_walk 136 = .ok (.iload 8, 2) := by decide +kernel
theorem dX12_walk_138 : decode cX12_walk 138 = .ok (.iconst 2, 1) := by decide +kernel
theorem dX12_walk_139 : decode cX12_walk 139 = .ok (.iand, 1) := by decide +kernel
theorem dX12_walk_140 : decode cX12_walk 140 = .ok (.iastore, 1) := by decide +kernel
theorem dX12_walk_141 : decode cX12_walk 141 = .ok (.aload_n 0, 1) := by decide +kernel
theorem dX12_walk_142 : decode cX12_walk 142 = .ok (.getfield 116, 3) := by decide +kernel
theorem dX12_walk_145 : decode cX12_walk 145 = .ok (.iload 4, 2) := by decide +kernel
theorem dX12_walk_147 : decode cX12_walk 147 = .ok (.iload 9, 2) := by decide +kernel
theorem dX12_walk_149 : decode cX12_walk 149 = .ok (.iastore, 1) := by decide +kernel
theorem dX12_walk_150 : decode cX12_walk 150 = .ok (.iinc 4 1, 3) := by decide +kernel
theorem dX12_walk_153 : decode cX12_walk 153 = .ok (.aload_n 0, 1) := by decide +kernel
theorem dX12_walk_154 : decode cX12_walk 154 = .ok (.getfield 119, 3) := by decide +kernel
theorem dX12_walk_157 : decode cX12_walk 157 = .ok (.iconst 4, 1) := by decide +kernel
theorem dX12_walk_158 : decode cX12_walk 158 = .ok (.iload 5, 2) := by decide +kernel
theorem dX12_walk_160 : decode cX12_walk 160 = .ok (.imul, 1) := by decide +kernel
theorem dX12_walk_161 : decode cX12_walk 161 = .ok (.iload 7, 2) := by decide +kernel
theorem dX12_walk_163 : decode cX12_walk 163 = .ok (.iadd, 1) := by decide +kernel
theorem dX12_walk_164 : decode cX12_walk 164 = .ok (.iconst 4, 1) := by decide +kernel
theorem dX12_walk_165 : decode cX12_walk 165 = .ok (.aload_n 0, 1) := by decide +kernel
theorem dX12_walk_166 : decode cX12_walk 166 = .ok (.getfield 110, 3) := by decide +kernel
theorem dX12_walk_169 : decode cX12_walk 169 = .ok (.iload 9, 2) := by decide +kernel
theorem dX12_walk_171 : decode cX12_walk 171 = .ok (.iaload, 1) := by decide +kernel
theorem dX12_walk_172 : decode cX12_walk 172 = .ok (.imul, 1) := by decide +kernel
theorem dX12_walk_173 : decode cX12_walk 173 = .ok (.iload 8, 2) := by decide +kernel
theorem dX12_walk_175 : decode cX12_walk 175 = .ok (.aload_n 0, 1) := by decide +kernel
theorem dX12_walk_176 : decode cX12_walk 176 = .ok (.getfield 113, 3) := by decide +kernel
theorem dX12_walk_179 : decode cX12_walk 179 = .ok (.iload 9, 2) := by decide +kernel
theorem dX12_walk_181 : decode cX12_walk 181 = .ok (.iaload, 1) := by decide +kernel
theorem dX12_walk_182 : decode cX12_walk 182 = .ok (.isub, 1) := by decide +kernel
theorem dX12_walk_183 : decode cX12_walk 183 = .ok (.iconst 3, 1) := by decide +kernel
theorem dX12_walk_184 : decode cX12_walk 184 = .ok (.iand, 1) := by decide +kernel
theorem dX12_walk_185 : decode cX12_walk 185 = .ok (.iadd, 1) := by decide +kernel
theorem dX12_walk_186 : decode cX12_walk 186 = .ok (.iastore, 1) := by decide +kernel
theorem dX12_walk_187 : decode cX12_walk 187 = .ok (.iinc 7 1, 3) := by decide +kernel
theorem dX12_walk_190 : decode cX12_walk 190 = .ok (.goto (-116), 3) := by decide +kernel
theorem dX12_walk_193 : decode cX12_walk 193 = .ok (.iinc 5 1, 3) := by decide +kernel
theorem dX12_walk_196 : decode cX12_walk 196 = .ok (.goto (-141), 3) := by decide +kernel
theorem dX12_walk_199 : decode cX12_walk 199 = .ok (.iload 4, 2) := by decide +kernel
theorem dX12_walk_201 : decode cX12_walk 201 = .ok (.ireturn, 1) := by decide +kernel
theorem dX12_compare_0 : decode cX12_compare 0 = .ok (.iload_n 2, 1) := by decide +kernel
theorem dX12_compare_1 : decode cX12_compare 1 = .ok (.iload 5, 2) := by decide +kernel
theorem dX12_compare_3 : decode cX12_compare 3 = .ok (.if_icmp .eq 15, 3) := by decide +kernel
theorem dX12_compare_6 : decode cX12_compare 6 = .ok (.iload_n 2, 1) := by decide +kernel
theorem dX12_compare_7 : decode cX12_compare 7 = .ok (.iload 5, 2) := by decide +kernel
theorem dX12_compare_9 : decode cX12_compare 9 = .ok (.if_icmp .ge 7, 3) := by decide +kernel
theorem dX12_compare_12 : decode cX12_compare 12 = .ok (.iconst (-1), 1) := by decide +kernel
theorem dX12_compare_13 : decode cX12_compare 13 = .ok (.goto 4, 3) := by decide +kernel
theorem dX12_compare_16 : decode cX12_compare 16 = .ok (.iconst 1, 1) := by decide +kernel
theorem dX12_compare_17 : decode cX12_compare 17 = .ok (.ireturn, 1) := by decide +kernel
theorem dX12_compare_18 : decode cX12_compare 18 = .ok (.iconst 0, 1) := by decide +kernel
theorem dX12_compare_19 : decode cX12_compare 19 = .ok (.istore 6, 2) := by decide +kernel
theorem dX12_compare_21 : decode cX12_compare 21 = .ok (.iload 6, 2) := by decide +kernel
theorem dX12_compare_23 : decode cX12_compare 23 = .ok (.iload_n 2, 1) := by decide +kernel
theorem dX12_compare_24 : decode cX12_compare 24 = .ok (.if_icmp .ge 47, 3) := by decide +kernel
theorem dX12_compare_27 : decode cX12_compare 27 = .ok (.aload_n 0, 1) := by decide +kernel
theorem dX12_compare_28 : decode cX12_compare 28 = .ok (.iload_n 1, 1) := by decide +kernel
theorem dX12_compare_29 : decode cX12_compare 29 = .ok (.iload 6, 2) := by decide +kernel
theorem dX12_compare_31 : decode cX12_compare 31 = .ok (.iadd, 1) := by decide +kernel
theorem dX12_compare_32 : decode cX12_compare 32 = .ok (.iaload, 1) := by decide +kernel
theorem dX12_compare_33 : decode cX12_compare 33 = .ok (.aload_n 3, 1) := by decide +kernel
theorem dX12_compare_34 : decode cX12_compare 34 = .ok (.iload 4, 2) := by decide +kernel
theorem dX12_compare_36 : decode cX12_compare 36 = .ok (.iload 6, 2) := by decide +kernel
theorem dX12_compare_38 : decode cX12_compare 38 = .ok (.iadd, 1) := by decide +kernel
theorem dX12_compare_39 : decode cX12_compare 39 = .ok (.iaload, 1) := by decide +kernel
theorem dX12_compare_40 : decode cX12_compare 40 = .ok (.if_icmp .eq 25, 3) := by decide +kernel
theorem dX12_compare_43 : decode cX12_compare 43 = .ok (.aload_n 0, 1) := by decide +kernel
theorem dX12_compare_44 : decode cX12_compare 44 = .ok (.iload_n 1, 1) := by decide +kernel
theorem dX12_compare_45 : decode cX12_compare 45 = .ok (.iload 6, 2) := by decide +kernel
theorem dX12_compare_47 : decode cX12_compare 47 = .ok (.iadd, 1) := by decide +kernel
theorem dX12_compare_48 : decode cX12_compare 48 = .ok (.iaload, 1) := by decide +kernel
theorem dX12_compare_49 : decode cX12_compare 49 = .ok (.aload_n 3, 1) := by decide +kernel
theorem dX12_compare_50 : decode cX12_compare 50 = .ok (.iload 4, 2) := by decide +kernel
theorem dX12_compare_52 : decode cX12_compare 52 = .ok (.iload 6, 2) := by decide +kernel
theorem dX12_compare_54 : decode cX12_compare 54 = .ok (.iadd, 1) := by decide +kernel
theorem dX12_compare_55 : decode cX12_compare 55 = .ok (.iaload, 1) := by decide +kernel
theorem dX12_compare_56 : decode cX12_compare 56 = .ok (.if_icmp .ge 7, 3) := by decide +kernel
theorem dX12_compare_59 : decode cX12_compare 59 = .ok (.iconst (-1), 1) := by decide +kernel
theorem dX12_compare_60 : decode cX12_compare 60 = .ok (.goto 4, 3) := by decide +kernel
theorem dX12_compare_63 : decode cX12_compare 63 = .ok (.iconst 1, 1) := by decide +kernel
theorem dX12_compare_64 : decode cX12_compare 64 = .ok (.ireturn, 1) := by decide +kernel
theorem dX12_compare_65 : decode cX12_compare 65 = .ok (.iinc 6 1, 3) := by decide +kernel
theorem dX12_compare_68 : decode cX12_compare 68 = .ok (.goto (-47), 3) := by decide +kernel
theorem dX12_compare_71 : decode cX12_compare 71 = .ok (.iconst 0, 1) := by decide +kernel
theorem dX12_compare_72 : decode cX12_compare 72 = .ok (.ireturn, 1) := by decide +kernel
theorem dX12_codeInto_0 : decode cX12_codeInto 0 = .ok (.aload_n 0, 1) := by decide +kernel
theorem dX12_codeInto_1 : decode cX12_codeInto 1 = .ok (.iload_n 1, 1) := by decide +kernel
theorem dX12_codeInto_2 : decode cX12_codeInto 2 = .ok (.invokevirtual 223, 3) := by decide +kernel
theorem dX12_codeInto_5 : decode cX12_codeInto 5 = .ok (.istore 4, 2) := by decide +kernel
theorem dX12_codeInto_7 : decode cX12_codeInto 7 = .ok (.iconst 0, 1) := by decide +kernel
theorem dX12_codeInto_8 : decode cX12_codeInto 8 = .ok (.istore 5, 2) := by decide +kernel
theorem dX12_codeInto_10 : decode cX12_codeInto 10 = .ok (.iconst 0, 1) := by decide +kernel
theorem dX12_codeInto_11 : decode cX12_codeInto 11 = .ok (.istore 4, 2) := by decide +kernel
theorem dX12_codeInto_13 : decode cX12_codeInto 13 = .ok (.iconst 0, 1) := by decide +kernel
theorem dX12_codeInto_14 : decode cX12_codeInto 14 = .ok (.istore 6, 2) := by decide +kernel
theorem dX12_codeInto_16 : decode cX12_codeInto 16 = .ok (.iload 6, 2) := by decide +kernel
theorem dX12_codeInto_18 : decode cX12_codeInto 18 = .ok (.aload_n 0, 1) := by decide +kernel
theorem dX12_codeInto_19 : decode cX12_codeInto 19 = .ok (.getfield 13, 3) := by decide +kernel
theorem dX12_codeInto_22 : decode cX12_codeInto 22 = .ok (.iload_n 1, 1) := by decide +kernel
theorem dX12_codeInto_23 : decode cX12_codeInto 23 = .ok (.iaload, 1) := by decide +kernel
theorem dX12_codeInto_24 : decode cX12_codeInto 24 = .ok (.if_icmp .ge 205, 3) := by decide +kernel
theorem dX12_codeInto_27 : decode cX12_codeInto 27 = .ok (.aload_n 0, 1) := by decide +kernel
theorem dX12_codeInto_28 : decode cX12_codeInto 28 = .ok (.getfield 39, 3) := by decide +kernel
theorem dX12_codeInto_31 : decode cX12_codeInto 31 = .ok (.iload 6, 2) := by decide +kernel
theorem dX12_codeInto_33 : decode cX12_codeInto 33 = .ok (.iaload, 1) := by decide +kernel
theorem dX12_codeInto_34 : decode cX12_codeInto 34 = .ok (.iload 6, 2) := by decide +kernel
theorem dX12_codeInto_36 : decode cX12_codeInto 36 = .ok (.if_icmp .ne 187, 3) := by decide +kernel
theorem dX12_codeInto_39 : decode cX12_codeInto 39 = .ok (.iconst 0, 1) := by decide +kernel
theorem dX12_codeInto_40 : decode cX12_codeInto 40 = .ok (.istore 7, 2) := by decide +kernel
theorem dX12_codeInto_42 : decode cX12_codeInto 42 = .ok (.iload 6, 2) := by decide +kernel
theorem dX12_codeInto_44 : decode cX12_codeInto 44 = .ok (.istore 8, 2) := by decide +kernel
theorem dX12_codeInto_46 : decode cX12_codeInto 46 = .ok (.iload 8, 2) := by decide +kernel
theorem dX12_codeInto_48 : decode cX12_codeInto 48 = .ok (.aload_n 0, 1) := by decide +kernel
theorem dX12_codeInto_49 : decode cX12_codeInto 49 = .ok (.getfield 13, 3) := by decide +kernel
theorem dX12_codeInto_52 : decode cX12_codeInto 52 = .ok (.iload_n 1, 1) := by decide +kernel
theorem dX12_codeInto_53 : decode cX12_codeInto 53 = .ok (.iaload, 1) := by decide +kernel
theorem dX12_codeInto_54 : decode cX12_codeInto 54 = .ok (.if_icmp .ge 108, 3) := by decide +kernel
theorem dX12_codeInto_57 : decode cX12_codeInto 57 = .ok (.aload_n 0, 1) := by decide +kernel
theorem dX12_codeInto_58 : decode cX12_codeInto 58 = .ok (.getfield 39, 3) := by decide +kernel
theorem dX12_codeInto_61 : decode cX12_codeInto 61 = .ok (.iload 8, 2) := by decide +kernel
theorem dX12_codeInto_63 : decode cX12_codeInto 63 = .ok (.iaload, 1) := by decide +kernel
theorem dX12_codeInto_64 : decode cX12_codeInto 64 = .ok (.iload 6, 2) := by decide +kernel
theorem dX12_codeInto_66 : decode cX12_codeInto 66 = .ok (.if_icmp .ne 90, 3) := by decide +kernel
theorem dX12_codeInto_69 : decode cX12_codeInto 69 = .ok (.iconst 0, 1) := by decide +kernel
theorem dX12_codeInto_70 : decode cX12_codeInto 70 = .ok (.istore 9, 2) := by decide +kernel
theorem dX12_codeInto_72 : decode cX12_codeInto 72 = .ok (.iload 9, 2) := by decide +kernel
theorem dX12_codeInto_74 : decode cX12_codeInto 74 = .ok (.iconst 4, 1) := by decide +kernel
theorem dX12_codeInto_75 : decode cX12_codeInto 75 = .ok (.if_icmp .ge 81, 3) := by decide +kernel
theorem dX12_codeInto_78 : decode cX12_codeInto 78 = .ok (.iconst 4, 1) := by decide +kernel
theorem dX12_codeInto_79 : decode cX12_codeInto 79 = .ok (.aload_n 0, 1) := by decide +kernel
theorem dX12_codeInto_80 : decode cX12_codeInto 80 = .ok (.iload_n 1, 1) := by decide +kernel
theorem dX12_codeInto_81 : decode cX12_codeInto 81 = .ok (.iload 8, 2) := by decide +kernel
theorem dX12_codeInto_83 : decode cX12_codeInto 83 = .ok (.iload 9, 2) := by decide +kernel
theorem dX12_codeInto_85 : decode cX12_codeInto 85 = .ok (.invokevirtual 401, 3) := by decide +kernel
theorem dX12_codeInto_88 : decode cX12_codeInto 88 = .ok (.imul, 1) := by decide +kernel
theorem dX12_codeInto_89 : decode cX12_codeInto 89 = .ok (.istore 10, 2) := by decide +kernel
theorem dX12_codeInto_91 : decode cX12_codeInto 91 = .ok (.iload 7, 2) := by decide +kernel
theorem dX12_codeInto_93 : decode cX12_codeInto 93 = .ok (.ifCond .eq 23, 3) := by decide +kernel
theorem dX12_codeInto_96 : decode cX12_codeInto 96 = .ok (.aload_n 0, 1) := by decide +kernel
theorem dX12_codeInto_97 : decode cX12_codeInto 97 = .ok (.getfield 119, 3) := by decide +kernel
theorem dX12_codeInto_100 : decode cX12_codeInto 100 = .ok (.iconst 0, 1) := by decide +kernel
theorem dX12_codeInto_101 : decode cX12_codeInto 101 = .ok (.iload 10, 2) := by decide +kernel
theorem dX12_codeInto_103 : decode cX12_codeInto 103 = .ok (.aload_n 0, 1) := by decide +kernel
theorem dX12_codeInto_104 : decode cX12_codeInto 104 = .ok (.getfield 122, 3) := by decide +kernel
theorem dX12_codeInto_107 : decode cX12_codeInto 107 = .ok (.iconst 0, 1) := by decide +kernel
theorem dX12_codeInto_108 : decode cX12_codeInto 108 = .ok (.iload 10, 2) := by decide +kernel
theorem dX12_codeInto_110 : decode cX12_codeInto 110 = .ok (.invokestatic 404, 3) := by decide +kernel
theorem dX12_codeInto_113 : decode cX12_codeInto 113 = .ok (.ifCond .ge 33, 3) := by decide +kernel
theorem dX12_codeInto_116 : decode cX12_codeInto 116 = .ok (.iconst 0, 1) := by decide +kernel
theorem dX12_codeInto_117 : decode cX12_codeInto 117 = .ok (.istore 11, 2) := by decide +kernel
theorem dX12_codeInto_119 : decode cX12_codeInto 119 = .ok (.iload 11, 2) := by decide +kernel
theorem dX12_codeInto_121 : decode cX12_codeInto 121 = .ok (.iload 10, 2) := by decide +kernel
theorem dX12_codeInto_123 : decode cX12_codeInto 123 = .ok (.if_icmp .ge 23, 3) := by decide +kernel
theorem dX12_codeInto_126 : decode cX12_codeInto 126 = .ok (.aload_n 0, 1) := by decide +kernel
theorem dX12_codeInto_127 : decode cX12_codeInto 127 = .ok (.getfield 122, 3) := by decide +kernel
theorem dX12_codeInto_130 : decode cX12_codeInto 130 = .ok (.iload 11, 2) := by decide +kernel
theorem dX12_codeInto_132 : decode cX12_codeInto 132 = .ok (.aload_n 0, 1) := by decide +kernel
theorem dX12_codeInto_133 : decode cX12_codeInto 133 = .ok (.getfield 119, 3) := by decide +kernel
theorem dX12_codeInto_136 : decode cX12_codeInto 136 = .ok (.iload 11, 2) := by decide +kernel
theorem dX12_codeInto_138 : decode cX12_codeInto 138 = .ok (.iaload, 1) := by decide +kernel
theorem dX12_codeInto_139 : decode cX12_codeInto 139 = .ok (.iastore, 1) := by decide +kernel
theorem dX12_codeInto_140 : decode cX12_codeInto 140 = .ok (.iinc 11 1, 3) := by decide +kernel
theorem dX12_codeInto_143 : decode cX12_codeInto 143 = .ok (.goto (-24), 3) := by decide +kernel
theorem dX12_codeInto_146 : decode cX12_codeInto 146 = .ok (.iload 10, 2) := by decide +kernel
theorem dX12_codeInto_148 : decode cX12_codeInto 148 = .ok (.istore 7, 2) := by decide +kernel
theorem dX12_codeInto_150 : decode cX12_codeInto 150 = .ok (.iinc 9 2, 3) := by decide +kernel
theorem dX12_codeInto_153 : decode cX12_codeInto 153 = .ok (.goto (-81), 3) := by decide +kernel
theorem dX12_codeInto_156 : decode cX12_codeInto 156 = .ok (.iinc 8 1, 3) := by decide +kernel
theorem dX12_codeInto_159 : decode cX12_codeInto 159 = .ok (.goto (-113), 3) := by decide +kernel
theorem dX12_codeInto_162 : decode cX12_codeInto 162 = .ok (.aload_n 0, 1) := by decide +kernel
theorem dX12_codeInto_163 : decode cX12_codeInto 163 = .ok (.getfield 125, 3) := by decide +kernel
theorem dX12_codeInto_166 : decode cX12_codeInto 166 = .ok (.iload 4, 2) := by decide +kernel
theorem dX12_codeInto_168 : decode cX12_codeInto 168 = .ok (.iload 5, 2) := by decide +kernel
theorem dX12_codeInto_170 : decode cX12_codeInto 170 = .ok (.iastore, 1) := by decide +kernel
theorem dX12_codeInto_171 : decode cX12_codeInto 171 = .ok (.iinc 4 1, 3) := by decide +kernel
theorem dX12_codeInto_174 : decode cX12_codeInto 174 = .ok (.iconst 0, 1) := by decide +kernel
theorem dX12_codeInto_175 : decode cX12_codeInto 175 = .ok (.istore 8, 2) := by decide +kernel
theorem dX12_codeInto_177 : decode cX12_codeInto 177 = .ok (.iload 8, 2) := by decide +kernel
theorem dX12_codeInto_179 : decode cX12_codeInto 179 = .ok (.iload 7, 2) := by decide +kernel
theorem dX12_codeInto_181 : decode cX12_codeInto 181 = .ok (.if_icmp .ge 26, 3) := by decide +kernel
theorem dX12_codeInto_184 : decode cX12_codeInto 184 = .ok (.aload_n 0, 1) := by decide +kernel
theorem dX12_codeInto_185 : decode cX12_codeInto 185 = .ok (.getfield 128, 3) := by decide +kernel
theorem dX12_codeInto_188 : decode cX12_codeInto 188 = .ok (.iload 5, 2) := by decide +kernel
theorem dX12_codeInto_190 : decode cX12_codeInto 190 = .ok (.iload 8, 2) := by decide +kernel
theorem dX12_codeInto_192 : decode cX12_codeInto 192 = .ok (.iadd, 1) := by decide +kernel
theorem dX12_codeInto_193 : decode cX12_codeInto 193 = .ok (.aload_n 0, 1) := by decide +kernel
theorem dX12_codeInto_194 : decode cX12_codeInto 194 = .ok (.getfield 122, 3) := by decide +kernel
theorem dX12_codeInto_197 : decode cX12_codeInto 197 = .ok (.iload 8, 2) := by decide +kernel
theorem dX12_codeInto_199 : decode cX12_codeInto 199 = .ok (.iaload, 1) := by decide +kernel
theorem dX12_codeInto_200 : decode cX12_codeInto 200 = .ok (.iastore, 1) := by decide +kernel
theorem dX12_codeInto_201 : decode cX12_codeInto 201 = .ok (.iinc 8 1, 3) := by decide +kernel
theorem dX12_codeInto_204 : decode cX12_codeInto 204 = .ok (.goto (-27), 3) := by decide +kernel
theorem dX12_codeInto_207 : decode cX12_codeInto 207 = .ok (.iload 5, 2) := by decide +kernel
theorem dX12_codeInto_209 : decode cX12_codeInto 209 = .ok (.iload 7, 2) := by decide +kernel
theorem dX12_codeInto_211 : decode cX12_codeInto 211 = .ok (.iadd, 1) := by decide +kernel
theorem dX12_codeInto_212 : decode cX12_codeInto 212 = .ok (.istore 5, 2) := by decide +kernel
theorem dX12_codeInto_214 : decode cX12_codeInto 214 = .ok (.aload_n 0, 1) := by decide +kernel
theorem dX12_codeInto_215 : decode cX12_codeInto 215 = .ok (.getfield 125, 3) := by decide +kernel
theorem dX12_codeInto_218 : decode cX12_codeInto 218 = .ok (.iload 4, 2) := by decide +kernel
theorem dX12_codeInto_220 : decode cX12_codeInto 220 = .ok (.iload 5, 2) := by decide +kernel
theorem dX12_codeInto_222 : decode cX12_codeInto 222 = .ok (.iastore, 1) := by decide +kernel
theorem dX12_codeInto_223 : decode cX12_codeInto 223 = .ok (.iinc 6 1, 3) := by decide +kernel
theorem dX12_codeInto_226 : decode cX12_codeInto 226 = .ok (.goto (-210), 3) := by decide +kernel
theorem dX12_codeInto_229 : decode cX12_codeInto 229 = .ok (.aload_n 0, 1) := by decide +kernel
theorem dX12_codeInto_230 : decode cX12_codeInto 230 = .ok (.iload 4, 2) := by decide +kernel
theorem dX12_codeInto_232 : decode cX12_codeInto 232 = .ok (.aload_n 2, 1) := by decide +kernel
theorem dX12_codeInto_233 : decode cX12_codeInto 233 = .ok (.iload_n 3, 1) := by decide +kernel
theorem dX12_codeInto_234 : decode cX12_codeInto 234 = .ok (.iload_n 1, 1) := by decide +kernel
theorem dX12_codeInto_235 : decode cX12_codeInto 235 = .ok (.invokevirtual 408, 3) := by decide +kernel
theorem dX12_codeInto_238 : decode cX12_codeInto 238 = .ok (.return_, 1) := by decide +kernel
theorem dX12_sortInto_0 : decode cX12_sortInto 0 = .ok (.aload_n 2, 1) := by decide +kernel
theorem dX12_sortInto_1 : decode cX12_sortInto 1 = .ok (.iload_n 3, 1) := by decide +kernel
theorem dX12_sortInto_2 : decode cX12_sortInto 2 = .ok (.aload_n 0, 1) := by decide +kernel
theorem dX12_sortInto_3 : decode cX12_sortInto 3 = .ok (.getfield 16, 3) := by decide +kernel
theorem dX12_sortInto_6 : decode cX12_sortInto 6 = .ok (.iload 4, 2) := by decide +kernel
theorem dX12_sortInto_8 : decode cX12_sortInto 8 = .ok (.iaload, 1) := by decide +kernel
theorem dX12_sortInto_9 : decode cX12_sortInto 9 = .ok (.iastore, 1) := by decide +kernel
theorem dX12_sortInto_10 : decode cX12_sortInto 10 = .ok (.aload_n 2, 1) := by decide +kernel
theorem dX12_sortInto_11 : decode cX12_sortInto 11 = .ok (.iload_n 3, 1) := by decide +kernel
theorem dX12_sortInto_12 : decode cX12_sortInto 12 = .ok (.iconst 1, 1) := by decide +kernel
theorem dX12_sortInto_13 : decode cX12_sortInto 13 = .ok (.iadd, 1) := by decide +kernel
theorem dX12_sortInto_14 : decode cX12_sortInto 14 = .ok (.aload_n 0, 1) := by decide +kernel
theorem dX12_sortInto_15 : decode cX12_sortInto 15 = .ok (.getfield 13, 3) := by decide +kernel
theorem dX12_sortInto_18 : decode cX12_sortInto 18 = .ok (.iload 4, 2) := by decide +kernel
theorem dX12_sortInto_20 : decode cX12_sortInto 20 = .ok (.iaload, 1) := by decide +kernel
theorem dX12_sortInto_21 : decode cX12_sortInto 21 = .ok (.iastore, 1) := by decide +kernel
theorem dX12_sortInto_22 : decode cX12_sortInto 22 = .ok (.iload_n 3, 1) := by decide +kernel
theorem dX12_sortInto_23 : decode cX12_sortInto 23 = .ok (.iconst 2, 1) := by decide +kernel
theorem dX12_sortInto_24 : decode cX12_sortInto 24 = .ok (.iadd, 1) := by decide +kernel
theorem dX12_sortInto_25 : decode cX12_sortInto 25 = .ok (.istore 5, 2) := by decide +kernel
theorem dX12_sortInto_27 : decode cX12_sortInto 27 = .ok (.iconst 0, 1) := by decide +kernel
theorem dX12_sortInto_28 : decode cX12_sortInto 28 = .ok (.istore 6, 2) := by decide +kernel
theorem dX12_sortInto_30 : decode cX12_sortInto 30 = .ok (.iload 6, 2) := by decide +kernel
theorem dX12_sortInto_32 : decode cX12_sortInto 32 = .ok (.iload_n 1, 1) := by decide +kernel
theorem dX12_sortInto_33 : decode cX12_sortInto 33 = .ok (.if_icmp .ge 17, 3) := by decide +kernel
theorem dX12_sortInto_36 : decode cX12_sortInto 36 = .ok (.aload_n 0, 1) := by decide +kernel
theorem dX12_sortInto_37 : decode cX12_sortInto 37 = .ok (.getfield 131, 3) := by decide +kernel
theorem dX12_sortInto_40 : decode cX12_sortInto 40 = .ok (.iload 6, 2) := by decide +kernel
theorem dX12_sortInto_42 : decode cX12_sortInto 42 = .ok (.iconst 0, 1) := by decide +kernel
theorem dX12_sortInto_43 : decode cX12_sortInto 43 = .ok (.bastore, 1) := by decide +kernel
theorem dX12_sortInto_44 : decode cX12_sortInto 44 = .ok (.iinc 6 1, 3) := by decide +kernel
theorem dX12_sortInto_47 : decode cX12_sortInto 47 = .ok (.goto (-17), 3) := by decide +kernel
theorem dX12_sortInto_50 : decode cX12_sortInto 50 = .ok (.iconst 0, 1) := by decide +kernel
theorem dX12_sortInto_51 : decode cX12_sortInto 51 = .ok (.istore 6, 2) := by decide +kernel
theorem dX12_sortInto_53 : decode cX12_sortInto 53 = .ok (.iload 6, 2) := by decide +kernel
theorem dX12_sortInto_55 : decode cX12_sortInto 55 = .ok (.iload_n 1, 1) := by decide +kernel
theorem dX12_sortInto_56 : decode cX12_sortInto 56 = .ok (.if_icmp .ge 185, 3) := by decide +kernel
theorem dX12_sortInto_59 : decode cX12_sortInto 59 = .ok (.iconst (-1), 1) := by decide +kernel
theorem dX12_sortInto_60 : decode cX12_sortInto 60 = .ok (.istore 7, 2) := by decide +kernel
theorem dX12_sortInto_62 : decode cX12_sortInto 62 = .ok (.iconst 0, 1) := by decide +kernel
theorem dX12_sortInto_63 : decode cX12_sortInto 63 = .ok (.istore 8, 2) := by decide +kernel
theorem dX12_sortInto_65 : decode cX12_sortInto 65 = .ok (.iload 8, 2) := by decide +kernel
theorem dX12_sortInto_67 : decode cX12_sortInto 67 = .ok (.iload_n 1, 1) := by decide +kernel
theorem dX12_sortInto_68 : decode cX12_sortInto 68 = .ok (.if_icmp .ge 91, 3) := by decide +kernel
theorem dX12_sortInto_71 : decode cX12_sortInto 71 = .ok (.aload_n 0, 1) := by decide +kernel
theorem dX12_sortInto_72 : decode cX12_sortInto 72 = .ok (.getfield 131, 3) := by decide +kernel
theorem dX12_sortInto_75 : decode cX12_sortInto 75 = .ok (.iload 8, 2) := by decide +kernel
theorem dX12_sortInto_77 : decode cX12_sortInto 77 = .ok (.baload, 1) := by decide +kernel
theorem dX12_sortInto_78 : decode cX12_sortInto 78 = .ok (.ifCond .ne 75, 3) := by decide +kernel
theorem dX12_sortInto_81 : decode cX12_sortInto 81 = .ok (.iload 7, 2) := by decide +kernel
theorem dX12_sortInto_83 : decode cX12_sortInto 83 = .ok (.iconst (-1), 1) := by decide +kernel
theorem dX12_sortInto_84 : decode cX12_sortInto 84 = .ok (.if_icmp .eq 65, 3) := by decide +kernel
theorem dX12_sortInto_87 : decode cX12_sortInto 87 = .ok (.aload_n 0, 1) := by decide +kernel
theorem dX12_sortInto_88 : decode cX12_sortInto 88 = .ok (.getfield 128, 3) := by decide +kernel
theorem dX12_sortInto_91 : decode cX12_sortInto 91 = .ok (.aload_n 0, 1) := by decide +kernel
theorem dX12_sortInto_92 : decode cX12_sortInto 92 = .ok (.getfield 125, 3) := by decide +kernel
theorem dX12_sortInto_95 : decode cX12_sortInto 95 = .ok (.iload 8, 2) := by decide +kernel
theorem dX12_sortInto_97 : decode cX12_sortInto 97 = .ok (.iaload, 1) := by decide +kernel
theorem dX12_sortInto_98 : decode cX12_sortInto 98 = .ok (.aload_n 0, 1) := by decide +kernel
theorem dX12_sortInto_99 : decode cX12_sortInto 99 = .ok (.getfield 125, 3) := by decide +kernel
theorem dX12_sortInto_102 : decode cX12_sortInto 102 = .ok (.iload 8, 2) := by decide +kernel
theorem dX12_sortInto_104 : decode cX12_sortInto 104 = .ok (.iconst 1, 1) := by decide +kernel
theorem dX12_sortInto_105 : decode cX12_sortInto 105 = .ok (.iadd, 1) := by decide +kernel
theorem dX12_sortInto_106 : decode cX12_sortInto 106 = .ok (.iaload, 1) := by decide +kernel
theorem dX12_sortInto_107 : decode cX12_sortInto 107 = .ok (.aload_n 0, 1) := by decide +kernel
theorem dX12_sortInto_108 : decode cX12_sortInto 108 = .ok (.getfield 125, 3) := by decide +kernel
theorem dX12_sortInto_111 : decode cX12_sortInto 111 = .ok (.iload 8, 2) := by decide +kernel
theorem dX12_sortInto_113 : decode cX12_sortInto 113 = .ok (.iaload, 1) := by decide +kernel
theorem dX12_sortInto_114 : decode cX12_sortInto 114 = .ok (.isub, 1) := by decide +kernel
theorem dX12_sortInto_115 : decode cX12_sortInto 115 = .ok (.aload_n 0, 1) := by decide +kernel
theorem dX12_sortInto_116 : decode cX12_sortInto 116 = .ok (.getfield 128, 3) := by decide +kernel
theorem dX12_sortInto_119 : decode cX12_sortInto 119 = .ok (.aload_n 0, 1) := by decide +kernel
theorem dX12_sortInto_120 : decode cX12_sortInto 120 = .ok (.getfield 125, 3) := by decide +kernel
theorem dX12_sortInto_123 : decode cX12_sortInto 123 = .ok (.iload 7, 2) := by decide +kernel
theorem dX12_sortInto_125 : decode cX12_sortInto 125 = .ok (.iaload, 1) := by decide +kernel
theorem dX12_sortInto_126 : decode cX12_sortInto 126 = .ok (.aload_n 0, 1) := by decide +kernel
theorem dX12_sortInto_127 : decode cX12_sortInto 127 = .ok (.getfield 125, 3) := by decide +kernel
theorem dX12_sortInto_130 : decode cX12_sortInto 130 = .ok (.iload 7, 2) := by decide +kernel
theorem dX12_sortInto_132 : decode cX12_sortInto 132 = .ok (.iconst 1, 1) := by decide +kernel
theorem dX12_sortInto_133 : decode cX12_sortInto 133 = .ok (.iadd, 1) := by decide +kernel
theorem dX12_sortInto_134 : decode cX12_sortInto 134 = .ok (.iaload, 1) := by decide +kernel
theorem dX12_sortInto_135 : decode cX12_sortInto 135 = .ok (.aload_n 0, 1) := by decide +kernel
theorem dX12_sortInto_136 : decode cX12_sortInto 136 = .ok (.getfield 125, 3) := by decide +kernel
theorem dX12_sortInto_139 : decode cX12_sortInto 139 = .ok (.iload 7, 2) := by decide +kernel
theorem dX12_sortInto_141 : decode cX12_sortInto 141 = .ok (.iaload, 1) := by decide +kernel
theorem dX12_sortInto_142 : decode cX12_sortInto 142 = .ok (.isub, 1) := by decide +kernel
theorem dX12_sortInto_143 : decode cX12_sortInto 143 = .ok (.invokestatic 404, 3) := by decide +kernel
theorem dX12_sortInto_146 : decode cX12_sortInto 146 = .ok (.ifCond .ge 7, 3) := by decide +kernel
theorem dX12_sortInto_149 : decode cX12_sortInto 149 = .ok (.iload 8, 2) := by decide +kernel
theorem dX12_sortInto_151 : decode cX12_sortInto 151 = .ok (.istore 7, 2) := by decide +kernel
theorem dX12_sortInto_153 : decode cX12_sortInto 153 = .ok (.iinc 8 1, 3) := by decide +kernel
theorem dX12_sortInto_156 : decode cX12_sortInto 156 = .ok (.goto (-91), 3) := by decide +kernel
theorem dX12_sortInto_159 : decode cX12_sortInto 159 = .ok (.aload_n 0, 1) := by decide +kernel
theorem dX12_sortInto_160 : decode cX12_sortInto 160 = .ok (.getfield 131, 3) := by decide +kernel
theorem dX12_sortInto_163 : decode cX12_sortInto 163 = .ok (.iload 7, 2) := by decide +kernel
theorem dX12_sortInto_165 : decode cX12_sortInto 165 = .ok (.iconst 1, 1) := by decide +kernel
theorem dX12_sortInto_166 : decode cX12_sortInto 166 = .ok (.bastore, 1) := by decide +kernel
theorem dX12_sortInto_167 : decode cX12_sortInto 167 = .ok (.aload_n 2, 1) := by decide +kernel
theorem dX12_sortInto_168 : decode cX12_sortInto 168 = .ok (.iload 5, 2) := by decide +kernel
theorem dX12_sortInto_170 : decode cX12_sortInto 170 = .ok (.aload_n 0, 1) := by decide +kernel
theorem dX12_sortInto_171 : decode cX12_sortInto 171 = .ok (.getfield 125, 3) := by decide +kernel
theorem dX12_sortInto_174 : decode cX12_sortInto 174 = .ok (.iload 7, 2) := by decide +kernel
theorem dX12_sortInto_176 : decode cX12_sortInto 176 = .ok (.iconst 1, 1) := by decide +kernel
theorem dX12_sortInto_177 : decode cX12_sortInto 177 = .ok (.iadd, 1) := by decide +kernel
theorem dX12_sortInto_178 : decode cX12_sortInto 178 = .ok (.iaload, 1) := by decide +kernel
theorem dX12_sortInto_179 : decode cX12_sortInto 179 = .ok (.aload_n 0, 1) := by decide +kernel
theorem dX12_sortInto_180 : decode cX12_sortInto 180 = .ok (.getfield 125, 3) := by decide +kernel
theorem dX12_sortInto_183 : decode cX12_sortInto 183 = .ok (.iload 7, 2) := by decide +kernel
theorem dX12_sortInto_185 : decode cX12_sortInto 185 = .ok (.iaload, 1) := by decide +kernel
theorem dX12_sortInto_186 : decode cX12_sortInto 186 = .ok (.isub, 1) := by decide +kernel
theorem dX12_sortInto_187 : decode cX12_sortInto 187 = .ok (.ineg, 1) := by decide +kernel
theorem dX12_sortInto_188 : decode cX12_sortInto 188 = .ok (.iastore, 1) := by decide +kernel
theorem dX12_sortInto_189 : decode cX12_sortInto 189 = .ok (.iinc 5 1, 3) := by decide +kernel
theorem dX12_sortInto_192 : decode cX12_sortInto 192 = .ok (.aload_n 0, 1) := by decide +kernel
theorem dX12_sortInto_193 : decode cX12_sortInto 193 = .ok (.getfield 125, 3) := by decide +kernel
theorem dX12_sortInto_196 : decode cX12_sortInto 196 = .ok (.iload 7, 2) := by decide +kernel
theorem dX12_sortInto_198 : decode cX12_sortInto 198 = .ok (.iaload, 1) := by decide +kernel
theorem dX12_sortInto_199 : decode cX12_sortInto 199 = .ok (.istore 8, 2) := by decide +kernel
theorem dX12_sortInto_201 : decode cX12_sortInto 201 = .ok (.iload 8, 2) := by decide +kernel
theorem dX12_sortInto_203 : decode cX12_sortInto 203 = .ok (.aload_n 0, 1) := by decide +kernel
theorem dX12_sortInto_204 : decode cX12_sortInto 204 = .ok (.getfield 125, 3) := by decide +kernel
theorem dX12_sortInto_207 : decode cX12_sortInto 207 = .ok (.iload 7, 2) := by decide +kernel
theorem dX12_sortInto_209 : decode cX12_sortInto 209 = .ok (.iconst 1, 1) := by decide +kernel
theorem dX12_sortInto_210 : decode cX12_sortInto 210 = .ok (.iadd, 1) := by decide +kernel
theorem dX12_sortInto_211 : decode cX12_sortInto 211 = .ok (.iaload, 1) := by decide +kernel
theorem dX12_sortInto_212 : decode cX12_sortInto 212 = .ok (.if_icmp .ge 23, 3) := by decide +kernel
theorem dX12_sortInto_215 : decode cX12_sortInto 215 = .ok (.aload_n 2, 1) := by decide +kernel
theorem dX12_sortInto_216 : decode cX12_sortInto 216 = .ok (.iload 5, 2) := by decide +kernel
theorem dX12_sortInto_218 : decode cX12_sortInto 218 = .ok (.aload_n 0, 1) := by decide +kernel
theorem dX12_sortInto_219 : decode cX12_sortInto 219 = .ok (.getfield 128, 3) := by decide +kernel
theorem dX12_sortInto_222 : decode cX12_sortInto 222 = .ok (.iload 8, 2) := by decide +kernel
theorem dX12_sortInto_224 : decode cX12_sortInto 224 = .ok (.iaload, 1) := by decide +kernel
theorem dX12_sortInto_225 : decode cX12_sortInto 225 = .ok (.iastore, 1) := by decide +kernel
theorem dX12_sortInto_226 : decode cX12_sortInto 226 = .ok (.iinc 5 1, 3) := by decide +kernel
theorem dX12_sortInto_229 : decode cX12_sortInto 229 = .ok (.iinc 8 1, 3) := by decide +kernel
theorem dX12_sortInto_232 : decode cX12_sortInto 232 = .ok (.goto (-31), 3) := by decide +kernel
theorem dX12_sortInto_235 : decode cX12_sortInto 235 = .ok (.iinc 6 1, 3) := by decide +kernel
theorem dX12_sortInto_238 : decode cX12_sortInto 238 = .ok (.goto (-185), 3) := by decide +kernel
theorem dX12_sortInto_241 : decode cX12_sortInto 241 = .ok (.aload_n 2, 1) := by decide +kernel
theorem dX12_sortInto_242 : decode cX12_sortInto 242 = .ok (.iload 5, 2) := by decide +kernel
theorem dX12_sortInto_244 : decode cX12_sortInto 244 = .ok (.sipush (-999), 3) := by decide +kernel
theorem dX12_sortInto_247 : decode cX12_sortInto 247 = .ok (.iastore, 1) := by decide +kernel
theorem dX12_sortInto_248 : decode cX12_sortInto 248 = .ok (.return_, 1) := by decide +kernel
theorem dX12_areAlike_0 : decode cX12_areAlike 0 = .ok (.iconst 0, 1) := by decide +kernel
theorem dX12_areAlike_1 : decode cX12_areAlike 1 = .ok (.istore 4, 2) := by decide +kernel
theorem dX12_areAlike_3 : decode cX12_areAlike 3 = .ok (.aload_n 0, 1) := by decide +kernel
theorem dX12_areAlike_4 : decode cX12_areAlike 4 = .ok (.iload_n 1, 1) := by decide +kernel
theorem dX12_areAlike_5 : decode cX12_areAlike 5 = .ok (.iload 4, 2) := by decide +kernel
theorem dX12_areAlike_7 : decode cX12_areAlike 7 = .ok (.iadd, 1) := by decide +kernel
theorem dX12_areAlike_8 : decode cX12_areAlike 8 = .ok (.iaload, 1) := by decide +kernel
theorem dX12_areAlike_9 : decode cX12_areAlike 9 = .ok (.aload_n 2, 1) := by decide +kernel
theorem dX12_areAlike_10 : decode cX12_areAlike 10 = .ok (.iload_n 3, 1) := by decide +kernel
theorem dX12_areAlike_11 : decode cX12_areAlike 11 = .ok (.iload 4, 2) := by decide +kernel
theorem dX12_areAlike_13 : decode cX12_areAlike 13 = .ok (.iadd, 1) := by decide +kernel
theorem dX12_areAlike_14 : decode cX12_areAlike 14 = .ok (.iaload, 1) := by decide +kernel
theorem dX12_areAlike_15 : decode cX12_areAlike 15 = .ok (.if_icmp .ne 21, 3) := by decide +kernel
theorem dX12_areAlike_18 : decode cX12_areAlike 18 = .ok (.aload_n 0, 1) := by decide +kernel
theorem dX12_areAlike_19 : decode cX12_areAlike 19 = .ok (.iload_n 1, 1) := by decide +kernel
theorem dX12_areAlike_20 : decode cX12_areAlike 20 = .ok (.iload 4, 2) := by decide +kernel
theorem dX12_areAlike_22 : decode cX12_areAlike 22 = .ok (.iadd, 1) := by decide +kernel
theorem dX12_areAlike_23 : decode cX12_areAlike 23 = .ok (.iaload, 1) := by decide +kernel
theorem dX12_areAlike_24 : decode cX12_areAlike 24 = .ok (.sipush (-999), 3) := by decide +kernel
theorem dX12_areAlike_27 : decode cX12_areAlike 27 = .ok (.if_icmp .eq 9, 3) := by decide +kernel
theorem dX12_areAlike_30 : decode cX12_areAlike 30 = .ok (.iinc 4 1, 3) := by decide +kernel
theorem dX12_areAlike_33 : decode cX12_areAlike 33 = .ok (.goto (-30), 3) := by decide +kernel
theorem dX12_areAlike_36 : decode cX12_areAlike 36 = .ok (.aload_n 0, 1) := by decide +kernel
theorem dX12_areAlike_37 : decode cX12_areAlike 37 = .ok (.iload_n 1, 1) := by decide +kernel
theorem dX12_areAlike_38 : decode cX12_areAlike 38 = .ok (.iload 4, 2) := by decide +kernel
theorem dX12_areAlike_40 : decode cX12_areAlike 40 = .ok (.iadd, 1) := by decide +kernel
theorem dX12_areAlike_41 : decode cX12_areAlike 41 = .ok (.iaload, 1) := by decide +kernel
theorem dX12_areAlike_42 : decode cX12_areAlike 42 = .ok (.aload_n 2, 1) := by decide +kernel
theorem dX12_areAlike_43 : decode cX12_areAlike 43 = .ok (.iload_n 3, 1) := by decide +kernel
theorem dX12_areAlike_44 : decode cX12_areAlike 44 = .ok (.iload 4, 2) := by decide +kernel
theorem dX12_areAlike_46 : decode cX12_areAlike 46 = .ok (.iadd, 1) := by decide +kernel
theorem dX12_areAlike_47 : decode cX12_areAlike 47 = .ok (.iaload, 1) := by decide +kernel
theorem dX12_areAlike_48 : decode cX12_areAlike 48 = .ok (.if_icmp .ne 7, 3) := by decide +kernel
theorem dX12_areAlike_51 : decode cX12_areAlike 51 = .ok (.iconst 1, 1) := by decide +kernel
theorem dX12_areAlike_52 : decode cX12_areAlike 52 = .ok (.goto 4, 3) := by decide +kernel
theorem dX12_areAlike_55 : decode cX12_areAlike 55 = .ok (.iconst 0, 1) := by decide +kernel
theorem dX12_areAlike_56 : decode cX12_areAlike 56 = .ok (.ireturn, 1) := by decide +kernel
theorem dX12_like_0 : decode cX12_like 0 = .ok (.aload_n 0, 1) := by decide +kernel
theorem dX12_like_1 : decode cX12_like 1 = .ok (.iload_n 1, 1) := by decide +kernel
theorem dX12_like_2 : decode cX12_like 2 = .ok (.invokevirtual 187, 3) := by decide +kernel
theorem dX12_like_5 : decode cX12_like 5 = .ok (.ifCond .eq 11, 3) := by decide +kernel
theorem dX12_like_8 : decode cX12_like 8 = .ok (.aload_n 0, 1) := by decide +kernel
theorem dX12_like_9 : decode cX12_like 9 = .ok (.iload_n 2, 1) := by decide +kernel
theorem dX12_like_10 : decode cX12_like 10 = .ok (.invokevirtual 187, 3) := by decide +kernel
theorem dX12_like_13 : decode cX12_like 13 = .ok (.ifCond .ne 10, 3) := by decide +kernel
theorem dX12_like_16 : decode cX12_like 16 = .ok (.aload_n 0, 1) := by decide +kernel
theorem dX12_like_17 : decode cX12_like 17 = .ok (.bipush (-2), 2) := by decide +kernel
theorem dX12_like_19 : decode cX12_like 19 = .ok (.invokevirtual 165, 3) := by decide +kernel
theorem dX12_like_22 : decode cX12_like 22 = .ok (.ireturn, 1) := by decide +kernel
theorem dX12_like_23 : decode cX12_like 23 = .ok (.aload_n 0, 1) := by decide +kernel
theorem dX12_like_24 : decode cX12_like 24 = .ok (.iload_n 1, 1) := by decide +kernel
theorem dX12_like_25 : decode cX12_like 25 = .ok (.invokevirtual 226, 3) := by decide +kernel
theorem dX12_like_28 : decode cX12_like 28 = .ok (.ifCond .le 9, 3) := by decide +kernel
theorem dX12_like_31 : decode cX12_like 31 = .ok (.aload_n 0, 1) := by decide +kernel
theorem dX12_like_32 : decode cX12_like 32 = .ok (.iconst 3, 1) := by decide +kernel
theorem dX12_like_33 : decode cX12_like 33 = .ok (.invokevirtual 200, 3) := by decide +kernel
theorem dX12_like_36 : decode cX12_like 36 = .ok (.ireturn, 1) := by decide +kernel
theorem dX12_like_37 : decode cX12_like 37 = .ok (.aload_n 0, 1) := by decide +kernel
theorem dX12_like_38 : decode cX12_like 38 = .ok (.iload_n 1, 1) := by decide +kernel
theorem dX12_like_39 : decode cX12_like 39 = .ok (.aload_n 0, 1) := by decide +kernel
theorem dX12_like_40 : decode cX12_like 40 = .ok (.getfield 134, 3) := by decide +kernel
theorem dX12_like_43 : decode cX12_like 43 = .ok (.iconst 0, 1) := by decide +kernel
theorem dX12_like_44 : decode cX12_like 44 = .ok (.invokevirtual 412, 3) := by decide +kernel
theorem dX12_like_47 : decode cX12_like 47 = .ok (.aload_n 0, 1) := by decide +kernel
theorem dX12_like_48 : decode cX12_like 48 = .ok (.iload_n 2, 1) := by decide +kernel
theorem dX12_like_49 : decode cX12_like 49 = .ok (.invokevirtual 226, 3) := by decide +kernel
theorem dX12_like_52 : decode cX12_like 52 = .ok (.ifCond .le 9, 3) := by decide +kernel
theorem dX12_like_55 : decode cX12_like 55 = .ok (.aload_n 0, 1) := by decide +kernel
theorem dX12_like_56 : decode cX12_like 56 = .ok (.iconst 3, 1) := by decide +kernel
theorem dX12_like_57 : decode cX12_like 57 = .ok (.invokevirtual 200, 3) := by decide +kernel
theorem dX12_like_60 : decode cX12_like 60 = .ok (.ireturn, 1) := by decide +kernel
theorem dX12_like_61 : decode cX12_like 61 = .ok (.aload_n 0, 1) := by decide +kernel
theorem dX12_like_62 : decode cX12_like 62 = .ok (.iload_n 2, 1) := by decide +kernel
theorem dX12_like_63 : decode cX12_like 63 = .ok (.aload_n 0, 1) := by decide +kernel
theorem dX12_like_64 : decode cX12_like 64 = .ok (.getfield 137, 3) := by decide +kernel
theorem dX12_like_67 : decode cX12_like 67 = .ok (.iconst 0, 1) := by decide +kernel
theorem dX12_like_68 : decode cX12_like 68 = .ok (.invokevirtual 412, 3) := by decide +kernel
theorem dX12_like_71 : decode cX12_like 71 = .ok (.aload_n 0, 1) := by decide +kernel
theorem dX12_like_72 : decode cX12_like 72 = .ok (.aload_n 0, 1) := by decide +kernel
theorem dX12_like_73 : decode cX12_like 73 = .ok (.getfield 134, 3) := by decide +kernel
theorem dX12_like_76 : decode cX12_like 76 = .ok (.iconst 0, 1) := by decide +kernel
theorem dX12_like_77 : decode cX12_like 77 = .ok (.aload_n 0, 1) := by decide +kernel
theorem dX12_like_78 : decode cX12_like 78 = .ok (.getfield 137, 3) := by decide +kernel
theorem dX12_like_81 : decode cX12_like 81 = .ok (.iconst 0, 1) := by decide +kernel
theorem dX12_like_82 : decode cX12_like 82 = .ok (.invokestatic 416, 3) := by decide +kernel
theorem dX12_like_85 : decode cX12_like 85 = .ok (.ifCond .eq 7, 3) := by decide +kernel
theorem dX12_like_88 : decode cX12_like 88 = .ok (.iconst 1, 1) := by decide +kernel
theorem dX12_like_89 : decode cX12_like 89 = .ok (.goto 4, 3) := by decide +kernel
theorem dX12_like_92 : decode cX12_like 92 = .ok (.iconst 0, 1) := by decide +kernel
theorem dX12_like_93 : decode cX12_like 93 = .ok (.invokevirtual 180, 3) := by decide +kernel
theorem dX12_like_96 : decode cX12_like 96 = .ok (.ireturn, 1) := by decide +kernel
theorem dX12_beginSearch_0 : decode cX12_beginSearch 0 = .ok (.aload_n 0, 1) := by decide +kernel
theorem dX12_beginSearch_1 : decode cX12_beginSearch 1 = .ok (.iconst 1, 1) := by decide +kernel
theorem dX12_beginSearch_2 : decode cX12_beginSearch 2 = .ok (.putfield 420, 3) := by decide +kernel
theorem dX12_beginSearch_5 : decode cX12_beginSearch 5 = .ok (.aload_n 0, 1) := by decide +kernel
theorem dX12_beginSearch_6 : decode cX12_beginSearch 6 = .ok (.iconst 0, 1) := by decide +kernel
theorem dX12_beginSearch_7 : decode cX12_beginSearch 7 = .ok (.putfield 423, 3) := by decide +kernel
theorem dX12_beginSearch_10 : decode cX12_beginSearch 10 = .ok (.aload_n 0, 1) := by decide +kernel
theorem dX12_beginSearch_11 : decode cX12_beginSearch 11 = .ok (.iconst 1, 1) := by decide +kernel
theorem dX12_beginSearch_12 : decode cX12_beginSearch 12 = .ok (.putfield 426, 3) := by decide +kernel
theorem dX12_beginSearch_15 : decode cX12_beginSearch 15 = .ok (.aload_n 0, 1) := by decide +kernel
theorem dX12_beginSearch_16 : decode cX12_beginSearch 16 = .ok (.iconst 0, 1) := by decide +kernel
theorem dX12_beginSearch_17 : decode cX12_beginSearch 17 = .ok (.putfield 429, 3) := by decide +kernel
theorem dX12_beginSearch_20 : decode cX12_beginSearch 20 = .ok (.aload_n 0, 1) := by decide +kernel
theorem dX12_beginSearch_21 : decode cX12_beginSearch 21 = .ok (.iconst 0, 1) := by decide +kernel
theorem dX12_beginSearch_22 : decode cX12_beginSearch 22 = .ok (.putfield 432, 3) := by decide +kernel
theorem dX12_beginSearch_25 : decode cX12_beginSearch 25 = .ok (.aload_n 0, 1) := by decide +kernel
theorem dX12_beginSearch_26 : decode cX12_beginSearch 26 = .ok (.iconst 0, 1) := by decide +kernel
theorem dX12_beginSearch_27 : decode cX12_beginSearch 27 = .ok (.putfield 435, 3) := by decide +kernel
theorem dX12_beginSearch_30 : decode cX12_beginSearch 30 = .ok (.aload_n 0, 1) := by decide +kernel
theorem dX12_beginSearch_31 : decode cX12_beginSearch 31 = .ok (.getfield 140, 3) := by decide +kernel
theorem dX12_beginSearch_34 : decode cX12_beginSearch 34 = .ok (.iconst 0, 1) := by decide +kernel
theorem dX12_beginSearch_35 : decode cX12_beginSearch 35 = .ok (.iconst (-1), 1) := by decide +kernel
theorem dX12_beginSearch_36 : decode cX12_beginSearch 36 = .ok (.iastore, 1) := by decide +kernel
theorem dX12_beginSearch_37 : decode cX12_beginSearch 37 = .ok (.aload_n 0, 1) := by decide +kernel
theorem dX12_beginSearch_38 : decode cX12_beginSearch 38 = .ok (.iload_n 1, 1) := by decide +kernel
theorem dX12_beginSearch_39 : decode cX12_beginSearch 39 = .ok (.sipush 264, 3) := by decide +kernel
theorem dX12_beginSearch_42 : decode cX12_beginSearch 42 = .ok (.invokevirtual 176, 3) := by decide +kernel
theorem dX12_beginSearch_45 : decode cX12_beginSearch 45 = .ok (.aload_n 0, 1) := by decide +kernel
theorem dX12_beginSearch_46 : decode cX12_beginSearch 46 = .ok (.sipush 264, 3) := by decide +kernel
theorem dX12_beginSearch_49 : decode cX12_beginSearch 49 = .ok (.invokevirtual 216, 3) := by decide +kernel
theorem dX12_beginSearch_52 : decode cX12_beginSearch 52 = .ok (.aload_n 0, 1) := by decide +kernel
theorem dX12_beginSearch_53 : decode cX12_beginSearch 53 = .ok (.sipush 264, 3) := by decide +kernel
theorem dX12_beginSearch_56 : decode cX12_beginSearch 56 = .ok (.aload_n 0, 1) := by decide +kernel
theorem dX12_beginSearch_57 : decode cX12_beginSearch 57 = .ok (.getfield 146, 3) := by decide +kernel
theorem dX12_beginSearch_60 : decode cX12_beginSearch 60 = .ok (.iconst 0, 1) := by decide +kernel
theorem dX12_beginSearch_61 : decode cX12_beginSearch 61 = .ok (.invokevirtual 412, 3) := by decide +kernel
theorem dX12_beginSearch_64 : decode cX12_beginSearch 64 = .ok (.return_, 1) := by decide +kernel
theorem dX12_stepped_0 : decode cX12_stepped 0 = .ok (.aload_n 0, 1) := by decide +kernel
theorem dX12_stepped_1 : decode cX12_stepped 1 = .ok (.sipush 364, 3) := by decide +kernel
theorem dX12_stepped_4 : decode cX12_stepped 4 = .ok (.invokevirtual 216, 3) := by decide +kernel
theorem dX12_stepped_7 : decode cX12_stepped 7 = .ok (.iload_n 1, 1) := by decide +kernel
theorem dX12_stepped_8 : decode cX12_stepped 8 = .ok (.iconst 3, 1) := by decide +kernel
theorem dX12_stepped_9 : decode cX12_stepped 9 = .ok (.idiv, 1) := by decide +kernel
theorem dX12_stepped_10 : decode cX12_stepped 10 = .ok (.istore_n 2, 1) := by decide +kernel
theorem dX12_stepped_11 : decode cX12_stepped 11 = .ok (.iload_n 1, 1) := by decide +kernel
theorem dX12_stepped_12 : decode cX12_stepped 12 = .ok (.iconst 3, 1) := by decide +kernel
theorem dX12_stepped_13 : decode cX12_stepped 13 = .ok (.irem, 1) := by decide +kernel
theorem dX12_stepped_14 : decode cX12_stepped 14 = .ok (.ifCond .ne 11, 3) := by decide +kernel
theorem dX12_stepped_17 : decode cX12_stepped 17 = .ok (.aload_n 0, 1) := by decide +kernel
theorem dX12_stepped_18 : decode cX12_stepped 18 = .ok (.iload_n 2, 1) := by decide +kernel
theorem dX12_stepped_19 : decode cX12_stepped 19 = .ok (.invokevirtual 359, 3) := by decide +kernel
theorem dX12_stepped_22 : decode cX12_stepped 22 = .ok (.goto 23, 3) := by decide +kernel
theorem dX12_stepped_25 : decode cX12_stepped 25 = .ok (.iload_n 1, 1) := by decide +kernel
theorem dX12_stepped_26 : decode cX12_stepped 26 = .ok (.iconst 3, 1) := by decide +kernel
theorem dX12_stepped_27 : decode cX12_stepped 27 = .ok (.irem, 1) := by decide +kernel
theorem dX12_stepped_28 : decode cX12_stepped 28 = .ok (.iconst 1, 1) := by decide +kernel
theorem dX12_stepped_29 : decode cX12_stepped 29 = .ok (.if_icmp .ne 11, 3) := by decide +kernel
theorem dX12_stepped_32 : decode cX12_stepped 32 = .ok (.aload_n 0, 1) := by decide +kernel
theorem dX12_stepped_33 : decode cX12_stepped 33 = .ok (.iload_n 2, 1) := by decide +kernel
theorem dX12_stepped_34 : decode cX12_stepped 34 = .ok (.invokevirtual 362, 3) := by decide +kernel
theorem dX12_stepped_37 : decode cX12_stepped 37 = .ok (.goto 8, 3) := by decide +kernel
theorem dX12_stepped_40 : decode cX12_stepped 40 = .ok (.aload_n 0, 1) := by decide +kernel
theorem dX12_stepped_41 : decode cX12_stepped 41 = .ok (.iload_n 2, 1) := by decide +kernel
theorem dX12_stepped_42 : decode cX12_stepped 42 = .ok (.invokevirtual 347, 3) := by decide +kernel
theorem dX12_stepped_45 : decode cX12_stepped 45 = .ok (.ireturn, 1) := by decide +kernel
theorem dX12_kept_0 : decode cX12_kept 0 = .ok (.aload_n 0, 1) := by decide +kernel
theorem dX12_kept_1 : decode cX12_kept 1 = .ok (.sipush 364, 3) := by decide +kernel
theorem dX12_kept_4 : decode cX12_kept 4 = .ok (.invokevirtual 216, 3) := by decide +kernel
theorem dX12_kept_7 : decode cX12_kept 7 = .ok (.aload_n 0, 1) := by decide +kernel
theorem dX12_kept_8 : decode cX12_kept 8 = .ok (.sipush 364, 3) := by decide +kernel
theorem dX12_kept_11 : decode cX12_kept 11 = .ok (.aload_n 0, 1) := by decide +kernel
theorem dX12_kept_12 : decode cX12_kept 12 = .ok (.getfield 134, 3) := by decide +kernel
theorem dX12_kept_15 : decode cX12_kept 15 = .ok (.iconst 0, 1) := by decide +kernel
theorem dX12_kept_16 : decode cX12_kept 16 = .ok (.invokevirtual 412, 3) := by decide +kernel
theorem dX12_kept_19 : decode cX12_kept 19 = .ok (.iconst 0, 1) := by decide +kernel
theorem dX12_kept_20 : decode cX12_kept 20 = .ok (.istore_n 2, 1) := by decide +kernel
theorem dX12_kept_21 : decode cX12_kept 21 = .ok (.iload_n 2, 1) := by decide +kernel
theorem dX12_kept_22 : decode cX12_kept 22 = .ok (.aload_n 0, 1) := by decide +kernel
theorem dX12_kept_23 : decode cX12_kept 23 = .ok (.getfield 426, 3) := by decide +kernel
theorem dX12_kept_26 : decode cX12_kept 26 = .ok (.if_icmp .ge 30, 3) := by decide +kernel
theorem dX12_kept_29 : decode cX12_kept 29 = .ok (.aload_n 0, 1) := by decide +kernel
theorem dX12_kept_30 : decode cX12_kept 30 = .ok (.getfield 134, 3) := by decide +kernel
theorem dX12_kept_33 : decode cX12_kept 33 = .ok (.iconst 0, 1) := by decide +kernel
theorem dX12_kept_34 : decode cX12_kept 34 = .ok (.aload_n 0, 1) := by decide +kernel
theorem dX12_kept_35 : decode cX12_kept 35 = .ok (.getfield 146, 3) := by decide +kernel
theorem dX12_kept_38 : decode cX12_kept 38 = .ok (.bipush 70, 2) := by decide +kernel
theorem dX12_kept_40 : decode cX12_kept 40 = .ok (.iload_n 2, 1) := by decide +kernel
theorem dX12_kept_41 : decode cX12_kept 41 = .ok (.imul, 1) := by decide +kernel
theorem dX12_kept_42 : decode cX12_kept 42 = .ok (.invokestatic 416, 3) := by decide +kernel
theorem dX12_kept_45 : decode cX12_kept 45 = .ok (.ifCond .eq 5, 3) := by decide +kernel
theorem dX12_kept_48 : decode cX12_kept 48 = .ok (.iconst 0, 1) := by decide +kernel
theorem dX12_kept_49 : decode cX12_kept 49 = .ok (.ireturn, 1) := by decide +kernel
theorem dX12_kept_50 : decode cX12_kept 50 = .ok (.iinc 2 1, 3) := by decide +kernel
theorem dX12_kept_53 : decode cX12_kept 53 = .ok (.goto (-32), 3) := by decide +kernel
theorem dX12_kept_56 : decode cX12_kept 56 = .ok (.aload_n 0, 1) := by decide +kernel
theorem dX12_kept_57 : decode cX12_kept 57 = .ok (.getfield 426, 3) := by decide +kernel
theorem dX12_kept_60 : decode cX12_kept 60 = .ok (.bipush 100, 2) := by decide +kernel
theorem dX12_kept_62 : decode cX12_kept 62 = .ok (.if_icmp .ne 5, 3) := by decide +kernel
theorem dX12_kept_65 : decode cX12_kept 65 = .ok (.iconst 0, 1) := by decide +kernel
theorem dX12_kept_66 : decode cX12_kept 66 = .ok (.ireturn, 1) := by decide +kernel
theorem dX12_kept_67 : decode cX12_kept 67 = .ok (.aload_n 0, 1) := by decide +kernel
theorem dX12_kept_68 : decode cX12_kept 68 = .ok (.sipush 364, 3) := by decide +kernel
theorem dX12_kept_71 : decode cX12_kept 71 = .ok (.sipush 264, 3) := by decide +kernel
theorem dX12_kept_74 : decode cX12_kept 74 = .ok (.aload_n 0, 1) := by decide +kernel
theorem dX12_kept_75 : decode cX12_kept 75 = .ok (.getfield 426, 3) := by decide +kernel
theorem dX12_kept_78 : decode cX12_kept 78 = .ok (.iadd, 1) := by decide +kernel
theorem dX12_kept_79 : decode cX12_kept 79 = .ok (.invokevirtual 176, 3) := by decide +kernel
theorem dX12_kept_82 : decode cX12_kept 82 = .ok (.aload_n 0, 1) := by decide +kernel
theorem dX12_kept_83 : decode cX12_kept 83 = .ok (.sipush 364, 3) := by decide +kernel
theorem dX12_kept_86 : decode cX12_kept 86 = .ok (.aload_n 0, 1) := by decide +kernel
theorem dX12_kept_87 : decode cX12_kept 87 = .ok (.getfield 146, 3) := by decide +kernel
theorem dX12_kept_90 : decode cX12_kept 90 = .ok (.bipush 70, 2) := by decide +kernel
theorem dX12_kept_92 : decode cX12_kept 92 = .ok (.aload_n 0, 1) := by decide +kernel
theorem dX12_kept_93 : decode cX12_kept 93 = .ok (.getfield 426, 3) := by decide +kernel
theorem dX12_kept_96 : decode cX12_kept 96 = .ok (.imul, 1) := by decide +kernel
theorem dX12_kept_97 : decode cX12_kept 97 = .ok (.invokevirtual 412, 3) := by decide +kernel
theorem dX12_kept_100 : decode cX12_kept 100 = .ok (.aload_n 0, 1) := by decide +kernel
theorem dX12_kept_101 : decode cX12_kept 101 = .ok (.getfield 140, 3) := by decide +kernel
theorem dX12_kept_104 : decode cX12_kept 104 = .ok (.aload_n 0, 1) := by decide +kernel
theorem dX12_kept_105 : decode cX12_kept 105 = .ok (.getfield 426, 3) := by decide +kernel
theorem dX12_kept_108 : decode cX12_kept 108 = .ok (.aload_n 0, 1) := by decide +kernel
theorem dX12_kept_109 : decode cX12_kept 109 = .ok (.getfield 429, 3) := by decide +kernel
theorem dX12_kept_112 : decode cX12_kept 112 = .ok (.iastore, 1) := by decide +kernel
theorem dX12_kept_113 : decode cX12_kept 113 = .ok (.aload_n 0, 1) := by decide +kernel
theorem dX12_kept_114 : decode cX12_kept 114 = .ok (.getfield 143, 3) := by decide +kernel
theorem dX12_kept_117 : decode cX12_kept 117 = .ok (.aload_n 0, 1) := by decide +kernel
theorem dX12_kept_118 : decode cX12_kept 118 = .ok (.getfield 426, 3) := by decide +kernel
theorem dX12_kept_121 : decode cX12_kept 121 = .ok (.iload_n 1, 1) := by decide +kernel
theorem dX12_kept_122 : decode cX12_kept 122 = .ok (.iastore, 1) := by decide +kernel
theorem dX12_kept_123 : decode cX12_kept 123 = .ok (.aload_n 0, 1) := by decide +kernel
theorem dX12_kept_124 : decode cX12_kept 124 = .ok (.dup, 1) := by decide +kernel
theorem dX12_kept_125 : decode cX12_kept 125 = .ok (.getfield 426, 3) := by decide +kernel
theorem dX12_kept_128 : decode cX12_kept 128 = .ok (.iconst 1, 1) := by decide +kernel
theorem dX12_kept_129 : decode cX12_kept 129 = .ok (.iadd, 1) := by decide +kernel
theorem dX12_kept_130 : decode cX12_kept 130 = .ok (.putfield 426, 3) := by decide +kernel
theorem dX12_kept_133 : decode cX12_kept 133 = .ok (.iconst 1, 1) := by decide +kernel
theorem dX12_kept_134 : decode cX12_kept 134 = .ok (.ireturn, 1) := by decide +kernel
theorem dX12_goes_0 : decode cX12_goes 0 = .ok (.iconst 0, 1) := by decide +kernel
theorem dX12_goes_1 : decode cX12_goes 1 = .ok (.istore_n 3, 1) := by decide +kernel
theorem dX12_goes_2 : decode cX12_goes 2 = .ok (.iconst 0, 1) := by decide +kernel
theorem dX12_goes_3 : decode cX12_goes 3 = .ok (.istore 4, 2) := by decide +kernel
theorem dX12_goes_5 : decode cX12_goes 5 = .ok (.iload_n 3, 1) := by decide +kernel
theorem dX12_goes_6 : decode cX12_goes 6 = .ok (.iload_n 1, 1) := by decide +kernel
theorem dX12_goes_7 : decode cX12_goes 7 = .ok (.if_icmp .ge 176, 3) := by decide +kernel
theorem dX12_goes_10 : decode cX12_goes 10 = .ok (.aload_n 0, 1) := by decide +kernel
theorem dX12_goes_11 : decode cX12_goes 11 = .ok (.getfield 423, 3) := by decide +kernel
theorem dX12_goes_14 : decode cX12_goes 14 = .ok (.ifCond .ne 169, 3) := by decide +kernel
theorem dX12_goes_17 : decode cX12_goes 17 = .ok (.iload 4, 2) := by decide +kernel
theorem dX12_goes_19 : decode cX12_goes 19 = .ok (.ifCond .ne 164, 3) := by decide +kernel
theorem dX12_goes_22 : decode cX12_goes 22 = .ok (.aload_n 0, 1) := by decide +kernel
theorem dX12_goes_23 : decode cX12_goes 23 = .ok (.getfield 432, 3) := by decide +kernel
theorem dX12_goes_26 : decode cX12_goes 26 = .ok (.bipush 12, 2) := by decide +kernel
theorem dX12_goes_28 : decode cX12_goes 28 = .ok (.aload_n 0, 1) := by decide +kernel
theorem dX12_goes_29 : decode cX12_goes 29 = .ok (.getfield 13, 3) := by decide +kernel
theorem dX12_goes_32 : decode cX12_goes 32 = .ok (.sipush 264, 3) := by decide +kernel
theorem dX12_goes_35 : decode cX12_goes 35 = .ok (.aload_n 0, 1) := by decide +kernel
theorem dX12_goes_36 : decode cX12_goes 36 = .ok (.getfield 429, 3) := by decide +kernel
theorem dX12_goes_39 : decode cX12_goes 39 = .ok (.iadd, 1) := by decide +kernel
theorem dX12_goes_40 : decode cX12_goes 40 = .ok (.iaload, 1) := by decide +kernel
theorem dX12_goes_41 : decode cX12_goes 41 = .ok (.imul, 1) := by decide +kernel
theorem dX12_goes_42 : decode cX12_goes 42 = .ok (.if_icmp .ne 41, 3) := by decide +kernel
theorem dX12_goes_45 : decode cX12_goes 45 = .ok (.aload_n 0, 1) := by decide +kernel
theorem dX12_goes_46 : decode cX12_goes 46 = .ok (.dup, 1) := by decide +kernel
theorem dX12_goes_47 : decode cX12_goes 47 = .ok (.getfield 429, 3) := by decide +kernel
theorem dX12_goes_50 : decode cX12_goes 50 = .ok (.iconst 1, 1) := by decide +kernel
theorem dX12_goes_51 : decode cX12_goes 51 = .ok (.iadd, 1) := by decide +kernel
theorem dX12_goes_52 : decode cX12_goes 52 = .ok (.putfield 429, 3) := by decide +kernel
theorem dX12_goes_55 : decode cX12_goes 55 = .ok (.aload_n 0, 1) := by decide +kernel
theorem dX12_goes_56 : decode cX12_goes 56 = .ok (.iconst 0, 1) := by decide +kernel
theorem dX12_goes_57 : decode cX12_goes 57 = .ok (.putfield 432, 3) := by decide +kernel
theorem dX12_goes_60 : decode cX12_goes 60 = .ok (.aload_n 0, 1) := by decide +kernel
theorem dX12_goes_61 : decode cX12_goes 61 = .ok (.aload_n 0, 1) := by decide +kernel
theorem dX12_goes_62 : decode cX12_goes 62 = .ok (.getfield 429, 3) := by decide +kernel
theorem dX12_goes_65 : decode cX12_goes 65 = .ok (.aload_n 0, 1) := by decide +kernel
theorem dX12_goes_66 : decode cX12_goes 66 = .ok (.getfield 426, 3) := by decide +kernel
theorem dX12_goes_69 : decode cX12_goes 69 = .ok (.if_icmp .ne 7, 3) := by decide +kernel
theorem dX12_goes_72 : decode cX12_goes 72 = .ok (.iconst 1, 1) := by decide +kernel
theorem dX12_goes_73 : decode cX12_goes 73 = .ok (.goto 4, 3) := by decide +kernel
theorem dX12_goes_76 : decode cX12_goes 76 = .ok (.iconst 0, 1) := by decide +kernel
theorem dX12_goes_77 : decode cX12_goes 77 = .ok (.putfield 423, 3) := by decide +kernel
theorem dX12_goes_80 : decode cX12_goes 80 = .ok (.goto (-75), 3) := by decide +kernel
theorem dX12_goes_83 : decode cX12_goes 83 = .ok (.aload_n 0, 1) := by decide +kernel
theorem dX12_goes_84 : decode cX12_goes 84 = .ok (.getfield 432, 3) := by decide +kernel
theorem dX12_goes_87 : decode cX12_goes 87 = .ok (.istore 5, 2) := by decide +kernel
theorem dX12_goes_89 : decode cX12_goes 89 = .ok (.aload_n 0, 1) := by decide +kernel
theorem dX12_goes_90 : decode cX12_goes 90 = .ok (.dup, 1) := by decide +kernel
theorem dX12_goes_91 : decode cX12_goes 91 = .ok (.getfield 432, 3) := by decide +kernel
theorem dX12_goes_94 : decode cX12_goes 94 = .ok (.iconst 1, 1) := by decide +kernel
theorem dX12_goes_95 : decode cX12_goes 95 = .ok (.iadd, 1) := by decide +kernel
theorem dX12_goes_96 : decode cX12_goes 96 = .ok (.putfield 432, 3) := by decide +kernel
theorem dX12_goes_99 : decode cX12_goes 99 = .ok (.aload_n 0, 1) := by decide +kernel
theorem dX12_goes_100 : decode cX12_goes 100 = .ok (.sipush 264, 3) := by decide +kernel
theorem dX12_goes_103 : decode cX12_goes 103 = .ok (.aload_n 0, 1) := by decide +kernel
theorem dX12_goes_104 : decode cX12_goes 104 = .ok (.getfield 429, 3) := by decide +kernel
theorem dX12_goes_107 : decode cX12_goes 107 = .ok (.iadd, 1) := by decide +kernel
theorem dX12_goes_108 : decode cX12_goes 108 = .ok (.sipush 364, 3) := by decide +kernel
theorem dX12_goes_111 : decode cX12_goes 111 = .ok (.invokevirtual 176, 3) := by decide +kernel
theorem dX12_goes_114 : decode cX12_goes 114 = .ok (.aload_n 0, 1) := by decide +kernel
theorem dX12_goes_115 : decode cX12_goes 115 = .ok (.iload 5, 2) := by decide +kernel
theorem dX12_goes_117 : decode cX12_goes 117 = .ok (.invokevirtual 438, 3) := by decide +kernel
theorem dX12_goes_120 : decode cX12_goes 120 = .ok (.ifCond .ne 60, 3) := by decide +kernel
theorem dX12_goes_123 : decode cX12_goes 123 = .ok (.iinc 3 1, 3) := by decide +kernel
theorem dX12_goes_126 : decode cX12_goes 126 = .ok (.aload_n 0, 1) := by decide +kernel
theorem dX12_goes_127 : decode cX12_goes 127 = .ok (.dup, 1) := by decide +kernel
theorem dX12_goes_128 : decode cX12_goes 128 = .ok (.getfield 435, 3) := by decide +kernel
theorem dX12_goes_131 : decode cX12_goes 131 = .ok (.iconst 1, 1) := by decide +kernel
theorem dX12_goes_132 : decode cX12_goes 132 = .ok (.iadd, 1) := by decide +kernel
theorem dX12_goes_133 : decode cX12_goes 133 = .ok (.putfield 435, 3) := by decide +kernel
theorem dX12_goes_136 : decode cX12_goes 136 = .ok (.aload_n 0, 1) := by decide +kernel
theorem dX12_goes_137 : decode cX12_goes 137 = .ok (.iload 5, 2) := by decide +kernel
theorem dX12_goes_139 : decode cX12_goes 139 = .ok (.invokevirtual 441, 3) := by decide +kernel
theorem dX12_goes_142 : decode cX12_goes 142 = .ok (.ifCond .eq 35, 3) := by decide +kernel
theorem dX12_goes_145 : decode cX12_goes 145 = .ok (.iload_n 2, 1) := by decide +kernel
theorem dX12_goes_146 : decode cX12_goes 146 = .ok (.ifCond .eq 31, 3) := by decide +kernel
theorem dX12_goes_149 : decode cX12_goes 149 = .ok (.aload_n 0, 1) := by decide +kernel
theorem dX12_goes_150 : decode cX12_goes 150 = .ok (.getfield 146, 3) := by decide +kernel
theorem dX12_goes_153 : decode cX12_goes 153 = .ok (.bipush 70, 2) := by decide +kernel
theorem dX12_goes_155 : decode cX12_goes 155 = .ok (.aload_n 0, 1) := by decide +kernel
theorem dX12_goes_156 : decode cX12_goes 156 = .ok (.getfield 426, 3) := by decide +kernel
theorem dX12_goes_159 : decode cX12_goes 159 = .ok (.iconst 1, 1) := by decide +kernel
theorem dX12_goes_160 : decode cX12_goes 160 = .ok (.isub, 1) := by decide +kernel
theorem dX12_goes_161 : decode cX12_goes 161 = .ok (.imul, 1) := by decide +kernel
theorem dX12_goes_162 : decode cX12_goes 162 = .ok (.aload_n 0, 1) := by decide +kernel
theorem dX12_goes_163 : decode cX12_goes 163 = .ok (.getfield 137, 3) := by decide +kernel
theorem dX12_goes_166 : decode cX12_goes 166 = .ok (.iconst 0, 1) := by decide +kernel
theorem dX12_goes_167 : decode cX12_goes 167 = .ok (.invokestatic 416, 3) := by decide +kernel
theorem dX12_goes_170 : decode cX12_goes 170 = .ok (.ifCond .eq 7, 3) := by decide +kernel
theorem dX12_goes_173 : decode cX12_goes 173 = .ok (.iconst 1, 1) := by decide +kernel
theorem dX12_goes_174 : decode cX12_goes 174 = .ok (.goto 4, 3) := by decide +kernel
theorem dX12_goes_177 : decode cX12_goes 177 = .ok (.iconst 0, 1) := by decide +kernel
theorem dX12_goes_178 : decode cX12_goes 178 = .ok (.istore 4, 2) := by decide +kernel
theorem dX12_goes_180 : decode cX12_goes 180 = .ok (.goto (-175), 3) := by decide +kernel
theorem dX12_goes_183 : decode cX12_goes 183 = .ok (.iload_n 3, 1) := by decide +kernel
theorem dX12_goes_184 : decode cX12_goes 184 = .ok (.ireturn, 1) := by decide +kernel
theorem dX12_search_0 : decode cX12_search 0 = .ok (.aload_n 0, 1) := by decide +kernel
theorem dX12_search_1 : decode cX12_search 1 = .ok (.iload_n 1, 1) := by decide +kernel
theorem dX12_search_2 : decode cX12_search 2 = .ok (.invokevirtual 187, 3) := by decide +kernel
theorem dX12_search_5 : decode cX12_search 5 = .ok (.ifCond .eq 15, 3) := by decide +kernel
theorem dX12_search_8 : decode cX12_search 8 = .ok (.iload_n 2, 1) := by decide +kernel
theorem dX12_search_9 : decode cX12_search 9 = .ok (.i2l, 1) := by decide +kernel
theorem dX12_search_10 : decode cX12_search 10 = .ok (.lconst 0, 1) := by decide +kernel
theorem dX12_search_11 : decode cX12_search 11 = .ok (.ldc2_w 444, 3) := by decide +kernel
theorem dX12_search_14 : decode cX12_search 14 = .ok (.invokestatic 172, 3) := by decide +kernel
theorem dX12_search_17 : decode cX12_search 17 = .ok (.ifCond .ne 10, 3) := by decide +kernel
theorem dX12_search_20 : decode cX12_search 20 = .ok (.aload_n 0, 1) := by decide +kernel
theorem dX12_search_21 : decode cX12_search 21 = .ok (.bipush (-2), 2) := by decide +kernel
theorem dX12_search_23 : decode cX12_search 23 = .ok (.invokevirtual 165, 3) := by decide +kernel
theorem dX12_search_26 : decode cX12_search 26 = .ok (.ireturn, 1) := by decide +kernel
theorem dX12_search_27 : decode cX12_search 27 = .ok (.aload_n 0, 1) := by decide +kernel
theorem dX12_search_28 : decode cX12_search 28 = .ok (.iload_n 1, 1) := by decide +kernel
theorem dX12_search_29 : decode cX12_search 29 = .ok (.invokevirtual 226, 3) := by decide +kernel
theorem dX12_search_32 : decode cX12_search 32 = .ok (.ifCond .le 9, 3) := by decide +kernel
theorem dX12_search_35 : decode cX12_search 35 = .ok (.aload_n 0, 1) := by decide +kernel
theorem dX12_search_36 : decode cX12_search 36 = .ok (.iconst 3, 1) := by decide +kernel
theorem dX12_search_37 : decode cX12_search 37 = .ok (.invokevirtual 200, 3) := by decide +kernel
theorem dX12_search_40 : decode cX12_search 40 = .ok (.ireturn, 1) := by decide +kernel
theorem dX12_search_41 : decode cX12_search 41 = .ok (.aload_n 0, 1) := by decide +kernel
theorem dX12_search_42 : decode cX12_search 42 = .ok (.getfield 13, 3) := by decide +kernel
theorem dX12_search_45 : decode cX12_search 45 = .ok (.iload_n 1, 1) := by decide +kernel
theorem dX12_search_46 : decode cX12_search 46 = .ok (.iaload, 1) := by decide +kernel
theorem dX12_search_47 : decode cX12_search 47 = .ok (.bipush 12, 2) := by decide +kernel
theorem dX12_search_49 : decode cX12_search 49 = .ok (.if_icmp .le 10, 3) := by decide +kernel
theorem dX12_search_52 : decode cX12_search 52 = .ok (.aload_n 0, 1) := by decide +kernel
theorem dX12_search_53 : decode cX12_search 53 = .ok (.bipush 7, 2) := by decide +kernel
theorem dX12_search_55 : decode cX12_search 55 = .ok (.invokevirtual 200, 3) := by decide +kernel
theorem dX12_search_58 : decode cX12_search 58 = .ok (.ireturn, 1) := by decide +kernel
theorem dX12_search_59 : decode cX12_search 59 = .ok (.aload_n 0, 1) := by decide +kernel
theorem dX12_search_60 : decode cX12_search 60 = .ok (.iload_n 1, 1) := by decide +kernel
theorem dX12_search_61 : decode cX12_search 61 = .ok (.invokevirtual 446, 3) := by decide +kernel
theorem dX12_search_64 : decode cX12_search 64 = .ok (.aload_n 0, 1) := by decide +kernel
theorem dX12_search_65 : decode cX12_search 65 = .ok (.aload_n 0, 1) := by decide +kernel
theorem dX12_search_66 : decode cX12_search 66 = .ok (.iload_n 2, 1) := by decide +kernel
theorem dX12_search_67 : decode cX12_search 67 = .ok (.iconst 0, 1) := by decide +kernel
theorem dX12_search_68 : decode cX12_search 68 = .ok (.invokevirtual 449, 3) := by decide +kernel
theorem dX12_search_71 : decode cX12_search 71 = .ok (.invokevirtual 180, 3) := by decide +kernel
theorem dX12_search_74 : decode cX12_search 74 = .ok (.ireturn, 1) := by decide +kernel
theorem dX12_goOn_0 : decode cX12_goOn 0 = .ok (.iload_n 1, 1) := by decide +kernel
theorem dX12_goOn_1 : decode cX12_goOn 1 = .ok (.i2l, 1) := by decide +kernel
theorem dX12_goOn_2 : decode cX12_goOn 2 = .ok (.lconst 0, 1) := by decide +kernel
theorem dX12_goOn_3 : decode cX12_goOn 3 = .ok (.ldc2_w 444, 3) := by decide +kernel
theorem dX12_goOn_6 : decode cX12_goOn 6 = .ok (.invokestatic 172, 3) := by decide +kernel
theorem dX12_goOn_9 : decode cX12_goOn 9 = .ok (.ifCond .ne 10, 3) := by decide +kernel
theorem dX12_goOn_12 : decode cX12_goOn 12 = .ok (.aload_n 0, 1) := by decide +kernel
theorem dX12_goOn_13 : decode cX12_goOn 13 = .ok (.bipush (-2), 2) := by decide +kernel
theorem dX12_goOn_15 : decode cX12_goOn 15 = .ok (.invokevirtual 165, 3) := by decide +kernel
theorem dX12_goOn_18 : decode cX12_goOn 18 = .ok (.ireturn, 1) := by decide +kernel
theorem dX12_goOn_19 : decode cX12_goOn 19 = .ok (.aload_n 0, 1) := by decide +kernel
theorem dX12_goOn_20 : decode cX12_goOn 20 = .ok (.getfield 420, 3) := by decide +kernel
theorem dX12_goOn_23 : decode cX12_goOn 23 = .ok (.ifCond .eq 16, 3) := by decide +kernel
theorem dX12_goOn_26 : decode cX12_goOn 26 = .ok (.aload_n 0, 1) := by decide +kernel
theorem dX12_goOn_27 : decode cX12_goOn 27 = .ok (.aload_n 0, 1) := by decide +kernel
theorem dX12_goOn_28 : decode cX12_goOn 28 = .ok (.iload_n 1, 1) := by decide +kernel
theorem dX12_goOn_29 : decode cX12_goOn 29 = .ok (.iconst 0, 1) := by decide +kernel
theorem dX12_goOn_30 : decode cX12_goOn 30 = .ok (.invokevirtual 449, 3) := by decide +kernel
theorem dX12_goOn_33 : decode cX12_goOn 33 = .ok (.invokevirtual 180, 3) := by decide +kernel
theorem dX12_goOn_36 : decode cX12_goOn 36 = .ok (.goto 8, 3) := by decide +kernel
theorem dX12_goOn_39 : decode cX12_goOn 39 = .ok (.aload_n 0, 1) := by decide +kernel
theorem dX12_goOn_40 : decode cX12_goOn 40 = .ok (.iconst 5, 1) := by decide +kernel
theorem dX12_goOn_41 : decode cX12_goOn 41 = .ok (.invokevirtual 200, 3) := by decide +kernel
theorem dX12_goOn_44 : decode cX12_goOn 44 = .ok (.ireturn, 1) := by decide +kernel
theorem dX12_fewest_0 : decode cX12_fewest 0 = .ok (.iconst 0, 1) := by decide +kernel
theorem dX12_fewest_1 : decode cX12_fewest 1 = .ok (.istore_n 1, 1) := by decide +kernel
theorem dX12_fewest_2 : decode cX12_fewest 2 = .ok (.iconst 1, 1) := by decide +kernel
theorem dX12_fewest_3 : decode cX12_fewest 3 = .ok (.istore_n 2, 1) := by decide +kernel
theorem dX12_fewest_4 : decode cX12_fewest 4 = .ok (.iload_n 2, 1) := by decide +kernel
theorem dX12_fewest_5 : decode cX12_fewest 5 = .ok (.aload_n 0, 1) := by decide +kernel
theorem dX12_fewest_6 : decode cX12_fewest 6 = .ok (.getfield 426, 3) := by decide +kernel
theorem dX12_fewest_9 : decode cX12_fewest 9 = .ok (.if_icmp .ge 38, 3) := by decide +kernel
theorem dX12_fewest_12 : decode cX12_fewest 12 = .ok (.aload_n 0, 1) := by decide +kernel
theorem dX12_fewest_13 : decode cX12_fewest 13 = .ok (.getfield 13, 3) := by decide +kernel
theorem dX12_fewest_16 : decode cX12_fewest 16 = .ok (.sipush 264, 3) := by decide +kernel
theorem dX12_fewest_19 : decode cX12_fewest 19 = .ok (.iload_n 2, 1) := by decide +kernel
theorem dX12_fewest_20 : decode cX12_fewest 20 = .ok (.iadd, 1) := by decide +kernel
theorem dX12_fewest_21 : decode cX12_fewest 21 = .ok (.iaload, 1) := by decide +kernel
theorem dX12_fewest_22 : decode cX12_fewest 22 = .ok (.aload_n 0, 1) := by decide +kernel
theorem dX12_fewest_23 : decode cX12_fewest 23 = .ok (.getfield 13, 3) := by decide +kernel
theorem dX12_fewest_26 : decode cX12_fewest 26 = .ok (.sipush 264, 3) := by decide +kernel
theorem dX12_fewest_29 : decode cX12_fewest 29 = .ok (.iload_n 1, 1) := by decide +kernel
theorem dX12_fewest_30 : decode cX12_fewest 30 = .ok (.iadd, 1) := by decide +kernel
theorem dX12_fewest_31 : decode cX12_fewest 31 = .ok (.iaload, 1) := by decide +kernel
theorem dX12_fewest_32 : decode cX12_fewest 32 = .ok (.if_icmp .ge 7, 3) := by decide +kernel
theorem dX12_fewest_35 : decode cX12_fewest 35 = .ok (.iload_n 2, 1) := by decide +kernel
theorem dX12_fewest_36 : decode cX12_fewest 36 = .ok (.goto 4, 3) := by decide +kernel
theorem dX12_fewest_39 : decode cX12_fewest 39 = .ok (.iload_n 1, 1) := by decide +kernel
theorem dX12_fewest_40 : decode cX12_fewest 40 = .ok (.istore_n 1, 1) := by decide +kernel
theorem dX12_fewest_41 : decode cX12_fewest 41 = .ok (.iinc 2 1, 3) := by decide +kernel
theorem dX12_fewest_44 : decode cX12_fewest 44 = .ok (.goto (-40), 3) := by decide +kernel
theorem dX12_fewest_47 : decode cX12_fewest 47 = .ok (.iload_n 1, 1) := by decide +kernel
theorem dX12_fewest_48 : decode cX12_fewest 48 = .ok (.ireturn, 1) := by decide +kernel
theorem dX12_searched_0 : decode cX12_searched 0 = .ok (.iload_n 1, 1) := by decide +kernel
theorem dX12_searched_1 : decode cX12_searched 1 = .ok (.i2l, 1) := by decide +kernel
theorem dX12_searched_2 : decode cX12_searched 2 = .ok (.lconst 0, 1) := by decide +kernel
theorem dX12_searched_3 : decode cX12_searched 3 = .ok (.ldc2_w 305, 3) := by decide +kernel
theorem dX12_searched_6 : decode cX12_searched 6 = .ok (.invokestatic 172, 3) := by decide +kernel
theorem dX12_searched_9 : decode cX12_searched 9 = .ok (.ifCond .ne 10, 3) := by decide +kernel
theorem dX12_searched_12 : decode cX12_searched 12 = .ok (.aload_n 0, 1) := by decide +kernel
theorem dX12_searched_13 : decode cX12_searched 13 = .ok (.bipush (-2), 2) := by decide +kernel
theorem dX12_searched_15 : decode cX12_searched 15 = .ok (.invokevirtual 165, 3) := by decide +kernel
theorem dX12_searched_18 : decode cX12_searched 18 = .ok (.ireturn, 1) := by decide +kernel
theorem dX12_searched_19 : decode cX12_searched 19 = .ok (.aload_n 0, 1) := by decide +kernel
theorem dX12_searched_20 : decode cX12_searched 20 = .ok (.getfield 420, 3) := by decide +kernel
theorem dX12_searched_23 : decode cX12_searched 23 = .ok (.ifCond .ne 9, 3) := by decide +kernel
theorem dX12_searched_26 : decode cX12_searched 26 = .ok (.aload_n 0, 1) := by decide +kernel
theorem dX12_searched_27 : decode cX12_searched 27 = .ok (.iconst 5, 1) := by decide +kernel
theorem dX12_searched_28 : decode cX12_searched 28 = .ok (.invokevirtual 200, 3) := by decide +kernel
theorem dX12_searched_31 : decode cX12_searched 31 = .ok (.ireturn, 1) := by decide +kernel
theorem dX12_searched_32 : decode cX12_searched 32 = .ok (.aload_n 0, 1) := by decide +kernel
theorem dX12_searched_33 : decode cX12_searched 33 = .ok (.iload_n 1, 1) := by decide +kernel
theorem dX12_searched_34 : decode cX12_searched 34 = .ok (.ifCond .ne 18, 3) := by decide +kernel
theorem dX12_searched_37 : decode cX12_searched 37 = .ok (.aload_n 0, 1) := by decide +kernel
theorem dX12_searched_38 : decode cX12_searched 38 = .ok (.getfield 423, 3) := by decide +kernel
theorem dX12_searched_41 : decode cX12_searched 41 = .ok (.ifCond .eq 7, 3) := by decide +kernel
theorem dX12_searched_44 : decode cX12_searched 44 = .ok (.iconst 1, 1) := by decide +kernel
theorem dX12_searched_45 : decode cX12_searched 45 = .ok (.goto 44, 3) := by decide +kernel
theorem dX12_searched_48 : decode cX12_searched 48 = .ok (.iconst 0, 1) := by decide +kernel
theorem dX12_searched_49 : decode cX12_searched 49 = .ok (.goto 40, 3) := by decide +kernel
theorem dX12_searched_52 : decode cX12_searched 52 = .ok (.iload_n 1, 1) := by decide +kernel
theorem dX12_searched_53 : decode cX12_searched 53 = .ok (.iconst 1, 1) := by decide +kernel
theorem dX12_searched_54 : decode cX12_searched 54 = .ok (.if_icmp .ne 10, 3) := by decide +kernel
theorem dX12_searched_57 : decode cX12_searched 57 = .ok (.aload_n 0, 1) := by decide +kernel
theorem dX12_searched_58 : decode cX12_searched 58 = .ok (.getfield 426, 3) := by decide +kernel
theorem dX12_searched_61 : decode cX12_searched 61 = .ok (.goto 28, 3) := by decide +kernel
theorem dX12_searched_64 : decode cX12_searched 64 = .ok (.iload_n 1, 1) := by decide +kernel
theorem dX12_searched_65 : decode cX12_searched 65 = .ok (.iconst 2, 1) := by decide +kernel
theorem dX12_searched_66 : decode cX12_searched 66 = .ok (.if_icmp .ne 19, 3) := by decide +kernel
theorem dX12_searched_69 : decode cX12_searched 69 = .ok (.aload_n 0, 1) := by decide +kernel
theorem dX12_searched_70 : decode cX12_searched 70 = .ok (.getfield 13, 3) := by decide +kernel
theorem dX12_searched_73 : decode cX12_searched 73 = .ok (.sipush 264, 3) := by decide +kernel
theorem dX12_searched_76 : decode cX12_searched 76 = .ok (.aload_n 0, 1) := by decide +kernel
theorem dX12_searched_77 : decode cX12_searched 77 = .ok (.invokevirtual 452, 3) := by decide +kernel
theorem dX12_searched_80 : decode cX12_searched 80 = .ok (.iadd, 1) := by decide +kernel
theorem dX12_searched_81 : decode cX12_searched 81 = .ok (.iaload, 1) := by decide +kernel
theorem dX12_searched_82 : decode cX12_searched 82 = .ok (.goto 7, 3) := by decide +kernel
theorem dX12_searched_85 : decode cX12_searched 85 = .ok (.aload_n 0, 1) := by decide +kernel
theorem dX12_searched_86 : decode cX12_searched 86 = .ok (.getfield 435, 3) := by decide +kernel
theorem dX12_searched_89 : decode cX12_searched 89 = .ok (.invokevirtual 180, 3) := by decide +kernel
theorem dX12_searched_92 : decode cX12_searched 92 = .ok (.ireturn, 1) := by decide +kernel
theorem dX12_waysTo_0 : decode cX12_waysTo 0 = .ok (.aload_n 0, 1) := by decide +kernel
theorem dX12_waysTo_1 : decode cX12_waysTo 1 = .ok (.iconst 0, 1) := by decide +kernel
theorem dX12_waysTo_2 : decode cX12_waysTo 2 = .ok (.putfield 455, 3) := by decide +kernel
theorem dX12_waysTo_5 : decode cX12_waysTo 5 = .ok (.iload_n 1, 1) := by decide +kernel
theorem dX12_waysTo_6 : decode cX12_waysTo 6 = .ok (.istore_n 2, 1) := by decide +kernel
theorem dX12_waysTo_7 : decode cX12_waysTo 7 = .ok (.iload_n 2, 1) := by decide +kernel
theorem dX12_waysTo_8 : decode cX12_waysTo 8 = .ok (.ifCond .le 23, 3) := by decide +kernel
theorem dX12_waysTo_11 : decode cX12_waysTo 11 = .ok (.aload_n 0, 1) := by decide +kernel
theorem dX12_waysTo_12 : decode cX12_waysTo 12 = .ok (.dup, 1) := by decide +kernel
theorem dX12_waysTo_13 : decode cX12_waysTo 13 = .ok (.getfield 455, 3) := by decide +kernel
theorem dX12_waysTo_16 : decode cX12_waysTo 16 = .ok (.iconst 1, 1) := by decide +kernel
theorem dX12_waysTo_17 : decode cX12_waysTo 17 = .ok (.iadd, 1) := by decide +kernel
theorem dX12_waysTo_18 : decode cX12_waysTo 18 = .ok (.putfield 455, 3) := by decide +kernel
theorem dX12_waysTo_21 : decode cX12_waysTo 21 = .ok (.aload_n 0, 1) := by decide +kernel
theorem dX12_waysTo_22 : decode cX12_waysTo 22 = .ok (.getfield 140, 3) := by decide +kernel
theorem dX12_waysTo_25 : decode cX12_waysTo 25 = .ok (.iload_n 2, 1) := by decide +kernel
theorem dX12_waysTo_26 : decode cX12_waysTo 26 = .ok (.iaload, 1) := by decide +kernel
theorem dX12_waysTo_27 : decode cX12_waysTo 27 = .ok (.istore_n 2, 1) := by decide +kernel
theorem dX12_waysTo_28 : decode cX12_waysTo 28 = .ok (.goto (-21), 3) := by decide +kernel
theorem dX12_waysTo_31 : decode cX12_waysTo 31 = .ok (.aload_n 0, 1) := by decide +kernel
theorem dX12_waysTo_32 : decode cX12_waysTo 32 = .ok (.getfield 455, 3) := by decide +kernel
theorem dX12_waysTo_35 : decode cX12_waysTo 35 = .ok (.istore_n 2, 1) := by decide +kernel
theorem dX12_waysTo_36 : decode cX12_waysTo 36 = .ok (.iload_n 1, 1) := by decide +kernel
theorem dX12_waysTo_37 : decode cX12_waysTo 37 = .ok (.istore_n 3, 1) := by decide +kernel
theorem dX12_waysTo_38 : decode cX12_waysTo 38 = .ok (.iload_n 3, 1) := by decide +kernel
theorem dX12_waysTo_39 : decode cX12_waysTo 39 = .ok (.ifCond .le 28, 3) := by decide +kernel
theorem dX12_waysTo_42 : decode cX12_waysTo 42 = .ok (.iinc 2 (-1), 3) := by decide +kernel
theorem dX12_waysTo_45 : decode cX12_waysTo 45 = .ok (.aload_n 0, 1) := by decide +kernel
theorem dX12_waysTo_46 : decode cX12_waysTo 46 = .ok (.getfield 149, 3) := by decide +kernel
theorem dX12_waysTo_49 : decode cX12_waysTo 49 = .ok (.iload_n 2, 1) := by decide +kernel
theorem dX12_waysTo_50 : decode cX12_waysTo 50 = .ok (.aload_n 0, 1) := by decide +kernel
theorem dX12_waysTo_51 : decode cX12_waysTo 51 = .ok (.getfield 143, 3) := by decide +kernel
theorem dX12_waysTo_54 : decode cX12_waysTo 54 = .ok (.iload_n 3, 1) := by decide +kernel
theorem dX12_waysTo_55 : decode cX12_waysTo 55 = .ok (.iaload, 1) := by decide +kernel
theorem dX12_waysTo_56 : decode cX12_waysTo 56 = .ok (.iastore, 1) := by decide +kernel
theorem dX12_waysTo_57 : decode cX12_waysTo 57 = .ok (.aload_n 0, 1) := by decide +kernel
theorem dX12_waysTo_58 : decode cX12_waysTo 58 = .ok (.getfield 140, 3) := by decide +kernel
theorem dX12_waysTo_61 : decode cX12_waysTo 61 = .ok (.iload_n 3, 1) := by decide +kernel
theorem dX12_waysTo_62 : decode cX12_waysTo 62 = .ok (.iaload, 1) := by decide +kernel
theorem dX12_waysTo_63 : decode cX12_waysTo 63 = .ok (.istore_n 3, 1) := by decide +kernel
theorem dX12_waysTo_64 : decode cX12_waysTo 64 = .ok (.goto (-26), 3) := by decide +kernel
theorem dX12_waysTo_67 : decode cX12_waysTo 67 = .ok (.return_, 1) := by decide +kernel
theorem dX12_fewer_0 : decode cX12_fewer 0 = .ok (.aload_n 0, 1) := by decide +kernel
theorem dX12_fewer_1 : decode cX12_fewer 1 = .ok (.getfield 169, 3) := by decide +kernel
theorem dX12_fewer_4 : decode cX12_fewer 4 = .ok (.bipush 24, 2) := by decide +kernel
theorem dX12_fewer_6 : decode cX12_fewer 6 = .ok (.if_icmp .ne 10, 3) := by decide +kernel
theorem dX12_fewer_9 : decode cX12_fewer 9 = .ok (.aload_n 0, 1) := by decide +kernel
theorem dX12_fewer_10 : decode cX12_fewer 10 = .ok (.bipush (-3), 2) := by decide +kernel
theorem dX12_fewer_12 : decode cX12_fewer 12 = .ok (.invokevirtual 165, 3) := by decide +kernel
theorem dX12_fewer_15 : decode cX12_fewer 15 = .ok (.ireturn, 1) := by decide +kernel
theorem dX12_fewer_16 : decode cX12_fewer 16 = .ok (.aload_n 0, 1) := by decide +kernel
theorem dX12_fewer_17 : decode cX12_fewer 17 = .ok (.getfield 420, 3) := by decide +kernel
theorem dX12_fewer_20 : decode cX12_fewer 20 = .ok (.ifCond .ne 9, 3) := by decide +kernel
theorem dX12_fewer_23 : decode cX12_fewer 23 = .ok (.aload_n 0, 1) := by decide +kernel
theorem dX12_fewer_24 : decode cX12_fewer 24 = .ok (.iconst 5, 1) := by decide +kernel
theorem dX12_fewer_25 : decode cX12_fewer 25 = .ok (.invokevirtual 200, 3) := by decide +kernel
theorem dX12_fewer_28 : decode cX12_fewer 28 = .ok (.ireturn, 1) := by decide +kernel
theorem dX12_fewer_29 : decode cX12_fewer 29 = .ok (.aload_n 0, 1) := by decide +kernel
theorem dX12_fewer_30 : decode cX12_fewer 30 = .ok (.invokevirtual 452, 3) := by decide +kernel
theorem dX12_fewer_33 : decode cX12_fewer 33 = .ok (.istore_n 1, 1) := by decide +kernel
theorem dX12_fewer_34 : decode cX12_fewer 34 = .ok (.aload_n 0, 1) := by decide +kernel
theorem dX12_fewer_35 : decode cX12_fewer 35 = .ok (.iload_n 1, 1) := by decide +kernel
theorem dX12_fewer_36 : decode cX12_fewer 36 = .ok (.invokevirtual 458, 3) := by decide +kernel
theorem dX12_fewer_39 : decode cX12_fewer 39 = .ok (.aload_n 0, 1) := by decide +kernel
theorem dX12_fewer_40 : decode cX12_fewer 40 = .ok (.sipush 264, 3) := by decide +kernel
theorem dX12_fewer_43 : decode cX12_fewer 43 = .ok (.iload_n 1, 1) := by decide +kernel
theorem dX12_fewer_44 : decode cX12_fewer 44 = .ok (.iadd, 1) := by decide +kernel
theorem dX12_fewer_45 : decode cX12_fewer 45 = .ok (.invokevirtual 297, 3) := by decide +kernel
theorem dX12_fewer_48 : decode cX12_fewer 48 = .ok (.ireturn, 1) := by decide +kernel
theorem dX12_partsBy_0 : decode cX12_partsBy 0 = .ok (.aload_n 0, 1) := by decide +kernel
theorem dX12_partsBy_1 : decode cX12_partsBy 1 = .ok (.iload_n 1, 1) := by decide +kernel
theorem dX12_partsBy_2 : decode cX12_partsBy 2 = .ok (.invokevirtual 216, 3) := by decide +kernel
theorem dX12_partsBy_5 : decode cX12_partsBy 5 = .ok (.aload_n 0, 1) := by decide +kernel
theorem dX12_partsBy_6 : decode cX12_partsBy 6 = .ok (.iload_n 1, 1) := by decide +kernel
theorem dX12_partsBy_7 : decode cX12_partsBy 7 = .ok (.invokevirtual 229, 3) := by decide +kernel
theorem dX12_partsBy_10 : decode cX12_partsBy 10 = .ok (.aload_n 0, 1) := by decide +kernel
theorem dX12_partsBy_11 : decode cX12_partsBy 11 = .ok (.getfield 16, 3) := by decide +kernel
theorem dX12_partsBy_14 : decode cX12_partsBy 14 = .ok (.iload_n 1, 1) := by decide +kernel
theorem dX12_partsBy_15 : decode cX12_partsBy 15 = .ok (.iaload, 1) := by decide +kernel
theorem dX12_partsBy_16 : decode cX12_partsBy 16 = .ok (.iadd, 1) := by decide +kernel
theorem dX12_partsBy_17 : decode cX12_partsBy 17 = .ok (.istore_n 3, 1) := by decide +kernel
theorem dX12_partsBy_18 : decode cX12_partsBy 18 = .ok (.iload_n 3, 1) := by decide +kernel
theorem dX12_partsBy_19 : decode cX12_partsBy 19 = .ok (.iconst 1, 1) := by decide +kernel
theorem dX12_partsBy_20 : decode cX12_partsBy 20 = .ok (.if_icmp .ne 18, 3) := by decide +kernel
theorem dX12_partsBy_23 : decode cX12_partsBy 23 = .ok (.aload_n 0, 1) := by decide +kernel
theorem dX12_partsBy_24 : decode cX12_partsBy 24 = .ok (.getfield 13, 3) := by decide +kernel
theorem dX12_partsBy_27 : decode cX12_partsBy 27 = .ok (.iload_n 1, 1) := by decide +kernel
theorem dX12_partsBy_28 : decode cX12_partsBy 28 = .ok (.iaload, 1) := by decide +kernel
theorem dX12_partsBy_29 : decode cX12_partsBy 29 = .ok (.bipush 14, 2) := by decide +kernel
theorem dX12_partsBy_31 : decode cX12_partsBy 31 = .ok (.if_icmp .gt 7, 3) := by decide +kernel
theorem dX12_partsBy_34 : decode cX12_partsBy 34 = .ok (.iconst 1, 1) := by decide +kernel
theorem dX12_partsBy_35 : decode cX12_partsBy 35 = .ok (.goto 4, 3) := by decide +kernel
theorem dX12_partsBy_38 : decode cX12_partsBy 38 = .ok (.iconst 0, 1) := by decide +kernel
theorem dX12_partsBy_39 : decode cX12_partsBy 39 = .ok (.istore 4, 2) := by decide +kernel
theorem dX12_partsBy_41 : decode cX12_partsBy 41 = .ok (.aload_n 0, 1) := by decide +kernel
theorem dX12_partsBy_42 : decode cX12_partsBy 42 = .ok (.iload_n 2, 1) := by decide +kernel
theorem dX12_partsBy_43 : decode cX12_partsBy 43 = .ok (.invokevirtual 216, 3) := by decide +kernel
theorem dX12_partsBy_46 : decode cX12_partsBy 46 = .ok (.aload_n 0, 1) := by decide +kernel
theorem dX12_partsBy_47 : decode cX12_partsBy 47 = .ok (.iload_n 2, 1) := by decide +kernel
theorem dX12_partsBy_48 : decode cX12_partsBy 48 = .ok (.invokevirtual 229, 3) := by decide +kernel
theorem dX12_partsBy_51 : decode cX12_partsBy 51 = .ok (.aload_n 0, 1) := by decide +kernel
theorem dX12_partsBy_52 : decode cX12_partsBy 52 = .ok (.getfield 16, 3) := by decide +kernel
theorem dX12_partsBy_55 : decode cX12_partsBy 55 = .ok (.iload_n 2, 1) := by decide +kernel
theorem dX12_partsBy_56 : decode cX12_partsBy 56 = .ok (.iaload, 1) := by decide +kernel
theorem dX12_partsBy_57 : decode cX12_partsBy 57 = .ok (.iadd, 1) := by decide +kernel
theorem dX12_partsBy_58 : decode cX12_partsBy 58 = .ok (.iload_n 3, 1) := by decide +kernel
theorem dX12_partsBy_59 : decode cX12_partsBy 59 = .ok (.if_icmp .eq 5, 3) := by decide +kernel
theorem dX12_partsBy_62 : decode cX12_partsBy 62 = .ok (.iconst 1, 1) := by decide +kernel
theorem dX12_partsBy_63 : decode cX12_partsBy 63 = .ok (.ireturn, 1) := by decide +kernel
theorem dX12_partsBy_64 : decode cX12_partsBy 64 = .ok (.iconst 2, 1) := by decide +kernel
theorem dX12_partsBy_65 : decode cX12_partsBy 65 = .ok (.istore 5, 2) := by decide +kernel
theorem dX12_partsBy_67 : decode cX12_partsBy 67 = .ok (.iconst 3, 1) := by decide +kernel
theorem dX12_partsBy_68 : decode cX12_partsBy 68 = .ok (.istore 6, 2) := by decide +kernel
theorem dX12_partsBy_70 : decode cX12_partsBy 70 = .ok (.iload 6, 2) := by decide +kernel
theorem dX12_partsBy_72 : decode cX12_partsBy 72 = .ok (.bipush 12, 2) := by decide +kernel
theorem dX12_partsBy_74 : decode cX12_partsBy 74 = .ok (.if_icmp .ge 46, 3) := by decide +kernel
theorem dX12_partsBy_77 : decode cX12_partsBy 77 = .ok (.aload_n 0, 1) := by decide +kernel
theorem dX12_partsBy_78 : decode cX12_partsBy 78 = .ok (.iload_n 1, 1) := by decide +kernel
theorem dX12_partsBy_79 : decode cX12_partsBy 79 = .ok (.iload 6, 2) := by decide +kernel
theorem dX12_partsBy_81 : decode cX12_partsBy 81 = .ok (.invokevirtual 247, 3) := by decide +kernel
theorem dX12_partsBy_84 : decode cX12_partsBy 84 = .ok (.aload_n 0, 1) := by decide +kernel
theorem dX12_partsBy_85 : decode cX12_partsBy 85 = .ok (.iload_n 2, 1) := by decide +kernel
theorem dX12_partsBy_86 : decode cX12_partsBy 86 = .ok (.iload 6, 2) := by decide +kernel
theorem dX12_partsBy_88 : decode cX12_partsBy 88 = .ok (.invokevirtual 247, 3) := by decide +kernel
theorem dX12_partsBy_91 : decode cX12_partsBy 91 = .ok (.if_icmp .eq 6, 3) := by decide +kernel
theorem dX12_partsBy_94 : decode cX12_partsBy 94 = .ok (.iload 5, 2) := by decide +kernel
theorem dX12_partsBy_96 : decode cX12_partsBy 96 = .ok (.ireturn, 1) := by decide +kernel
theorem dX12_partsBy_97 : decode cX12_partsBy 97 = .ok (.iinc 5 1, 3) := by decide +kernel
theorem dX12_partsBy_100 : decode cX12_partsBy 100 = .ok (.iload 6, 2) := by decide +kernel
theorem dX12_partsBy_102 : decode cX12_partsBy 102 = .ok (.iload 6, 2) := by decide +kernel
theorem dX12_partsBy_104 : decode cX12_partsBy 104 = .ok (.bipush 7, 2) := by decide +kernel
theorem dX12_partsBy_106 : decode cX12_partsBy 106 = .ok (.if_icmp .ne 7, 3) := by decide +kernel
theorem dX12_partsBy_109 : decode cX12_partsBy 109 = .ok (.iconst 4, 1) := by decide +kernel
theorem dX12_partsBy_110 : decode cX12_partsBy 110 = .ok (.goto 4, 3) := by decide +kernel
theorem dX12_partsBy_113 : decode cX12_partsBy 113 = .ok (.iconst 2, 1) := by decide +kernel
theorem dX12_partsBy_114 : decode cX12_partsBy 114 = .ok (.iadd, 1) := by decide +kernel
theorem dX12_partsBy_115 : decode cX12_partsBy 115 = .ok (.istore 6, 2) := by decide +kernel
theorem dX12_partsBy_117 : decode cX12_partsBy 117 = .ok (.goto (-47), 3) := by decide +kernel
theorem dX12_partsBy_120 : decode cX12_partsBy 120 = .ok (.iload 4, 2) := by decide +kernel
theorem dX12_partsBy_122 : decode cX12_partsBy 122 = .ok (.ifCond .eq 19, 3) := by decide +kernel
theorem dX12_partsBy_125 : decode cX12_partsBy 125 = .ok (.aload_n 0, 1) := by decide +kernel
theorem dX12_partsBy_126 : decode cX12_partsBy 126 = .ok (.getfield 13, 3) := by decide +kernel
theorem dX12_partsBy_129 : decode cX12_partsBy 129 = .ok (.iload_n 2, 1) := by decide +kernel
theorem dX12_partsBy_130 : decode cX12_partsBy 130 = .ok (.iaload, 1) := by decide +kernel
theorem dX12_partsBy_131 : decode cX12_partsBy 131 = .ok (.bipush 14, 2) := by decide +kernel
theorem dX12_partsBy_133 : decode cX12_partsBy 133 = .ok (.if_icmp .gt 8, 3) := by decide +kernel
theorem dX12_partsBy_136 : decode cX12_partsBy 136 = .ok (.bipush 6, 2) := by decide +kernel
theorem dX12_partsBy_138 : decode cX12_partsBy 138 = .ok (.goto 4, 3) := by decide +kernel
theorem dX12_partsBy_141 : decode cX12_partsBy 141 = .ok (.iconst 0, 1) := by decide +kernel
theorem dX12_partsBy_142 : decode cX12_partsBy 142 = .ok (.ireturn, 1) := by decide +kernel
theorem dX12_polynomialsPart_0 : decode cX12_polynomialsPart 0 = .ok (.aload_n 0, 1) := by decide +kernel
theorem dX12_polynomialsPart_1 : decode cX12_polynomialsPart 1 = .ok (.iload_n 1, 1) := by decide +kernel
theorem dX12_polynomialsPart_2 : decode cX12_polynomialsPart 2 = .ok (.invokevirtual 274, 3) := by decide +kernel
theorem dX12_polynomialsPart_5 : decode cX12_polynomialsPart 5 = .ok (.iconst 0, 1) := by decide +kernel
theorem dX12_polynomialsPart_6 : decode cX12_polynomialsPart 6 = .ok (.istore_n 3, 1) := by decide +kernel
theorem dX12_polynomialsPart_7 : decode cX12_polynomialsPart 7 = .ok (.iload_n 3, 1) := by decide +kernel
theorem dX12_polynomialsPart_8 : decode cX12_polynomialsPart 8 = .ok (.sipush 601, 3) := by decide +kernel
theorem dX12_polynomialsPart_11 : decode cX12_polynomialsPart 11 = .ok (.if_icmp .ge 21, 3) := by decide +kernel
theorem dX12_polynomialsPart_14 : decode cX12_polynomialsPart 14 = .ok (.aload_n 0, 1) := by decide +kernel
theorem dX12_polynomialsPart_15 : decode cX12_polynomialsPart 15 = .ok (.getfield 152, 3) := by decide +kernel
theorem dX12_polynomialsPart_18 : decode cX12_polynomialsPart 18 = .ok (.iload_n 3, 1) := by decide +kernel
theorem dX12_polynomialsPart_19 : decode cX12_polynomialsPart 19 = .ok (.aload_n 0, 1) := by decide +kernel
theorem dX12_polynomialsPart_20 : decode cX12_polynomialsPart 20 = .ok (.getfield 67, 3) := by decide +kernel
theorem dX12_polynomialsPart_23 : decode cX12_polynomialsPart 23 = .ok (.iload_n 3, 1) := by decide +kernel
theorem dX12_polynomialsPart_24 : decode cX12_polynomialsPart 24 = .ok (.laload, 1) := by decide +kernel
theorem dX12_polynomialsPart_25 : decode cX12_polynomialsPart 25 = .ok (.lastore, 1) := by decide +kernel
theorem dX12_polynomialsPart_26 : decode cX12_polynomialsPart 26 = .ok (.iinc 3 1, 3) := by decide +kernel
theorem dX12_polynomialsPart_29 : decode cX12_polynomialsPart 29 = .ok (.goto (-22), 3) := by decide +kernel
theorem dX12_polynomialsPart_32 : decode cX12_polynomialsPart 32 = .ok (.aload_n 0, 1) := by decide +kernel
theorem dX12_polynomialsPart_33 : decode cX12_polynomialsPart 33 = .ok (.iload_n 2, 1) := by decide +kernel
theorem dX12_polynomialsPart_34 : decode cX12_polynomialsPart 34 = .ok (.invokevirtual 274, 3) := by decide +kernel
theorem dX12_polynomialsPart_37 : decode cX12_polynomialsPart 37 = .ok (.iconst 0, 1) := by decide +kernel
theorem dX12_polynomialsPart_38 : decode cX12_polynomialsPart 38 = .ok (.istore_n 3, 1) := by decide +kernel
theorem dX12_polynomialsPart_39 : decode cX12_polynomialsPart 39 = .ok (.iconst 0, 1) := by decide +kernel
theorem dX12_polynomialsPart_40 : decode cX12_polynomialsPart 40 = .ok (.istore 4, 2) := by decide +kernel
theorem dX12_polynomialsPart_42 : decode cX12_polynomialsPart 42 = .ok (.iload 4, 2) := by decide +kernel
theorem dX12_polynomialsPart_44 : decode cX12_polynomialsPart 44 = .ok (.sipush 601, 3) := by decide +kernel
theorem dX12_polynomialsPart_47 : decode cX12_polynomialsPart 47 = .ok (.if_icmp .ge 35, 3) := by decide +kernel
theorem dX12_polynomialsPart_50 : decode cX12_polynomialsPart 50 = .ok (.iload_n 3, 1) := by decide +kernel
theorem dX12_polynomialsPart_51 : decode cX12_polynomialsPart 51 = .ok (.aload_n 0, 1) := by decide +kernel
theorem dX12_polynomialsPart_52 : decode cX12_polynomialsPart 52 = .ok (.getfield 152, 3) := by decide +kernel
theorem dX12_polynomialsPart_55 : decode cX12_polynomialsPart 55 = .ok (.iload 4, 2) := by decide +kernel
theorem dX12_polynomialsPart_57 : decode cX12_polynomialsPart 57 = .ok (.laload, 1) := by decide +kernel
theorem dX12_polynomialsPart_58 : decode cX12_polynomialsPart 58 = .ok (.aload_n 0, 1) := by decide +kernel
theorem dX12_polynomialsPart_59 : decode cX12_polynomialsPart 59 = .ok (.getfield 67, 3) := by decide +kernel
theorem dX12_polynomialsPart_62 : decode cX12_polynomialsPart 62 = .ok (.iload 4, 2) := by decide +kernel
theorem dX12_polynomialsPart_64 : decode cX12_polynomialsPart 64 = .ok (.laload, 1) := by decide +kernel
theorem dX12_polynomialsPart_65 : decode cX12_polynomialsPart 65 = .ok (.lcmp, 1) := by decide +kernel
theorem dX12_polynomialsPart_66 : decode cX12_polynomialsPart 66 = .ok (.ifCond .eq 7, 3) := by decide +kernel
theorem dX12_polynomialsPart_69 : decode cX12_polynomialsPart 69 = .ok (.iconst 1, 1) := by decide +kernel
theorem dX12_polynomialsPart_70 : decode cX12_polynomialsPart 70 = .ok (.goto 4, 3) := by decide +kernel
theorem dX12_polynomialsPart_73 : decode cX12_polynomialsPart 73 = .ok (.iconst 0, 1) := by decide +kernel
theorem dX12_polynomialsPart_74 : decode cX12_polynomialsPart 74 = .ok (.ior, 1) := by decide +kernel
theorem dX12_polynomialsPart_75 : decode cX12_polynomialsPart 75 = .ok (.istore_n 3, 1) := by decide +kernel
theorem dX12_polynomialsPart_76 : decode cX12_polynomialsPart 76 = .ok (.iinc 4 1, 3) := by decide +kernel
theorem dX12_polynomialsPart_79 : decode cX12_polynomialsPart 79 = .ok (.goto (-37), 3) := by decide +kernel
theorem dX12_polynomialsPart_82 : decode cX12_polynomialsPart 82 = .ok (.iload_n 3, 1) := by decide +kernel
theorem dX12_polynomialsPart_83 : decode cX12_polynomialsPart 83 = .ok (.ireturn, 1) := by decide +kernel
theorem dX12_same_0 : decode cX12_same 0 = .ok (.aload_n 0, 1) := by decide +kernel
theorem dX12_same_1 : decode cX12_same 1 = .ok (.iload_n 1, 1) := by decide +kernel
theorem dX12_same_2 : decode cX12_same 2 = .ok (.invokevirtual 187, 3) := by decide +kernel
theorem dX12_same_5 : decode cX12_same 5 = .ok (.ifCond .eq 23, 3) := by decide +kernel
theorem dX12_same_8 : decode cX12_same 8 = .ok (.aload_n 0, 1) := by decide +kernel
theorem dX12_same_9 : decode cX12_same 9 = .ok (.iload_n 2, 1) := by decide +kernel
theorem dX12_same_10 : decode cX12_same 10 = .ok (.invokevirtual 187, 3) := by decide +kernel
theorem dX12_same_13 : decode cX12_same 13 = .ok (.ifCond .eq 15, 3) := by decide +kernel
theorem dX12_same_16 : decode cX12_same 16 = .ok (.iload_n 3, 1) := by decide +kernel
theorem dX12_same_17 : decode cX12_same 17 = .ok (.i2l, 1) := by decide +kernel
theorem dX12_same_18 : decode cX12_same 18 = .ok (.lconst 0, 1) := by decide +kernel
theorem dX12_same_19 : decode cX12_same 19 = .ok (.ldc2_w 444, 3) := by decide +kernel
theorem dX12_same_22 : decode cX12_same 22 = .ok (.invokestatic 172, 3) := by decide +kernel
theorem dX12_same_25 : decode cX12_same 25 = .ok (.ifCond .ne 10, 3) := by decide +kernel
theorem dX12_same_28 : decode cX12_same 28 = .ok (.aload_n 0, 1) := by decide +kernel
theorem dX12_same_29 : decode cX12_same 29 = .ok (.bipush (-2), 2) := by decide +kernel
theorem dX12_same_31 : decode cX12_same 31 = .ok (.invokevirtual 165, 3) := by decide +kernel
theorem dX12_same_34 : decode cX12_same 34 = .ok (.ireturn, 1) := by decide +kernel
theorem dX12_same_35 : decode cX12_same 35 = .ok (.aload_n 0, 1) := by decide +kernel
theorem dX12_same_36 : decode cX12_same 36 = .ok (.iload_n 1, 1) := by decide +kernel
theorem dX12_same_37 : decode cX12_same 37 = .ok (.invokevirtual 226, 3) := by decide +kernel
theorem dX12_same_40 : decode cX12_same 40 = .ok (.ifCond .gt 11, 3) := by decide +kernel
theorem dX12_same_43 : decode cX12_same 43 = .ok (.aload_n 0, 1) := by decide +kernel
theorem dX12_same_44 : decode cX12_same 44 = .ok (.iload_n 2, 1) := by decide +kernel
theorem dX12_same_45 : decode cX12_same 45 = .ok (.invokevirtual 226, 3) := by decide +kernel
theorem dX12_same_48 : decode cX12_same 48 = .ok (.ifCond .le 9, 3) := by decide +kernel
theorem dX12_same_51 : decode cX12_same 51 = .ok (.aload_n 0, 1) := by decide +kernel
theorem dX12_same_52 : decode cX12_same 52 = .ok (.iconst 3, 1) := by decide +kernel
theorem dX12_same_53 : decode cX12_same 53 = .ok (.invokevirtual 200, 3) := by decide +kernel
theorem dX12_same_56 : decode cX12_same 56 = .ok (.ireturn, 1) := by decide +kernel
theorem dX12_same_57 : decode cX12_same 57 = .ok (.aload_n 0, 1) := by decide +kernel
theorem dX12_same_58 : decode cX12_same 58 = .ok (.getfield 13, 3) := by decide +kernel
theorem dX12_same_61 : decode cX12_same 61 = .ok (.iload_n 1, 1) := by decide +kernel
theorem dX12_same_62 : decode cX12_same 62 = .ok (.iaload, 1) := by decide +kernel
theorem dX12_same_63 : decode cX12_same 63 = .ok (.bipush 12, 2) := by decide +kernel
theorem dX12_same_65 : decode cX12_same 65 = .ok (.if_icmp .le 10, 3) := by decide +kernel
theorem dX12_same_68 : decode cX12_same 68 = .ok (.aload_n 0, 1) := by decide +kernel
theorem dX12_same_69 : decode cX12_same 69 = .ok (.bipush 7, 2) := by decide +kernel
theorem dX12_same_71 : decode cX12_same 71 = .ok (.invokevirtual 200, 3) := by decide +kernel
theorem dX12_same_74 : decode cX12_same 74 = .ok (.ireturn, 1) := by decide +kernel
theorem dX12_same_75 : decode cX12_same 75 = .ok (.aload_n 0, 1) := by decide +kernel
theorem dX12_same_76 : decode cX12_same 76 = .ok (.iload_n 1, 1) := by decide +kernel
theorem dX12_same_77 : decode cX12_same 77 = .ok (.iload_n 2, 1) := by decide +kernel
theorem dX12_same_78 : decode cX12_same 78 = .ok (.invokevirtual 461, 3) := by decide +kernel
theorem dX12_same_81 : decode cX12_same 81 = .ok (.istore 4, 2) := by decide +kernel
theorem dX12_same_83 : decode cX12_same 83 = .ok (.iload 4, 2) := by decide +kernel
theorem dX12_same_85 : decode cX12_same 85 = .ok (.bipush 6, 2) := by decide +kernel
theorem dX12_same_87 : decode cX12_same 87 = .ok (.if_icmp .ne 55, 3) := by decide +kernel
theorem dX12_same_90 : decode cX12_same 90 = .ok (.aload_n 0, 1) := by decide +kernel
theorem dX12_same_91 : decode cX12_same 91 = .ok (.getfield 250, 3) := by decide +kernel
theorem dX12_same_94 : decode cX12_same 94 = .ok (.iconst 1, 1) := by decide +kernel
theorem dX12_same_95 : decode cX12_same 95 = .ok (.aload_n 0, 1) := by decide +kernel
theorem dX12_same_96 : decode cX12_same 96 = .ok (.getfield 13, 3) := by decide +kernel
theorem dX12_same_99 : decode cX12_same 99 = .ok (.iload_n 1, 1) := by decide +kernel
theorem dX12_same_100 : decode cX12_same 100 = .ok (.iaload, 1) := by decide +kernel
theorem dX12_same_101 : decode cX12_same 101 = .ok (.ishl, 1) := by decide +kernel
theorem dX12_same_102 : decode cX12_same 102 = .ok (.iadd, 1) := by decide +kernel
theorem dX12_same_103 : decode cX12_same 103 = .ok (.iconst 1, 1) := by decide +kernel
theorem dX12_same_104 : decode cX12_same 104 = .ok (.aload_n 0, 1) := by decide +kernel
theorem dX12_same_105 : decode cX12_same 105 = .ok (.getfield 13, 3) := by decide +kernel
theorem dX12_same_108 : decode cX12_same 108 = .ok (.iload_n 2, 1) := by decide +kernel
theorem dX12_same_109 : decode cX12_same 109 = .ok (.iaload, 1) := by decide +kernel
theorem dX12_same_110 : decode cX12_same 110 = .ok (.ishl, 1) := by decide +kernel
theorem dX12_same_111 : decode cX12_same 111 = .ok (.iadd, 1) := by decide +kernel
theorem dX12_same_112 : decode cX12_same 112 = .ok (.ldc_w 262, 3) := by decide +kernel
theorem dX12_same_115 : decode cX12_same 115 = .ok (.if_icmp .le 10, 3) := by decide +kernel
theorem dX12_same_118 : decode cX12_same 118 = .ok (.aload_n 0, 1) := by decide +kernel
theorem dX12_same_119 : decode cX12_same 119 = .ok (.bipush 9, 2) := by decide +kernel
theorem dX12_same_121 : decode cX12_same 121 = .ok (.invokevirtual 200, 3) := by decide +kernel
theorem dX12_same_124 : decode cX12_same 124 = .ok (.ireturn, 1) := by decide +kernel
theorem dX12_same_125 : decode cX12_same 125 = .ok (.aload_n 0, 1) := by decide +kernel
theorem dX12_same_126 : decode cX12_same 126 = .ok (.iload_n 1, 1) := by decide +kernel
theorem dX12_same_127 : decode cX12_same 127 = .ok (.iload_n 2, 1) := by decide +kernel
theorem dX12_same_128 : decode cX12_same 128 = .ok (.invokevirtual 464, 3) := by decide +kernel
theorem dX12_same_131 : decode cX12_same 131 = .ok (.ifCond .eq 8, 3) := by decide +kernel
theorem dX12_same_134 : decode cX12_same 134 = .ok (.bipush 6, 2) := by decide +kernel
theorem dX12_same_136 : decode cX12_same 136 = .ok (.goto 4, 3) := by decide +kernel
theorem dX12_same_139 : decode cX12_same 139 = .ok (.iconst 0, 1) := by decide +kernel
theorem dX12_same_140 : decode cX12_same 140 = .ok (.istore 4, 2) := by decide +kernel
theorem dX12_same_142 : decode cX12_same 142 = .ok (.aload_n 0, 1) := by decide +kernel
theorem dX12_same_143 : decode cX12_same 143 = .ok (.iload 4, 2) := by decide +kernel
theorem dX12_same_145 : decode cX12_same 145 = .ok (.putfield 467, 3) := by decide +kernel
theorem dX12_same_148 : decode cX12_same 148 = .ok (.iload 4, 2) := by decide +kernel
theorem dX12_same_150 : decode cX12_same 150 = .ok (.ifCond .le 9, 3) := by decide +kernel
theorem dX12_same_153 : decode cX12_same 153 = .ok (.aload_n 0, 1) := by decide +kernel
theorem dX12_same_154 : decode cX12_same 154 = .ok (.iconst 0, 1) := by decide +kernel
theorem dX12_same_155 : decode cX12_same 155 = .ok (.invokevirtual 180, 3) := by decide +kernel
theorem dX12_same_158 : decode cX12_same 158 = .ok (.ireturn, 1) := by decide +kernel
theorem dX12_same_159 : decode cX12_same 159 = .ok (.aload_n 0, 1) := by decide +kernel
theorem dX12_same_160 : decode cX12_same 160 = .ok (.iload_n 2, 1) := by decide +kernel
theorem dX12_same_161 : decode cX12_same 161 = .ok (.invokevirtual 216, 3) := by decide +kernel
theorem dX12_same_164 : decode cX12_same 164 = .ok (.aload_n 0, 1) := by decide +kernel
theorem dX12_same_165 : decode cX12_same 165 = .ok (.iload_n 2, 1) := by decide +kernel
theorem dX12_same_166 : decode cX12_same 166 = .ok (.aload_n 0, 1) := by decide +kernel
theorem dX12_same_167 : decode cX12_same 167 = .ok (.getfield 137, 3) := by decide +kernel
theorem dX12_same_170 : decode cX12_same 170 = .ok (.iconst 0, 1) := by decide +kernel
theorem dX12_same_171 : decode cX12_same 171 = .ok (.invokevirtual 412, 3) := by decide +kernel
theorem dX12_same_174 : decode cX12_same 174 = .ok (.aload_n 0, 1) := by decide +kernel
theorem dX12_same_175 : decode cX12_same 175 = .ok (.iload_n 1, 1) := by decide +kernel
theorem dX12_same_176 : decode cX12_same 176 = .ok (.invokevirtual 446, 3) := by decide +kernel
theorem dX12_same_179 : decode cX12_same 179 = .ok (.aload_n 0, 1) := by decide +kernel
theorem dX12_same_180 : decode cX12_same 180 = .ok (.getfield 146, 3) := by decide +kernel
theorem dX12_same_183 : decode cX12_same 183 = .ok (.iconst 0, 1) := by decide +kernel
theorem dX12_same_184 : decode cX12_same 184 = .ok (.aload_n 0, 1) := by decide +kernel
theorem dX12_same_185 : decode cX12_same 185 = .ok (.getfield 137, 3) := by decide +kernel
theorem dX12_same_188 : decode cX12_same 188 = .ok (.iconst 0, 1) := by decide +kernel
theorem dX12_same_189 : decode cX12_same 189 = .ok (.invokestatic 416, 3) := by decide +kernel
theorem dX12_same_192 : decode cX12_same 192 = .ok (.ifCond .eq 14, 3) := by decide +kernel
theorem dX12_same_195 : decode cX12_same 195 = .ok (.aload_n 0, 1) := by decide +kernel
theorem dX12_same_196 : decode cX12_same 196 = .ok (.iconst 0, 1) := by decide +kernel
theorem dX12_same_197 : decode cX12_same 197 = .ok (.invokevirtual 458, 3) := by decide +kernel
theorem dX12_same_200 : decode cX12_same 200 = .ok (.aload_n 0, 1) := by decide +kernel
theorem dX12_same_201 : decode cX12_same 201 = .ok (.iconst 1, 1) := by decide +kernel
theorem dX12_same_202 : decode cX12_same 202 = .ok (.invokevirtual 180, 3) := by decide +kernel
theorem dX12_same_205 : decode cX12_same 205 = .ok (.ireturn, 1) := by decide +kernel
theorem dX12_same_206 : decode cX12_same 206 = .ok (.aload_n 0, 1) := by decide +kernel
theorem dX12_same_207 : decode cX12_same 207 = .ok (.iload_n 3, 1) := by decide +kernel
theorem dX12_same_208 : decode cX12_same 208 = .ok (.iconst 1, 1) := by decide +kernel
theorem dX12_same_209 : decode cX12_same 209 = .ok (.invokevirtual 449, 3) := by decide +kernel
theorem dX12_same_212 : decode cX12_same 212 = .ok (.istore 5, 2) := by decide +kernel
theorem dX12_same_214 : decode cX12_same 214 = .ok (.aload_n 0, 1) := by decide +kernel
theorem dX12_same_215 : decode cX12_same 215 = .ok (.getfield 146, 3) := by decide +kernel
theorem dX12_same_218 : decode cX12_same 218 = .ok (.bipush 70, 2) := by decide +kernel
theorem dX12_same_220 : decode cX12_same 220 = .ok (.aload_n 0, 1) := by decide +kernel
theorem dX12_same_221 : decode cX12_same 221 = .ok (.getfield 426, 3) := by decide +kernel
theorem dX12_same_224 : decode cX12_same 224 = .ok (.iconst 1, 1) := by decide +kernel
theorem dX12_same_225 : decode cX12_same 225 = .ok (.isub, 1) := by decide +kernel
theorem dX12_same_226 : decode cX12_same 226 = .ok (.imul, 1) := by decide +kernel
theorem dX12_same_227 : decode cX12_same 227 = .ok (.aload_n 0, 1) := by decide +kernel
theorem dX12_same_228 : decode cX12_same 228 = .ok (.getfield 137, 3) := by decide +kernel
theorem dX12_same_231 : decode cX12_same 231 = .ok (.iconst 0, 1) := by decide +kernel
theorem dX12_same_232 : decode cX12_same 232 = .ok (.invokestatic 416, 3) := by decide +kernel
theorem dX12_same_235 : decode cX12_same 235 = .ok (.ifCond .eq 19, 3) := by decide +kernel
theorem dX12_same_238 : decode cX12_same 238 = .ok (.aload_n 0, 1) := by decide +kernel
theorem dX12_same_239 : decode cX12_same 239 = .ok (.aload_n 0, 1) := by decide +kernel
theorem dX12_same_240 : decode cX12_same 240 = .ok (.getfield 426, 3) := by decide +kernel
theorem dX12_same_243 : decode cX12_same 243 = .ok (.iconst 1, 1) := by decide +kernel
theorem dX12_same_244 : decode cX12_same 244 = .ok (.isub, 1) := by decide +kernel
theorem dX12_same_245 : decode cX12_same 245 = .ok (.invokevirtual 458, 3) := by decide +kernel
theorem dX12_same_248 : decode cX12_same 248 = .ok (.aload_n 0, 1) := by decide +kernel
theorem dX12_same_249 : decode cX12_same 249 = .ok (.iconst 1, 1) := by decide +kernel
theorem dX12_same_250 : decode cX12_same 250 = .ok (.invokevirtual 180, 3) := by decide +kernel
theorem dX12_same_253 : decode cX12_same 253 = .ok (.ireturn, 1) := by decide +kernel
theorem dX12_same_254 : decode cX12_same 254 = .ok (.aload_n 0, 1) := by decide +kernel
theorem dX12_same_255 : decode cX12_same 255 = .ok (.iconst (-1), 1) := by decide +kernel
theorem dX12_same_256 : decode cX12_same 256 = .ok (.invokevirtual 180, 3) := by decide +kernel
theorem dX12_same_259 : decode cX12_same 259 = .ok (.ireturn, 1) := by decide +kernel
theorem dX12_parted_0 : decode cX12_parted 0 = .ok (.aload_n 0, 1) := by decide +kernel
theorem dX12_parted_1 : decode cX12_parted 1 = .ok (.getfield 467, 3) := by decide +kernel
theorem dX12_parted_4 : decode cX12_parted 4 = .ok (.ireturn, 1) := by decide +kernel
theorem dX12_way_0 : decode cX12_way 0 = .ok (.iload_n 1, 1) := by decide +kernel
theorem dX12_way_1 : decode cX12_way 1 = .ok (.i2l, 1) := by decide +kernel
theorem dX12_way_2 : decode cX12_way 2 = .ok (.lconst 0, 1) := by decide +kernel
theorem dX12_way_3 : decode cX12_way 3 = .ok (.aload_n 0, 1) := by decide +kernel
theorem dX12_way_4 : decode cX12_way 4 = .ok (.getfield 455, 3) := by decide +kernel
theorem dX12_way_7 : decode cX12_way 7 = .ok (.iconst 1, 1) := by decide +kernel
theorem dX12_way_8 : decode cX12_way 8 = .ok (.isub, 1) := by decide +kernel
theorem dX12_way_9 : decode cX12_way 9 = .ok (.i2l, 1) := by decide +kernel
theorem dX12_way_10 : decode cX12_way 10 = .ok (.invokestatic 172, 3) := by decide +kernel
theorem dX12_way_13 : decode cX12_way 13 = .ok (.ifCond .eq 12, 3) := by decide +kernel
theorem dX12_way_16 : decode cX12_way 16 = .ok (.aload_n 0, 1) := by decide +kernel
theorem dX12_way_17 : decode cX12_way 17 = .ok (.getfield 149, 3) := by decide +kernel
theorem dX12_way_20 : decode cX12_way 20 = .ok (.iload_n 1, 1) := by decide +kernel
theorem dX12_way_21 : decode cX12_way 21 = .ok (.iaload, 1) := by decide +kernel
theorem dX12_way_22 : decode cX12_way 22 = .ok (.goto 4, 3) := by decide +kernel
theorem dX12_way_25 : decode cX12_way 25 = .ok (.iconst (-1), 1) := by decide +kernel
theorem dX12_way_26 : decode cX12_way 26 = .ok (.ireturn, 1) := by decide +kernel
theorem dX12_check_0 : decode cX12_check 0 = .ok (.aload_n 0, 1) := by decide +kernel
theorem dX12_check_1 : decode cX12_check 1 = .ok (.iload_n 1, 1) := by decide +kernel
theorem dX12_check_2 : decode cX12_check 2 = .ok (.invokevirtual 187, 3) := by decide +kernel
theorem dX12_check_5 : decode cX12_check 5 = .ok (.ifCond .ne 10, 3) := by decide +kernel
theorem dX12_check_8 : decode cX12_check 8 = .ok (.aload_n 0, 1) := by decide +kernel
theorem dX12_check_9 : decode cX12_check 9 = .ok (.bipush (-2), 2) := by decide +kernel
theorem dX12_check_11 : decode cX12_check 11 = .ok (.invokevirtual 165, 3) := by decide +kernel
theorem dX12_check_14 : decode cX12_check 14 = .ok (.ireturn, 1) := by decide +kernel
theorem dX12_check_15 : decode cX12_check 15 = .ok (.aload_n 0, 1) := by decide +kernel
theorem dX12_check_16 : decode cX12_check 16 = .ok (.getfield 169, 3) := by decide +kernel
theorem dX12_check_19 : decode cX12_check 19 = .ok (.bipush 24, 2) := by decide +kernel
theorem dX12_check_21 : decode cX12_check 21 = .ok (.if_icmp .ne 10, 3) := by decide +kernel
theorem dX12_check_24 : decode cX12_check 24 = .ok (.aload_n 0, 1) := by decide +kernel
theorem dX12_check_25 : decode cX12_check 25 = .ok (.bipush (-3), 2) := by decide +kernel
theorem dX12_check_27 : decode cX12_check 27 = .ok (.invokevirtual 165, 3) := by decide +kernel
theorem dX12_check_30 : decode cX12_check 30 = .ok (.ireturn, 1) := by decide +kernel
theorem dX12_check_31 : decode cX12_check 31 = .ok (.aload_n 0, 1) := by decide +kernel
theorem dX12_check_32 : decode cX12_check 32 = .ok (.iload_n 1, 1) := by decide +kernel
theorem dX12_check_33 : decode cX12_check 33 = .ok (.invokevirtual 226, 3) := by decide +kernel
theorem dX12_check_36 : decode cX12_check 36 = .ok (.ifCond .le 9, 3) := by decide +kernel
theorem dX12_check_39 : decode cX12_check 39 = .ok (.aload_n 0, 1) := by decide +kernel
theorem dX12_check_40 : decode cX12_check 40 = .ok (.iconst 3, 1) := by decide +kernel
theorem dX12_check_41 : decode cX12_check 41 = .ok (.invokevirtual 200, 3) := by decide +kernel
theorem dX12_check_44 : decode cX12_check 44 = .ok (.ireturn, 1) := by decide +kernel
theorem dX12_check_45 : decode cX12_check 45 = .ok (.aload_n 0, 1) := by decide +kernel
theorem dX12_check_46 : decode cX12_check 46 = .ok (.iload_n 1, 1) := by decide +kernel
theorem dX12_check_47 : decode cX12_check 47 = .ok (.sipush 364, 3) := by decide +kernel
theorem dX12_check_50 : decode cX12_check 50 = .ok (.invokevirtual 176, 3) := by decide +kernel
theorem dX12_check_53 : decode cX12_check 53 = .ok (.iconst 0, 1) := by decide +kernel
theorem dX12_check_54 : decode cX12_check 54 = .ok (.istore_n 2, 1) := by decide +kernel
theorem dX12_check_55 : decode cX12_check 55 = .ok (.iload_n 2, 1) := by decide +kernel
theorem dX12_check_56 : decode cX12_check 56 = .ok (.aload_n 0, 1) := by decide +kernel
theorem dX12_check_57 : decode cX12_check 57 = .ok (.getfield 455, 3) := by decide +kernel
theorem dX12_check_60 : decode cX12_check 60 = .ok (.if_icmp .ge 28, 3) := by decide +kernel
theorem dX12_check_63 : decode cX12_check 63 = .ok (.aload_n 0, 1) := by decide +kernel
theorem dX12_check_64 : decode cX12_check 64 = .ok (.aload_n 0, 1) := by decide +kernel
theorem dX12_check_65 : decode cX12_check 65 = .ok (.getfield 149, 3) := by decide +kernel
theorem dX12_check_68 : decode cX12_check 68 = .ok (.iload_n 2, 1) := by decide +kernel
theorem dX12_check_69 : decode cX12_check 69 = .ok (.iaload, 1) := by decide +kernel
theorem dX12_check_70 : decode cX12_check 70 = .ok (.invokevirtual 438, 3) := by decide +kernel
theorem dX12_check_73 : decode cX12_check 73 = .ok (.ifCond .le 9, 3) := by decide +kernel
theorem dX12_check_76 : decode cX12_check 76 = .ok (.aload_n 0, 1) := by decide +kernel
theorem dX12_check_77 : decode cX12_check 77 = .ok (.iconst 5, 1) := by decide +kernel
theorem dX12_check_78 : decode cX12_check 78 = .ok (.invokevirtual 200, 3) := by decide +kernel
theorem dX12_check_81 : decode cX12_check 81 = .ok (.ireturn, 1) := by decide +kernel
theorem dX12_check_82 : decode cX12_check 82 = .ok (.iinc 2 1, 3) := by decide +kernel
theorem dX12_check_85 : decode cX12_check 85 = .ok (.goto (-30), 3) := by decide +kernel
theorem dX12_check_88 : decode cX12_check 88 = .ok (.aload_n 0, 1) := by decide +kernel
theorem dX12_check_89 : decode cX12_check 89 = .ok (.sipush 364, 3) := by decide +kernel
theorem dX12_check_92 : decode cX12_check 92 = .ok (.invokevirtual 297, 3) := by decide +kernel
theorem dX12_check_95 : decode cX12_check 95 = .ok (.ireturn, 1) := by decide +kernel
theorem dX12_named_0 : decode cX12_named 0 = .ok (.iconst 0, 1) := by decide +kernel
theorem dX12_named_1 : decode cX12_named 1 = .ok (.istore_n 1, 1) := by decide +kernel
theorem dX12_named_2 : decode cX12_named 2 = .ok (.iload_n 1, 1) := by decide +kernel
theorem dX12_named_3 : decode cX12_named 3 = .ok (.aload_n 0, 1) := by decide +kernel
theorem dX12_named_4 : decode cX12_named 4 = .ok (.getfield 470, 3) := by decide +kernel
theorem dX12_named_7 : decode cX12_named 7 = .ok (.if_icmp .ge 64, 3) := by decide +kernel
theorem dX12_named_10 : decode cX12_named 10 = .ok (.iconst 1, 1) := by decide +kernel
theorem dX12_named_11 : decode cX12_named 11 = .ok (.istore_n 2, 1) := by decide +kernel
theorem dX12_named_12 : decode cX12_named 12 = .ok (.iconst 0, 1) := by decide +kernel
theorem dX12_named_13 : decode cX12_named 13 = .ok (.istore_n 3, 1) := by decide +kernel
theorem dX12_named_14 : decode cX12_named 14 = .ok (.iload_n 3, 1) := by decide +kernel
theorem dX12_named_15 : decode cX12_named 15 = .ok (.sipush 601, 3) := by decide +kernel
theorem dX12_named_18 : decode cX12_named 18 = .ok (.if_icmp .ge 41, 3) := by decide +kernel
theorem dX12_named_21 : decode cX12_named 21 = .ok (.iload_n 2, 1) := by decide +kernel
theorem dX12_named_22 : decode cX12_named 22 = .ok (.ifCond .eq 37, 3) := by decide +kernel
theorem dX12_named_25 : decode cX12_named 25 = .ok (.aload_n 0, 1) := by decide +kernel
theorem dX12_named_26 : decode cX12_named 26 = .ok (.getfield 159, 3) := by decide +kernel
theorem dX12_named_29 : decode cX12_named 29 = .ok (.sipush 601, 3) := by decide +kernel
theorem dX12_named_32 : decode cX12_named 32 = .ok (.iload_n 1, 1) := by decide +kernel
theorem dX12_named_33 : decode cX12_named 33 = .ok (.imul, 1) := by decide +kernel
theorem dX12_named_34 : decode cX12_named 34 = .ok (.iload_n 3, 1) := by decide +kernel
theorem dX12_named_35 : decode cX12_named 35 = .ok (.iadd, 1) := by decide +kernel
theorem dX12_named_36 : decode cX12_named 36 = .ok (.laload, 1) := by decide +kernel
theorem dX12_named_37 : decode cX12_named 37 = .ok (.aload_n 0, 1) := by decide +kernel
theorem dX12_named_38 : decode cX12_named 38 = .ok (.getfield 67, 3) := by decide +kernel
theorem dX12_named_41 : decode cX12_named 41 = .ok (.iload_n 3, 1) := by decide +kernel
theorem dX12_named_42 : decode cX12_named 42 = .ok (.laload, 1) := by decide +kernel
theorem dX12_named_43 : decode cX12_named 43 = .ok (.lcmp, 1) := by decide +kernel
theorem dX12_named_44 : decode cX12_named 44 = .ok (.ifCond .ne 7, 3) := by decide +kernel
theorem dX12_named_47 : decode cX12_named 47 = .ok (.iconst 1, 1) := by decide +kernel
theorem dX12_named_48 : decode cX12_named 48 = .ok (.goto 4, 3) := by decide +kernel
theorem dX12_named_51 : decode cX12_named 51 = .ok (.iconst 0, 1) := by decide +kernel
theorem dX12_named_52 : decode cX12_named 52 = .ok (.istore_n 2, 1) := by decide +kernel
theorem dX12_named_53 : decode cX12_named 53 = .ok (.iinc 3 1, 3) := by decide +kernel
theorem dX12_named_56 : decode cX12_named 56 = .ok (.goto (-42), 3) := by decide +kernel
theorem dX12_named_59 : decode cX12_named 59 = .ok (.iload_n 2, 1) := by decide +kernel
theorem dX12_named_60 : decode cX12_named 60 = .ok (.ifCond .eq 5, 3) := by decide +kernel
theorem dX12_named_63 : decode cX12_named 63 = .ok (.iload_n 1, 1) := by decide +kernel
theorem dX12_named_64 : decode cX12_named 64 = .ok (.ireturn, 1) := by decide +kernel
theorem dX12_named_65 : decode cX12_named 65 = .ok (.iinc 1 1, 3) := by decide +kernel
theorem dX12_named_68 : decode cX12_named 68 = .ok (.goto (-66), 3) := by decide +kernel
theorem dX12_named_71 : decode cX12_named 71 = .ok (.iconst (-1), 1) := by decide +kernel
theorem dX12_named_72 : decode cX12_named 72 = .ok (.ireturn, 1) := by decide +kernel
theorem dX12_book_0 : decode cX12_book 0 = .ok (.aload_n 0, 1) := by decide +kernel
theorem dX12_book_1 : decode cX12_book 1 = .ok (.iload_n 1, 1) := by decide +kernel
theorem dX12_book_2 : decode cX12_book 2 = .ok (.invokevirtual 187, 3) := by decide +kernel
theorem dX12_book_5 : decode cX12_book 5 = .ok (.ifCond .eq 9, 3) := by decide +kernel
theorem dX12_book_8 : decode cX12_book 8 = .ok (.lload_n 2, 1) := by decide +kernel
theorem dX12_book_9 : decode cX12_book 9 = .ok (.lconst 0, 1) := by decide +kernel
theorem dX12_book_10 : decode cX12_book 10 = .ok (.lcmp, 1) := by decide +kernel
theorem dX12_book_11 : decode cX12_book 11 = .ok (.ifCond .ne 10, 3) := by decide +kernel
theorem dX12_book_14 : decode cX12_book 14 = .ok (.aload_n 0, 1) := by decide +kernel
theorem dX12_book_15 : decode cX12_book 15 = .ok (.bipush (-2), 2) := by decide +kernel
theorem dX12_book_17 : decode cX12_book 17 = .ok (.invokevirtual 165, 3) := by decide +kernel
theorem dX12_book_20 : decode cX12_book 20 = .ok (.ireturn, 1) := by decide +kernel
theorem dX12_book_21 : decode cX12_book 21 = .ok (.aload_n 0, 1) := by decide +kernel
theorem dX12_book_22 : decode cX12_book 22 = .ok (.getfield 470, 3) := by decide +kernel
theorem dX12_book_25 : decode cX12_book 25 = .ok (.sipush 200, 3) := by decide +kernel
theorem dX12_book_28 : decode cX12_book 28 = .ok (.if_icmp .ne 10, 3) := by decide +kernel
theorem dX12_book_31 : decode cX12_book 31 = .ok (.aload_n 0, 1) := by decide +kernel
theorem dX12_book_32 : decode cX12_book 32 = .ok (.bipush (-3), 2) := by decide +kernel
theorem dX12_book_34 : decode cX12_book 34 = .ok (.invokevirtual 165, 3) := by decide +kernel
theorem dX12_book_37 : decode cX12_book 37 = .ok (.ireturn, 1) := by decide +kernel
theorem dX12_book_38 : decode cX12_book 38 = .ok (.aload_n 0, 1) := by decide +kernel
theorem dX12_book_39 : decode cX12_book 39 = .ok (.iload_n 1, 1) := by decide +kernel
theorem dX12_book_40 : decode cX12_book 40 = .ok (.bipush 10, 2) := by decide +kernel
theorem dX12_book_42 : decode cX12_book 42 = .ok (.invokevirtual 267, 3) := by decide +kernel
theorem dX12_book_45 : decode cX12_book 45 = .ok (.istore 4, 2) := by decide +kernel
theorem dX12_book_47 : decode cX12_book 47 = .ok (.iload 4, 2) := by decide +kernel
theorem dX12_book_49 : decode cX12_book 49 = .ok (.ifCond .ge 6, 3) := by decide +kernel
theorem dX12_book_52 : decode cX12_book 52 = .ok (.iload 4, 2) := by decide +kernel
theorem dX12_book_54 : decode cX12_book 54 = .ok (.ireturn, 1) := by decide +kernel
theorem dX12_book_55 : decode cX12_book 55 = .ok (.iconst 0, 1) := by decide +kernel
theorem dX12_book_56 : decode cX12_book 56 = .ok (.istore 5, 2) := by decide +kernel
theorem dX12_book_58 : decode cX12_book 58 = .ok (.iload 5, 2) := by decide +kernel
theorem dX12_book_60 : decode cX12_book 60 = .ok (.aload_n 0, 1) := by decide +kernel
theorem dX12_book_61 : decode cX12_book 61 = .ok (.getfield 470, 3) := by decide +kernel
theorem dX12_book_64 : decode cX12_book 64 = .ok (.if_icmp .ge 27, 3) := by decide +kernel
theorem dX12_book_67 : decode cX12_book 67 = .ok (.aload_n 0, 1) := by decide +kernel
theorem dX12_book_68 : decode cX12_book 68 = .ok (.getfield 155, 3) := by decide +kernel
theorem dX12_book_71 : decode cX12_book 71 = .ok (.iload 5, 2) := by decide +kernel
theorem dX12_book_73 : decode cX12_book 73 = .ok (.laload, 1) := by decide +kernel
theorem dX12_book_74 : decode cX12_book 74 = .ok (.lload_n 2, 1) := by decide +kernel
theorem dX12_book_75 : decode cX12_book 75 = .ok (.lcmp, 1) := by decide +kernel
theorem dX12_book_76 : decode cX12_book 76 = .ok (.ifCond .ne 9, 3) := by decide +kernel
theorem dX12_book_79 : decode cX12_book 79 = .ok (.aload_n 0, 1) := by decide +kernel
theorem dX12_book_80 : decode cX12_book 80 = .ok (.iconst 5, 1) := by decide +kernel
theorem dX12_book_81 : decode cX12_book 81 = .ok (.invokevirtual 200, 3) := by decide +kernel
theorem dX12_book_84 : decode cX12_book 84 = .ok (.ireturn, 1) := by decide +kernel
theorem dX12_book_85 : decode cX12_book 85 = .ok (.iinc 5 1, 3) := by decide +kernel
theorem dX12_book_88 : decode cX12_book 88 = .ok (.goto (-30), 3) := by decide +kernel
theorem dX12_book_91 : decode cX12_book 91 = .ok (.aload_n 0, 1) := by decide +kernel
theorem dX12_book_92 : decode cX12_book 92 = .ok (.iload_n 1, 1) := by decide +kernel
theorem dX12_book_93 : decode cX12_book 93 = .ok (.invokevirtual 274, 3) := by decide +kernel
theorem dX12_book_96 : decode cX12_book 96 = .ok (.aload_n 0, 1) := by decide +kernel
theorem dX12_book_97 : decode cX12_book 97 = .ok (.getfield 155, 3) := by decide +kernel
theorem dX12_book_100 : decode cX12_book 100 = .ok (.aload_n 0, 1) := by decide +kernel
theorem dX12_book_101 : decode cX12_book 101 = .ok (.getfield 470, 3) := by decide +kernel
theorem dX12_book_104 : decode cX12_book 104 = .ok (.lload_n 2, 1) := by decide +kernel
theorem dX12_book_105 : decode cX12_book 105 = .ok (.lastore, 1) := by decide +kernel
theorem dX12_book_106 : decode cX12_book 106 = .ok (.iconst 0, 1) := by decide +kernel
theorem dX12_book_107 : decode cX12_book 107 = .ok (.istore 5, 2) := by decide +kernel
theorem dX12_book_109 : decode cX12_book 109 = .ok (.iload 5, 2) := by decide +kernel
theorem dX12_book_111 : decode cX12_book 111 = .ok (.sipush 601, 3) := by decide +kernel
theorem dX12_book_114 : decode cX12_book 114 = .ok (.if_icmp .ge 32, 3) := by decide +kernel
theorem dX12_book_117 : decode cX12_book 117 = .ok (.aload_n 0, 1) := by decide +kernel
theorem dX12_book_118 : decode cX12_book 118 = .ok (.getfield 159, 3) := by decide +kernel
theorem dX12_book_121 : decode cX12_book 121 = .ok (.sipush 601, 3) := by decide +kernel
theorem dX12_book_124 : decode cX12_book 124 = .ok (.aload_n 0, 1) := by decide +kernel
theorem dX12_book_125 : decode cX12_book 125 = .ok (.getfield 470, 3) := by decide +kernel
theorem dX12_book_128 : decode cX12_book 128 = .ok (.imul, 1) := by decide +kernel
theorem dX12_book_129 : decode cX12_book 129 = .ok (.iload 5, 2) := by decide +kernel
theorem dX12_book_131 : decode cX12_book 131 = .ok (.iadd, 1) := by decide +kernel
theorem dX12_book_132 : decode cX12_book 132 = .ok (.aload_n 0, 1) := by decide +kernel
theorem dX12_book_133 : decode cX12_book 133 = .ok (.getfield 67, 3) := by decide +kernel
theorem dX12_book_136 : decode cX12_book 136 = .ok (.iload 5, 2) := by decide +kernel
theorem dX12_book_138 : decode cX12_book 138 = .ok (.laload, 1) := by decide +kernel
theorem dX12_book_139 : decode cX12_book 139 = .ok (.lastore, 1) := by decide +kernel
theorem dX12_book_140 : decode cX12_book 140 = .ok (.iinc 5 1, 3) := by decide +kernel
theorem dX12_book_143 : decode cX12_book 143 = .ok (.goto (-34), 3) := by decide +kernel
theorem dX12_book_146 : decode cX12_book 146 = .ok (.aload_n 0, 1) := by decide +kernel
theorem dX12_book_147 : decode cX12_book 147 = .ok (.dup, 1) := by decide +kernel
theorem dX12_book_148 : decode cX12_book 148 = .ok (.getfield 470, 3) := by decide +kernel
theorem dX12_book_151 : decode cX12_book 151 = .ok (.iconst 1, 1) := by decide +kernel
theorem dX12_book_152 : decode cX12_book 152 = .ok (.iadd, 1) := by decide +kernel
theorem dX12_book_153 : decode cX12_book 153 = .ok (.putfield 470, 3) := by decide +kernel
theorem dX12_book_156 : decode cX12_book 156 = .ok (.aload_n 0, 1) := by decide +kernel
theorem dX12_book_157 : decode cX12_book 157 = .ok (.aload_n 0, 1) := by decide +kernel
theorem dX12_book_158 : decode cX12_book 158 = .ok (.getfield 470, 3) := by decide +kernel
theorem dX12_book_161 : decode cX12_book 161 = .ok (.invokevirtual 180, 3) := by decide +kernel
theorem dX12_book_164 : decode cX12_book 164 = .ok (.ireturn, 1) := by decide +kernel
theorem dX12_name_0 : decode cX12_name 0 = .ok (.aload_n 0, 1) := by decide +kernel
theorem dX12_name_1 : decode cX12_name 1 = .ok (.iload_n 1, 1) := by decide +kernel
theorem dX12_name_2 : decode cX12_name 2 = .ok (.bipush 10, 2) := by decide +kernel
theorem dX12_name_4 : decode cX12_name 4 = .ok (.invokevirtual 267, 3) := by decide +kernel
theorem dX12_name_7 : decode cX12_name 7 = .ok (.istore_n 2, 1) := by decide +kernel
theorem dX12_name_8 : decode cX12_name 8 = .ok (.iload_n 2, 1) := by decide +kernel
theorem dX12_name_9 : decode cX12_name 9 = .ok (.ifCond .ge 6, 3) := by decide +kernel
theorem dX12_name_12 : decode cX12_name 12 = .ok (.iload_n 2, 1) := by decide +kernel
theorem dX12_name_13 : decode cX12_name 13 = .ok (.i2l, 1) := by decide +kernel
theorem dX12_name_14 : decode cX12_name 14 = .ok (.lreturn, 1) := by decide +kernel
theorem dX12_name_15 : decode cX12_name 15 = .ok (.aload_n 0, 1) := by decide +kernel
theorem dX12_name_16 : decode cX12_name 16 = .ok (.iload_n 1, 1) := by decide +kernel
theorem dX12_name_17 : decode cX12_name 17 = .ok (.invokevirtual 274, 3) := by decide +kernel
theorem dX12_name_20 : decode cX12_name 20 = .ok (.aload_n 0, 1) := by decide +kernel
theorem dX12_name_21 : decode cX12_name 21 = .ok (.invokevirtual 473, 3) := by decide +kernel
theorem dX12_name_24 : decode cX12_name 24 = .ok (.istore_n 3, 1) := by decide +kernel
theorem dX12_name_25 : decode cX12_name 25 = .ok (.aload_n 0, 1) := by decide +kernel
theorem dX12_name_26 : decode cX12_name 26 = .ok (.iconst 1, 1) := by decide +kernel
theorem dX12_name_27 : decode cX12_name 27 = .ok (.invokevirtual 180, 3) := by decide +kernel
theorem dX12_name_30 : decode cX12_name 30 = .ok (.istore 4, 2) := by decide +kernel
theorem dX12_name_32 : decode cX12_name 32 = .ok (.iload_n 3, 1) := by decide +kernel
theorem dX12_name_33 : decode cX12_name 33 = .ok (.iconst (-1), 1) := by decide +kernel
theorem dX12_name_34 : decode cX12_name 34 = .ok (.if_icmp .ne 7, 3) := by decide +kernel
theorem dX12_name_37 : decode cX12_name 37 = .ok (.lconst 0, 1) := by decide +kernel
theorem dX12_name_38 : decode cX12_name 38 = .ok (.goto 9, 3) := by decide +kernel
theorem dX12_name_41 : decode cX12_name 41 = .ok (.aload_n 0, 1) := by decide +kernel
theorem dX12_name_42 : decode cX12_name 42 = .ok (.getfield 155, 3) := by decide +kernel
theorem dX12_name_45 : decode cX12_name 45 = .ok (.iload_n 3, 1) := by decide +kernel
theorem dX12_name_46 : decode cX12_name 46 = .ok (.laload, 1) := by decide +kernel
theorem dX12_name_47 : decode cX12_name 47 = .ok (.lreturn, 1) := by decide +kernel
theorem dX12_count_0 : decode cX12_count 0 = .ok (.iload_n 1, 1) := by decide +kernel
theorem dX12_count_1 : decode cX12_count 1 = .ok (.ifCond .ne 10, 3) := by decide +kernel
theorem dX12_count_4 : decode cX12_count 4 = .ok (.aload_n 0, 1) := by decide +kernel
theorem dX12_count_5 : decode cX12_count 5 = .ok (.getfield 169, 3) := by decide +kernel
theorem dX12_count_8 : decode cX12_count 8 = .ok (.goto 53, 3) := by decide +kernel
theorem dX12_count_11 : decode cX12_count 11 = .ok (.iload_n 1, 1) := by decide +kernel
theorem dX12_count_12 : decode cX12_count 12 = .ok (.iconst 1, 1) := by decide +kernel
theorem dX12_count_13 : decode cX12_count 13 = .ok (.if_icmp .ne 10, 3) := by decide +kernel
theorem dX12_count_16 : decode cX12_count 16 = .ok (.aload_n 0, 1) := by decide +kernel
theorem dX12_count_17 : decode cX12_count 17 = .ok (.getfield 365, 3) := by decide +kernel
theorem dX12_count_20 : decode cX12_count 20 = .ok (.goto 41, 3) := by decide +kernel
theorem dX12_count_23 : decode cX12_count 23 = .ok (.iload_n 1, 1) := by decide +kernel
theorem dX12_count_24 : decode cX12_count 24 = .ok (.iconst 2, 1) := by decide +kernel
theorem dX12_count_25 : decode cX12_count 25 = .ok (.if_icmp .ne 10, 3) := by decide +kernel
theorem dX12_count_28 : decode cX12_count 28 = .ok (.aload_n 0, 1) := by decide +kernel
theorem dX12_count_29 : decode cX12_count 29 = .ok (.getfield 470, 3) := by decide +kernel
theorem dX12_count_32 : decode cX12_count 32 = .ok (.goto 29, 3) := by decide +kernel
theorem dX12_count_35 : decode cX12_count 35 = .ok (.iload_n 1, 1) := by decide +kernel
theorem dX12_count_36 : decode cX12_count 36 = .ok (.iconst 3, 1) := by decide +kernel
theorem dX12_count_37 : decode cX12_count 37 = .ok (.if_icmp .ne 10, 3) := by decide +kernel
theorem dX12_count_40 : decode cX12_count 40 = .ok (.aload_n 0, 1) := by decide +kernel
theorem dX12_count_41 : decode cX12_count 41 = .ok (.getfield 281, 3) := by decide +kernel
theorem dX12_count_44 : decode cX12_count 44 = .ok (.goto 17, 3) := by decide +kernel
theorem dX12_count_47 : decode cX12_count 47 = .ok (.iload_n 1, 1) := by decide +kernel
theorem dX12_count_48 : decode cX12_count 48 = .ok (.iconst 4, 1) := by decide +kernel
theorem dX12_count_49 : decode cX12_count 49 = .ok (.if_icmp .ne 10, 3) := by decide +kernel
theorem dX12_count_52 : decode cX12_count 52 = .ok (.aload_n 0, 1) := by decide +kernel
theorem dX12_count_53 : decode cX12_count 53 = .ok (.getfield 250, 3) := by decide +kernel
theorem dX12_count_56 : decode cX12_count 56 = .ok (.goto 5, 3) := by decide +kernel
theorem dX12_count_59 : decode cX12_count 59 = .ok (.bipush (-2), 2) := by decide +kernel
theorem dX12_count_61 : decode cX12_count 61 = .ok (.ireturn, 1) := by decide +kernel
theorem dX12_findings_0 : decode cX12_findings 0 = .ok (.iload_n 1, 1) := by decide +kernel
theorem dX12_findings_1 : decode cX12_findings 1 = .ok (.i2l, 1) := by decide +kernel
theorem dX12_findings_2 : decode cX12_findings 2 = .ok (.lconst 1, 1) := by decide +kernel
theorem dX12_findings_3 : decode cX12_findings 3 = .ok (.ldc2_w 207, 3) := by decide +kernel
theorem dX12_findings_6 : decode cX12_findings 6 = .ok (.invokestatic 172, 3) := by decide +kernel
theorem dX12_findings_9 : decode cX12_findings 9 = .ok (.ifCond .eq 12, 3) := by decide +kernel
theorem dX12_findings_12 : decode cX12_findings 12 = .ok (.aload_n 0, 1) := by decide +kernel
theorem dX12_findings_13 : decode cX12_findings 13 = .ok (.getfield 7, 3) := by decide +kernel
theorem dX12_findings_16 : decode cX12_findings 16 = .ok (.iload_n 1, 1) := by decide +kernel
theorem dX12_findings_17 : decode cX12_findings 17 = .ok (.iaload, 1) := by decide +kernel
theorem dX12_findings_18 : decode cX12_findings 18 = .ok (.goto 5, 3) := by decide +kernel
theorem dX12_findings_21 : decode cX12_findings 21 = .ok (.bipush (-2), 2) := by decide +kernel
theorem dX12_findings_23 : decode cX12_findings 23 = .ok (.ireturn, 1) := by decide +kernel
theorem dX12_status_0 : decode cX12_status 0 = .ok (.aload_n 0, 1) := by decide +kernel
theorem dX12_status_1 : decode cX12_status 1 = .ok (.getfield 162, 3) := by decide +kernel
theorem dX12_status_4 : decode cX12_status 4 = .ok (.ireturn, 1) := by decide +kernel
theorem dX12_digest_0 : decode cX12_digest 0 = .ok (.ldc2_w 476, 3) := by decide +kernel
theorem dX12_digest_3 : decode cX12_digest 3 = .ok (.lstore_n 1, 1) := by decide +kernel
theorem dX12_digest_4 : decode cX12_digest 4 = .ok (.iconst 0, 1) := by decide +kernel
theorem dX12_digest_5 : decode cX12_digest 5 = .ok (.istore_n 3, 1) := by decide +kernel
theorem dX12_digest_6 : decode cX12_digest 6 = .ok (.iload_n 3, 1) := by decide +kernel
theorem dX12_digest_7 : decode cX12_digest 7 = .ok (.aload_n 0, 1) := by decide +kernel
theorem dX12_digest_8 : decode cX12_digest 8 = .ok (.getfield 169, 3) := by decide +kernel
theorem dX12_digest_11 : decode cX12_digest 11 = .ok (.if_icmp .ge 115, 3) := by decide +kernel
theorem dX12_digest_14 : decode cX12_digest 14 = .ok (.ldc2_w 478, 3) := by decide +kernel
theorem dX12_digest_17 : decode cX12_digest 17 = .ok (.lload_n 1, 1) := by decide +kernel
theorem dX12_digest_18 : decode cX12_digest 18 = .ok (.lmul, 1) := by decide +kernel
theorem dX12_digest_19 : decode cX12_digest 19 = .ok (.aload_n 0, 1) := by decide +kernel
theorem dX12_digest_20 : decode cX12_digest 20 = .ok (.getfield 16, 3) := by decide +kernel
theorem dX12_digest_23 : decode cX12_digest 23 = .ok (.iload_n 3, 1) := by decide +kernel
theorem dX12_digest_24 : decode cX12_digest 24 = .ok (.iaload, 1) := by decide +kernel
theorem dX12_digest_25 : decode cX12_digest 25 = .ok (.i2l, 1) := by decide +kernel
theorem dX12_digest_26 : decode cX12_digest 26 = .ok (.ladd, 1) := by decide +kernel
theorem dX12_digest_27 : decode cX12_digest 27 = .ok (.lstore_n 1, 1) := by decide +kernel
theorem dX12_digest_28 : decode cX12_digest 28 = .ok (.iconst 0, 1) := by decide +kernel
theorem dX12_digest_29 : decode cX12_digest 29 = .ok (.istore 4, 2) := by decide +kernel
theorem dX12_digest_31 : decode cX12_digest 31 = .ok (.iload 4, 2) := by decide +kernel
theorem dX12_digest_33 : decode cX12_digest 33 = .ok (.aload_n 0, 1) := by decide +kernel
theorem dX12_digest_34 : decode cX12_digest 34 = .ok (.getfield 13, 3) := by decide +kernel
theorem dX12_digest_37 : decode cX12_digest 37 = .ok (.iload_n 3, 1) := by decide +kernel
theorem dX12_digest_38 : decode cX12_digest 38 = .ok (.iaload, 1) := by decide +kernel
theorem dX12_digest_39 : decode cX12_digest 39 = .ok (.if_icmp .ge 81, 3) := by decide +kernel
theorem dX12_digest_42 : decode cX12_digest 42 = .ok (.ldc2_w 478, 3) := by decide +kernel
theorem dX12_digest_45 : decode cX12_digest 45 = .ok (.lload_n 1, 1) := by decide +kernel
theorem dX12_digest_46 : decode cX12_digest 46 = .ok (.lmul, 1) := by decide +kernel
theorem dX12_digest_47 : decode cX12_digest 47 = .ok (.aload_n 0, 1) := by decide +kernel
theorem dX12_digest_48 : decode cX12_digest 48 = .ok (.getfield 19, 3) := by decide +kernel
theorem dX12_digest_51 : decode cX12_digest 51 = .ok (.bipush 40, 2) := by decide +kernel
theorem dX12_digest_53 : decode cX12_digest 53 = .ok (.iload_n 3, 1) := by decide +kernel
theorem dX12_digest_54 : decode cX12_digest 54 = .ok (.imul, 1) := by decide +kernel
theorem dX12_digest_55 : decode cX12_digest 55 = .ok (.iload 4, 2) := by decide +kernel
theorem dX12_digest_57 : decode cX12_digest 57 = .ok (.iadd, 1) := by decide +kernel
theorem dX12_digest_58 : decode cX12_digest 58 = .ok (.iaload, 1) := by decide +kernel
theorem dX12_digest_59 : decode cX12_digest 59 = .ok (.i2l, 1) := by decide +kernel
theorem dX12_digest_60 : decode cX12_digest 60 = .ok (.ladd, 1) := by decide +kernel
theorem dX12_digest_61 : decode cX12_digest 61 = .ok (.lstore_n 1, 1) := by decide +kernel
theorem dX12_digest_62 : decode cX12_digest 62 = .ok (.iconst 0, 1) := by decide +kernel
theorem dX12_digest_63 : decode cX12_digest 63 = .ok (.istore 5, 2) := by decide +kernel
theorem dX12_digest_65 : decode cX12_digest 65 = .ok (.iload 5, 2) := by decide +kernel
theorem dX12_digest_67 : decode cX12_digest 67 = .ok (.aload_n 0, 1) := by decide +kernel
theorem dX12_digest_68 : decode cX12_digest 68 = .ok (.getfield 19, 3) := by decide +kernel
theorem dX12_digest_71 : decode cX12_digest 71 = .ok (.bipush 40, 2) := by decide +kernel
theorem dX12_digest_73 : decode cX12_digest 73 = .ok (.iload_n 3, 1) := by decide +kernel
theorem dX12_digest_74 : decode cX12_digest 74 = .ok (.imul, 1) := by decide +kernel
theorem dX12_digest_75 : decode cX12_digest 75 = .ok (.iload 4, 2) := by decide +kernel
theorem dX12_digest_77 : decode cX12_digest 77 = .ok (.iadd, 1) := by decide +kernel
theorem dX12_digest_78 : decode cX12_digest 78 = .ok (.iaload, 1) := by decide +kernel
theorem dX12_digest_79 : decode cX12_digest 79 = .ok (.if_icmp .ge 35, 3) := by decide +kernel
theorem dX12_digest_82 : decode cX12_digest 82 = .ok (.ldc2_w 478, 3) := by decide +kernel
theorem dX12_digest_85 : decode cX12_digest 85 = .ok (.lload_n 1, 1) := by decide +kernel
theorem dX12_digest_86 : decode cX12_digest 86 = .ok (.lmul, 1) := by decide +kernel
theorem dX12_digest_87 : decode cX12_digest 87 = .ok (.aload_n 0, 1) := by decide +kernel
theorem dX12_digest_88 : decode cX12_digest 88 = .ok (.getfield 23, 3) := by decide +kernel
theorem dX12_digest_91 : decode cX12_digest 91 = .ok (.sipush 160, 3) := by decide +kernel
theorem dX12_digest_94 : decode cX12_digest 94 = .ok (.iload_n 3, 1) := by decide +kernel
theorem dX12_digest_95 : decode cX12_digest 95 = .ok (.imul, 1) := by decide +kernel
theorem dX12_digest_96 : decode cX12_digest 96 = .ok (.iconst 4, 1) := by decide +kernel
theorem dX12_digest_97 : decode cX12_digest 97 = .ok (.iload 4, 2) := by decide +kernel
theorem dX12_digest_99 : decode cX12_digest 99 = .ok (.imul, 1) := by decide +kernel
theorem dX12_digest_100 : decode cX12_digest 100 = .ok (.iadd, 1) := by decide +kernel
theorem dX12_digest_101 : decode cX12_digest 101 = .ok (.iload 5, 2) := by decide +kernel
theorem dX12_digest_103 : decode cX12_digest 103 = .ok (.iadd, 1) := by decide +kernel
theorem dX12_digest_104 : decode cX12_digest 104 = .ok (.iaload, 1) := by decide +kernel
theorem dX12_digest_105 : decode cX12_digest 105 = .ok (.i2l, 1) := by decide +kernel
theorem dX12_digest_106 : decode cX12_digest 106 = .ok (.ladd, 1) := by decide +kernel
theorem dX12_digest_107 : decode cX12_digest 107 = .ok (.lstore_n 1, 1) := by decide +kernel
theorem dX12_digest_108 : decode cX12_digest 108 = .ok (.iinc 5 1, 3) := by decide +kernel
theorem dX12_digest_111 : decode cX12_digest 111 = .ok (.goto (-46), 3) := by decide +kernel
theorem dX12_digest_114 : decode cX12_digest 114 = .ok (.iinc 4 1, 3) := by decide +kernel
theorem dX12_digest_117 : decode cX12_digest 117 = .ok (.goto (-86), 3) := by decide +kernel
theorem dX12_digest_120 : decode cX12_digest 120 = .ok (.iinc 3 1, 3) := by decide +kernel
theorem dX12_digest_123 : decode cX12_digest 123 = .ok (.goto (-117), 3) := by decide +kernel
theorem dX12_digest_126 : decode cX12_digest 126 = .ok (.aload_n 0, 1) := by decide +kernel
theorem dX12_digest_127 : decode cX12_digest 127 = .ok (.iconst 0, 1) := by decide +kernel
theorem dX12_digest_128 : decode cX12_digest 128 = .ok (.putfield 162, 3) := by decide +kernel
theorem dX12_digest_131 : decode cX12_digest 131 = .ok (.lload_n 1, 1) := by decide +kernel
theorem dX12_digest_132 : decode cX12_digest 132 = .ok (.lreturn, 1) := by decide +kernel
