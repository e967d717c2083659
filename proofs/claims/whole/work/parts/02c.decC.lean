theorem dX12_init_0 : decode cX12_init 0 = .ok (.aload_n 0, 1) := by decide +kernel
theorem dX12_init_1 : decode cX12_init 1 = .ok (.invokespecial 1, 3) := by decide +kernel
theorem dX12_init_4 : decode cX12_init 4 = .ok (.aload_n 0, 1) := by decide +kernel
theorem dX12_init_5 : decode cX12_init 5 = .ok (.iconst 2, 1) := by decide +kernel
theorem dX12_init_6 : decode cX12_init 6 = .ok (.putfield 7, 3) := by decide +kernel
theorem dX12_init_9 : decode cX12_init 9 = .ok (.aload_n 0, 1) := by decide +kernel
theorem dX12_init_10 : decode cX12_init 10 = .ok (.iconst (-1), 1) := by decide +kernel
theorem dX12_init_11 : decode cX12_init 11 = .ok (.putfield 13, 3) := by decide +kernel
theorem dX12_init_14 : decode cX12_init 14 = .ok (.aload_n 0, 1) := by decide +kernel
theorem dX12_init_15 : decode cX12_init 15 = .ok (.bipush 8, 2) := by decide +kernel
theorem dX12_init_17 : decode cX12_init 17 = .ok (.newarray .int, 2) := by decide +kernel
theorem dX12_init_19 : decode cX12_init 19 = .ok (.putfield 16, 3) := by decide +kernel
theorem dX12_init_22 : decode cX12_init 22 = .ok (.aload_n 0, 1) := by decide +kernel
theorem dX12_init_23 : decode cX12_init 23 = .ok (.bipush 8, 2) := by decide +kernel
theorem dX12_init_25 : decode cX12_init 25 = .ok (.newarray .int, 2) := by decide +kernel
theorem dX12_init_27 : decode cX12_init 27 = .ok (.putfield 20, 3) := by decide +kernel
theorem dX12_init_30 : decode cX12_init 30 = .ok (.aload_n 0, 1) := by decide +kernel
theorem dX12_init_31 : decode cX12_init 31 = .ok (.bipush 8, 2) := by decide +kernel
theorem dX12_init_33 : decode cX12_init 33 = .ok (.newarray .int, 2) := by decide +kernel
theorem dX12_init_35 : decode cX12_init 35 = .ok (.putfield 23, 3) := by decide +kernel
theorem dX12_init_38 : decode cX12_init 38 = .ok (.aload_n 0, 1) := by decide +kernel
theorem dX12_init_39 : decode cX12_init 39 = .ok (.bipush 8, 2) := by decide +kernel
theorem dX12_init_41 : decode cX12_init 41 = .ok (.newarray .int, 2) := by decide +kernel
theorem dX12_init_43 : decode cX12_init 43 = .ok (.putfield 26, 3) := by decide +kernel
theorem dX12_init_46 : decode cX12_init 46 = .ok (.aload_n 0, 1) := by decide +kernel
theorem dX12_init_47 : decode cX12_init 47 = .ok (.sipush 480, 3) := by decide +kernel
theorem dX12_init_50 : decode cX12_init 50 = .ok (.newarray .long, 2) := by decide +kernel
theorem dX12_init_52 : decode cX12_init 52 = .ok (.putfield 29, 3) := by decide +kernel
theorem dX12_init_55 : decode cX12_init 55 = .ok (.aload_n 0, 1) := by decide +kernel
theorem dX12_init_56 : decode cX12_init 56 = .ok (.bipush 60, 2) := by decide +kernel
theorem dX12_init_58 : decode cX12_init 58 = .ok (.newarray .long, 2) := by decide +kernel
theorem dX12_init_60 : decode cX12_init 60 = .ok (.putfield 33, 3) := by decide +kernel
theorem dX12_init_63 : decode cX12_init 63 = .ok (.aload_n 0, 1) := by decide +kernel
theorem dX12_init_64 : decode cX12_init 64 = .ok (.bipush 16, 2) := by decide +kernel
theorem dX12_init_66 : decode cX12_init 66 = .ok (.newarray .int, 2) := by decide +kernel
theorem dX12_init_68 : decode cX12_init 68 = .ok (.putfield 36, 3) := by decide +kernel
theorem dX12_init_71 : decode cX12_init 71 = .ok (.aload_n 0, 1) := by decide +kernel
theorem dX12_init_72 : decode cX12_init 72 = .ok (.bipush 16, 2) := by decide +kernel
theorem dX12_init_74 : decode cX12_init 74 = .ok (.newarray .int, 2) := by decide +kernel
theorem dX12_init_76 : decode cX12_init 76 = .ok (.putfield 39, 3) := by decide +kernel
theorem dX12_init_79 : decode cX12_init 79 = .ok (.aload_n 0, 1) := by decide +kernel
theorem dX12_init_80 : decode cX12_init 80 = .ok (.bipush 16, 2) := by decide +kernel
theorem dX12_init_82 : decode cX12_init 82 = .ok (.newarray .int, 2) := by decide +kernel
theorem dX12_init_84 : decode cX12_init 84 = .ok (.putfield 42, 3) := by decide +kernel
theorem dX12_init_87 : decode cX12_init 87 = .ok (.aload_n 0, 1) := by decide +kernel
theorem dX12_init_88 : decode cX12_init 88 = .ok (.bipush 16, 2) := by decide +kernel
theorem dX12_init_90 : decode cX12_init 90 = .ok (.newarray .int, 2) := by decide +kernel
theorem dX12_init_92 : decode cX12_init 92 = .ok (.putfield 45, 3) := by decide +kernel
theorem dX12_init_95 : decode cX12_init 95 = .ok (.aload_n 0, 1) := by decide +kernel
theorem dX12_init_96 : decode cX12_init 96 = .ok (.bipush 16, 2) := by decide +kernel
theorem dX12_init_98 : decode cX12_init 98 = .ok (.newarray .int, 2) := by decide +kernel
theorem dX12_init_100 : decode cX12_init 100 = .ok (.putfield 48, 3) := by decide +kernel
theorem dX12_init_103 : decode cX12_init 103 = .ok (.aload_n 0, 1) := by decide +kernel
theorem dX12_init_104 : decode cX12_init 104 = .ok (.bipush 16, 2) := by decide +kernel
theorem dX12_init_106 : decode cX12_init 106 = .ok (.newarray .int, 2) := by decide +kernel
theorem dX12_init_108 : decode cX12_init 108 = .ok (.putfield 51, 3) := by decide +kernel
theorem dX12_init_111 : decode cX12_init 111 = .ok (.aload_n 0, 1) := by decide +kernel
theorem dX12_init_112 : decode cX12_init 112 = .ok (.bipush 16, 2) := by decide +kernel
theorem dX12_init_114 : decode cX12_init 114 = .ok (.newarray .int, 2) := by decide +kernel
theorem dX12_init_116 : decode cX12_init 116 = .ok (.putfield 54, 3) := by decide +kernel
theorem dX12_init_119 : decode cX12_init 119 = .ok (.aload_n 0, 1) := by decide +kernel
theorem dX12_init_120 : decode cX12_init 120 = .ok (.bipush 16, 2) := by decide +kernel
theorem dX12_init_122 : decode cX12_init 122 = .ok (.newarray .int, 2) := by decide +kernel
theorem dX12_init_124 : decode cX12_init 124 = .ok (.putfield 57, 3) := by decide +kernel
theorem dX12_init_127 : decode cX12_init 127 = .ok (.aload_n 0, 1) := by decide +kernel
theorem dX12_init_128 : decode cX12_init 128 = .ok (.bipush 16, 2) := by decide +kernel
theorem dX12_init_130 : decode cX12_init 130 = .ok (.newarray .int, 2) := by decide +kernel
theorem dX12_init_132 : decode cX12_init 132 = .ok (.putfield 60, 3) := by decide +kernel
theorem dX12_init_135 : decode cX12_init 135 = .ok (.aload_n 0, 1) := by decide +kernel
theorem dX12_init_136 : decode cX12_init 136 = .ok (.bipush 16, 2) := by decide +kernel
theorem dX12_init_138 : decode cX12_init 138 = .ok (.newarray .int, 2) := by decide +kernel
theorem dX12_init_140 : decode cX12_init 140 = .ok (.putfield 63, 3) := by decide +kernel
theorem dX12_init_143 : decode cX12_init 143 = .ok (.aload_n 0, 1) := by decide +kernel
theorem dX12_init_144 : decode cX12_init 144 = .ok (.bipush 16, 2) := by decide +kernel
theorem dX12_init_146 : decode cX12_init 146 = .ok (.newarray .boolean, 2) := by decide +kernel
theorem dX12_init_148 : decode cX12_init 148 = .ok (.putfield 66, 3) := by decide +kernel
theorem dX12_init_151 : decode cX12_init 151 = .ok (.aload_n 0, 1) := by decide +kernel
theorem dX12_init_152 : decode cX12_init 152 = .ok (.bipush 16, 2) := by decide +kernel
theorem dX12_init_154 : decode cX12_init 154 = .ok (.newarray .boolean, 2) := by decide +kernel
theorem dX12_init_156 : decode cX12_init 156 = .ok (.putfield 70, 3) := by decide +kernel
theorem dX12_init_159 : decode cX12_init 159 = .ok (.aload_n 0, 1) := by decide +kernel
theorem dX12_init_160 : decode cX12_init 160 = .ok (.bipush 80, 2) := by decide +kernel
theorem dX12_init_162 : decode cX12_init 162 = .ok (.newarray .int, 2) := by decide +kernel
theorem dX12_init_164 : decode cX12_init 164 = .ok (.putfield 73, 3) := by decide +kernel
theorem dX12_init_167 : decode cX12_init 167 = .ok (.aload_n 0, 1) := by decide +kernel
theorem dX12_init_168 : decode cX12_init 168 = .ok (.bipush 8, 2) := by decide +kernel
theorem dX12_init_170 : decode cX12_init 170 = .ok (.newarray .int, 2) := by decide +kernel
theorem dX12_init_172 : decode cX12_init 172 = .ok (.putfield 76, 3) := by decide +kernel
theorem dX12_init_175 : decode cX12_init 175 = .ok (.aload_n 0, 1) := by decide +kernel
theorem dX12_init_176 : decode cX12_init 176 = .ok (.bipush 8, 2) := by decide +kernel
theorem dX12_init_178 : decode cX12_init 178 = .ok (.newarray .int, 2) := by decide +kernel
theorem dX12_init_180 : decode cX12_init 180 = .ok (.putfield 79, 3) := by decide +kernel
theorem dX12_init_183 : decode cX12_init 183 = .ok (.aload_n 0, 1) := by decide +kernel
theorem dX12_init_184 : decode cX12_init 184 = .ok (.bipush 16, 2) := by decide +kernel
theorem dX12_init_186 : decode cX12_init 186 = .ok (.newarray .int, 2) := by decide +kernel
theorem dX12_init_188 : decode cX12_init 188 = .ok (.putfield 82, 3) := by decide +kernel
theorem dX12_init_191 : decode cX12_init 191 = .ok (.aload_n 0, 1) := by decide +kernel
theorem dX12_init_192 : decode cX12_init 192 = .ok (.sipush 960, 3) := by decide +kernel
theorem dX12_init_195 : decode cX12_init 195 = .ok (.newarray .long, 2) := by decide +kernel
theorem dX12_init_197 : decode cX12_init 197 = .ok (.putfield 85, 3) := by decide +kernel
theorem dX12_init_200 : decode cX12_init 200 = .ok (.aload_n 0, 1) := by decide +kernel
theorem dX12_init_201 : decode cX12_init 201 = .ok (.bipush 8, 2) := by decide +kernel
theorem dX12_init_203 : decode cX12_init 203 = .ok (.newarray .int, 2) := by decide +kernel
theorem dX12_init_205 : decode cX12_init 205 = .ok (.putfield 88, 3) := by decide +kernel
theorem dX12_init_208 : decode cX12_init 208 = .ok (.aload_n 0, 1) := by decide +kernel
theorem dX12_init_209 : decode cX12_init 209 = .ok (.bipush 8, 2) := by decide +kernel
theorem dX12_init_211 : decode cX12_init 211 = .ok (.newarray .int, 2) := by decide +kernel
theorem dX12_init_213 : decode cX12_init 213 = .ok (.putfield 91, 3) := by decide +kernel
theorem dX12_init_216 : decode cX12_init 216 = .ok (.aload_n 0, 1) := by decide +kernel
theorem dX12_init_217 : decode cX12_init 217 = .ok (.bipush 64, 2) := by decide +kernel
theorem dX12_init_219 : decode cX12_init 219 = .ok (.newarray .int, 2) := by decide +kernel
theorem dX12_init_221 : decode cX12_init 221 = .ok (.putfield 94, 3) := by decide +kernel
theorem dX12_init_224 : decode cX12_init 224 = .ok (.aload_n 0, 1) := by decide +kernel
theorem dX12_init_225 : decode cX12_init 225 = .ok (.bipush 64, 2) := by decide +kernel
theorem dX12_init_227 : decode cX12_init 227 = .ok (.newarray .int, 2) := by decide +kernel
theorem dX12_init_229 : decode cX12_init 229 = .ok (.putfield 97, 3) := by decide +kernel
theorem dX12_init_232 : decode cX12_init 232 = .ok (.aload_n 0, 1) := by decide +kernel
theorem dX12_init_233 : decode cX12_init 233 = .ok (.bipush 64, 2) := by decide +kernel
theorem dX12_init_235 : decode cX12_init 235 = .ok (.newarray .int, 2) := by decide +kernel
theorem dX12_init_237 : decode cX12_init 237 = .ok (.putfield 100, 3) := by decide +kernel
theorem dX12_init_240 : decode cX12_init 240 = .ok (.aload_n 0, 1) := by decide +kernel
theorem dX12_init_241 : decode cX12_init 241 = .ok (.sipush 256, 3) := by decide +kernel
theorem dX12_init_244 : decode cX12_init 244 = .ok (.newarray .int, 2) := by decide +kernel
theorem dX12_init_246 : decode cX12_init 246 = .ok (.putfield 103, 3) := by decide +kernel
theorem dX12_init_249 : decode cX12_init 249 = .ok (.aload_n 0, 1) := by decide +kernel
theorem dX12_init_250 : decode cX12_init 250 = .ok (.bipush 8, 2) := by decide +kernel
theorem dX12_init_252 : decode cX12_init 252 = .ok (.newarray .boolean, 2) := by decide +kernel
theorem dX12_init_254 : decode cX12_init 254 = .ok (.putfield 106, 3) := by decide +kernel
theorem dX12_init_257 : decode cX12_init 257 = .ok (.aload_n 0, 1) := by decide +kernel
theorem dX12_init_258 : decode cX12_init 258 = .ok (.bipush 64, 2) := by decide +kernel
theorem dX12_init_260 : decode cX12_init 260 = .ok (.newarray .int, 2) := by decide +kernel
theorem dX12_init_262 : decode cX12_init 262 = .ok (.putfield 109, 3) := by decide +kernel
theorem dX12_init_265 : decode cX12_init 265 = .ok (.aload_n 0, 1) := by decide +kernel
theorem dX12_init_266 : decode cX12_init 266 = .ok (.bipush 64, 2) := by decide +kernel
theorem dX12_init_268 : decode cX12_init 268 = .ok (.newarray .int, 2) := by decide +kernel
theorem dX12_init_270 : decode cX12_init 270 = .ok (.putfield 112, 3) := by decide +kernel
theorem dX12_init_273 : decode cX12_init 273 = .ok (.aload_n 0, 1) := by decide +kernel
theorem dX12_init_274 : decode cX12_init 274 = .ok (.bipush 8, 2) := by decide +kernel
theorem dX12_init_276 : decode cX12_init 276 = .ok (.newarray .int, 2) := by decide +kernel
theorem dX12_init_278 : decode cX12_init 278 = .ok (.putfield 115, 3) := by decide +kernel
theorem dX12_init_281 : decode cX12_init 281 = .ok (.aload_n 0, 1) := by decide +kernel
theorem dX12_init_282 : decode cX12_init 282 = .ok (.bipush 8, 2) := by decide +kernel
theorem dX12_init_284 : decode cX12_init 284 = .ok (.newarray .int, 2) := by decide +kernel
theorem dX12_init_286 : decode cX12_init 286 = .ok (.putfield 118, 3) := by decide +kernel
theorem dX12_init_289 : decode cX12_init 289 = .ok (.aload_n 0, 1) := by decide +kernel
theorem dX12_init_290 : decode cX12_init 290 = .ok (.bipush 8, 2) := by decide +kernel
theorem dX12_init_292 : decode cX12_init 292 = .ok (.newarray .int, 2) := by decide +kernel
theorem dX12_init_294 : decode cX12_init 294 = .ok (.putfield 121, 3) := by decide +kernel
theorem dX12_init_297 : decode cX12_init 297 = .ok (.aload_n 0, 1) := by decide +kernel
theorem dX12_init_298 : decode cX12_init 298 = .ok (.bipush 8, 2) := by decide +kernel
theorem dX12_init_300 : decode cX12_init 300 = .ok (.newarray .int, 2) := by decide +kernel
theorem dX12_init_302 : decode cX12_init 302 = .ok (.putfield 124, 3) := by decide +kernel
theorem dX12_init_305 : decode cX12_init 305 = .ok (.aload_n 0, 1) := by decide +kernel
theorem dX12_init_306 : decode cX12_init 306 = .ok (.bipush 8, 2) := by decide +kernel
theorem dX12_init_308 : decode cX12_init 308 = .ok (.newarray .int, 2) := by decide +kernel
theorem dX12_init_310 : decode cX12_init 310 = .ok (.putfield 127, 3) := by decide +kernel
theorem dX12_init_313 : decode cX12_init 313 = .ok (.aload_n 0, 1) := by decide +kernel
theorem dX12_init_314 : decode cX12_init 314 = .ok (.bipush 8, 2) := by decide +kernel
theorem dX12_init_316 : decode cX12_init 316 = .ok (.newarray .int, 2) := by decide +kernel
theorem dX12_init_318 : decode cX12_init 318 = .ok (.putfield 130, 3) := by decide +kernel
theorem dX12_init_321 : decode cX12_init 321 = .ok (.aload_n 0, 1) := by decide +kernel
theorem dX12_init_322 : decode cX12_init 322 = .ok (.sipush 480, 3) := by decide +kernel
theorem dX12_init_325 : decode cX12_init 325 = .ok (.newarray .int, 2) := by decide +kernel
theorem dX12_init_327 : decode cX12_init 327 = .ok (.putfield 133, 3) := by decide +kernel
theorem dX12_init_330 : decode cX12_init 330 = .ok (.aload_n 0, 1) := by decide +kernel
theorem dX12_init_331 : decode cX12_init 331 = .ok (.sipush 480, 3) := by decide +kernel
theorem dX12_init_334 : decode cX12_init 334 = .ok (.newarray .long, 2) := by decide +kernel
theorem dX12_init_336 : decode cX12_init 336 = .ok (.putfield 136, 3) := by decide +kernel
theorem dX12_init_339 : decode cX12_init 339 = .ok (.aload_n 0, 1) := by decide +kernel
theorem dX12_init_340 : decode cX12_init 340 = .ok (.iconst 4, 1) := by decide +kernel
theorem dX12_init_341 : decode cX12_init 341 = .ok (.newarray .int, 2) := by decide +kernel
theorem dX12_init_343 : decode cX12_init 343 = .ok (.putfield 139, 3) := by decide +kernel
theorem dX12_init_346 : decode cX12_init 346 = .ok (.aload_n 0, 1) := by decide +kernel
theorem dX12_init_347 : decode cX12_init 347 = .ok (.bipush 64, 2) := by decide +kernel
theorem dX12_init_349 : decode cX12_init 349 = .ok (.newarray .int, 2) := by decide +kernel
theorem dX12_init_351 : decode cX12_init 351 = .ok (.putfield 142, 3) := by decide +kernel
theorem dX12_init_354 : decode cX12_init 354 = .ok (.aload_n 0, 1) := by decide +kernel
theorem dX12_init_355 : decode cX12_init 355 = .ok (.sipush 256, 3) := by decide +kernel
theorem dX12_init_358 : decode cX12_init 358 = .ok (.newarray .int, 2) := by decide +kernel
theorem dX12_init_360 : decode cX12_init 360 = .ok (.putfield 145, 3) := by decide +kernel
theorem dX12_init_363 : decode cX12_init 363 = .ok (.aload_n 0, 1) := by decide +kernel
theorem dX12_init_364 : decode cX12_init 364 = .ok (.sipush 256, 3) := by decide +kernel
theorem dX12_init_367 : decode cX12_init 367 = .ok (.newarray .int, 2) := by decide +kernel
theorem dX12_init_369 : decode cX12_init 369 = .ok (.putfield 148, 3) := by decide +kernel
theorem dX12_init_372 : decode cX12_init 372 = .ok (.aload_n 0, 1) := by decide +kernel
theorem dX12_init_373 : decode cX12_init 373 = .ok (.sipush 256, 3) := by decide +kernel
theorem dX12_init_376 : decode cX12_init 376 = .ok (.newarray .int, 2) := by decide +kernel
theorem dX12_init_378 : decode cX12_init 378 = .ok (.putfield 151, 3) := by decide +kernel
theorem dX12_init_381 : decode cX12_init 381 = .ok (.aload_n 0, 1) := by decide +kernel
theorem dX12_init_382 : decode cX12_init 382 = .ok (.bipush 64, 2) := by decide +kernel
theorem dX12_init_384 : decode cX12_init 384 = .ok (.newarray .int, 2) := by decide +kernel
theorem dX12_init_386 : decode cX12_init 386 = .ok (.putfield 154, 3) := by decide +kernel
theorem dX12_init_389 : decode cX12_init 389 = .ok (.aload_n 0, 1) := by decide +kernel
theorem dX12_init_390 : decode cX12_init 390 = .ok (.iconst 4, 1) := by decide +kernel
theorem dX12_init_391 : decode cX12_init 391 = .ok (.newarray .int, 2) := by decide +kernel
theorem dX12_init_393 : decode cX12_init 393 = .ok (.putfield 157, 3) := by decide +kernel
theorem dX12_init_396 : decode cX12_init 396 = .ok (.aload_n 0, 1) := by decide +kernel
theorem dX12_init_397 : decode cX12_init 397 = .ok (.bipush 32, 2) := by decide +kernel
theorem dX12_init_399 : decode cX12_init 399 = .ok (.newarray .int, 2) := by decide +kernel
theorem dX12_init_401 : decode cX12_init 401 = .ok (.putfield 160, 3) := by decide +kernel
theorem dX12_init_404 : decode cX12_init 404 = .ok (.aload_n 0, 1) := by decide +kernel
theorem dX12_init_405 : decode cX12_init 405 = .ok (.bipush 32, 2) := by decide +kernel
theorem dX12_init_407 : decode cX12_init 407 = .ok (.newarray .int, 2) := by decide +kernel
theorem dX12_init_409 : decode cX12_init 409 = .ok (.putfield 163, 3) := by decide +kernel
theorem dX12_init_412 : decode cX12_init 412 = .ok (.aload_n 0, 1) := by decide +kernel
theorem dX12_init_413 : decode cX12_init 413 = .ok (.bipush 6, 2) := by decide +kernel
theorem dX12_init_415 : decode cX12_init 415 = .ok (.newarray .int, 2) := by decide +kernel
theorem dX12_init_417 : decode cX12_init 417 = .ok (.putfield 166, 3) := by decide +kernel
theorem dX12_init_420 : decode cX12_init 420 = .ok (.aload_n 0, 1) := by decide +kernel
theorem dX12_init_421 : decode cX12_init 421 = .ok (.bipush 6, 2) := by decide +kernel
theorem dX12_init_423 : decode cX12_init 423 = .ok (.newarray .int, 2) := by decide +kernel
theorem dX12_init_425 : decode cX12_init 425 = .ok (.putfield 169, 3) := by decide +kernel
theorem dX12_init_428 : decode cX12_init 428 = .ok (.aload_n 0, 1) := by decide +kernel
theorem dX12_init_429 : decode cX12_init 429 = .ok (.bipush 6, 2) := by decide +kernel
theorem dX12_init_431 : decode cX12_init 431 = .ok (.newarray .int, 2) := by decide +kernel
theorem dX12_init_433 : decode cX12_init 433 = .ok (.putfield 172, 3) := by decide +kernel
theorem dX12_init_436 : decode cX12_init 436 = .ok (.aload_n 0, 1) := by decide +kernel
theorem dX12_init_437 : decode cX12_init 437 = .ok (.bipush 6, 2) := by decide +kernel
theorem dX12_init_439 : decode cX12_init 439 = .ok (.newarray .int, 2) := by decide +kernel
theorem dX12_init_441 : decode cX12_init 441 = .ok (.putfield 175, 3) := by decide +kernel
theorem dX12_init_444 : decode cX12_init 444 = .ok (.aload_n 0, 1) := by decide +kernel
theorem dX12_init_445 : decode cX12_init 445 = .ok (.sipush 240, 3) := by decide +kernel
theorem dX12_init_448 : decode cX12_init 448 = .ok (.newarray .int, 2) := by decide +kernel
theorem dX12_init_450 : decode cX12_init 450 = .ok (.putfield 178, 3) := by decide +kernel
theorem dX12_init_453 : decode cX12_init 453 = .ok (.aload_n 0, 1) := by decide +kernel
theorem dX12_init_454 : decode cX12_init 454 = .ok (.sipush 240, 3) := by decide +kernel
theorem dX12_init_457 : decode cX12_init 457 = .ok (.newarray .boolean, 2) := by decide +kernel
theorem dX12_init_459 : decode cX12_init 459 = .ok (.putfield 181, 3) := by decide +kernel
theorem dX12_init_462 : decode cX12_init 462 = .ok (.aload_n 0, 1) := by decide +kernel
theorem dX12_init_463 : decode cX12_init 463 = .ok (.bipush 8, 2) := by decide +kernel
theorem dX12_init_465 : decode cX12_init 465 = .ok (.newarray .int, 2) := by decide +kernel
theorem dX12_init_467 : decode cX12_init 467 = .ok (.putfield 184, 3) := by decide +kernel
theorem dX12_init_470 : decode cX12_init 470 = .ok (.aload_n 0, 1) := by decide +kernel
theorem dX12_init_471 : decode cX12_init 471 = .ok (.bipush 64, 2) := by decide +kernel
theorem dX12_init_473 : decode cX12_init 473 = .ok (.newarray .int, 2) := by decide +kernel
theorem dX12_init_475 : decode cX12_init 475 = .ok (.putfield 187, 3) := by decide +kernel
theorem dX12_init_478 : decode cX12_init 478 = .ok (.aload_n 0, 1) := by decide +kernel
theorem dX12_init_479 : decode cX12_init 479 = .ok (.bipush 8, 2) := by decide +kernel
theorem dX12_init_481 : decode cX12_init 481 = .ok (.newarray .int, 2) := by decide +kernel
theorem dX12_init_483 : decode cX12_init 483 = .ok (.putfield 190, 3) := by decide +kernel
theorem dX12_init_486 : decode cX12_init 486 = .ok (.aload_n 0, 1) := by decide +kernel
theorem dX12_init_487 : decode cX12_init 487 = .ok (.bipush 8, 2) := by decide +kernel
theorem dX12_init_489 : decode cX12_init 489 = .ok (.newarray .int, 2) := by decide +kernel
theorem dX12_init_491 : decode cX12_init 491 = .ok (.putfield 193, 3) := by decide +kernel
theorem dX12_init_494 : decode cX12_init 494 = .ok (.aload_n 0, 1) := by decide +kernel
theorem dX12_init_495 : decode cX12_init 495 = .ok (.bipush 6, 2) := by decide +kernel
theorem dX12_init_497 : decode cX12_init 497 = .ok (.newarray .int, 2) := by decide +kernel
theorem dX12_init_499 : decode cX12_init 499 = .ok (.putfield 196, 3) := by decide +kernel
theorem dX12_init_502 : decode cX12_init 502 = .ok (.aload_n 0, 1) := by decide +kernel
theorem dX12_init_503 : decode cX12_init 503 = .ok (.bipush 8, 2) := by decide +kernel
theorem dX12_init_505 : decode cX12_init 505 = .ok (.newarray .int, 2) := by decide +kernel
theorem dX12_init_507 : decode cX12_init 507 = .ok (.putfield 199, 3) := by decide +kernel
theorem dX12_init_510 : decode cX12_init 510 = .ok (.aload_n 0, 1) := by decide +kernel
theorem dX12_init_511 : decode cX12_init 511 = .ok (.bipush 8, 2) := by decide +kernel
theorem dX12_init_513 : decode cX12_init 513 = .ok (.newarray .int, 2) := by decide +kernel
theorem dX12_init_515 : decode cX12_init 515 = .ok (.putfield 202, 3) := by decide +kernel
theorem dX12_init_518 : decode cX12_init 518 = .ok (.aload_n 0, 1) := by decide +kernel
theorem dX12_init_519 : decode cX12_init 519 = .ok (.bipush 9, 2) := by decide +kernel
theorem dX12_init_521 : decode cX12_init 521 = .ok (.newarray .int, 2) := by decide +kernel
theorem dX12_init_523 : decode cX12_init 523 = .ok (.putfield 205, 3) := by decide +kernel
theorem dX12_init_526 : decode cX12_init 526 = .ok (.aload_n 0, 1) := by decide +kernel
theorem dX12_init_527 : decode cX12_init 527 = .ok (.bipush 9, 2) := by decide +kernel
theorem dX12_init_529 : decode cX12_init 529 = .ok (.newarray .int, 2) := by decide +kernel
theorem dX12_init_531 : decode cX12_init 531 = .ok (.putfield 208, 3) := by decide +kernel
theorem dX12_init_534 : decode cX12_init 534 = .ok (.aload_n 0, 1) := by decide +kernel
theorem dX12_init_535 : decode cX12_init 535 = .ok (.sipush 3721, 3) := by decide +kernel
theorem dX12_init_538 : decode cX12_init 538 = .ok (.newarray .int, 2) := by decide +kernel
theorem dX12_init_540 : decode cX12_init 540 = .ok (.putfield 211, 3) := by decide +kernel
theorem dX12_init_543 : decode cX12_init 543 = .ok (.aload_n 0, 1) := by decide +kernel
theorem dX12_init_544 : decode cX12_init 544 = .ok (.bipush 60, 2) := by decide +kernel
theorem dX12_init_546 : decode cX12_init 546 = .ok (.newarray .int, 2) := by decide +kernel
theorem dX12_init_548 : decode cX12_init 548 = .ok (.putfield 214, 3) := by decide +kernel
theorem dX12_init_551 : decode cX12_init 551 = .ok (.aload_n 0, 1) := by decide +kernel
theorem dX12_init_552 : decode cX12_init 552 = .ok (.bipush 9, 2) := by decide +kernel
theorem dX12_init_554 : decode cX12_init 554 = .ok (.newarray .int, 2) := by decide +kernel
theorem dX12_init_556 : decode cX12_init 556 = .ok (.putfield 217, 3) := by decide +kernel
theorem dX12_init_559 : decode cX12_init 559 = .ok (.aload_n 0, 1) := by decide +kernel
theorem dX12_init_560 : decode cX12_init 560 = .ok (.bipush 9, 2) := by decide +kernel
theorem dX12_init_562 : decode cX12_init 562 = .ok (.newarray .int, 2) := by decide +kernel
theorem dX12_init_564 : decode cX12_init 564 = .ok (.putfield 220, 3) := by decide +kernel
theorem dX12_init_567 : decode cX12_init 567 = .ok (.aload_n 0, 1) := by decide +kernel
theorem dX12_init_568 : decode cX12_init 568 = .ok (.bipush 9, 2) := by decide +kernel
theorem dX12_init_570 : decode cX12_init 570 = .ok (.newarray .int, 2) := by decide +kernel
theorem dX12_init_572 : decode cX12_init 572 = .ok (.putfield 223, 3) := by decide +kernel
theorem dX12_init_575 : decode cX12_init 575 = .ok (.aload_n 0, 1) := by decide +kernel
theorem dX12_init_576 : decode cX12_init 576 = .ok (.bipush 9, 2) := by decide +kernel
theorem dX12_init_578 : decode cX12_init 578 = .ok (.newarray .int, 2) := by decide +kernel
theorem dX12_init_580 : decode cX12_init 580 = .ok (.putfield 226, 3) := by decide +kernel
theorem dX12_init_583 : decode cX12_init 583 = .ok (.aload_n 0, 1) := by decide +kernel
theorem dX12_init_584 : decode cX12_init 584 = .ok (.bipush 9, 2) := by decide +kernel
theorem dX12_init_586 : decode cX12_init 586 = .ok (.newarray .int, 2) := by decide +kernel
theorem dX12_init_588 : decode cX12_init 588 = .ok (.putfield 229, 3) := by decide +kernel
theorem dX12_init_591 : decode cX12_init 591 = .ok (.aload_n 0, 1) := by decide +kernel
theorem dX12_init_592 : decode cX12_init 592 = .ok (.bipush 8, 2) := by decide +kernel
theorem dX12_init_594 : decode cX12_init 594 = .ok (.newarray .int, 2) := by decide +kernel
theorem dX12_init_596 : decode cX12_init 596 = .ok (.putfield 232, 3) := by decide +kernel
theorem dX12_init_599 : decode cX12_init 599 = .ok (.aload_n 0, 1) := by decide +kernel
theorem dX12_init_600 : decode cX12_init 600 = .ok (.bipush 9, 2) := by decide +kernel
theorem dX12_init_602 : decode cX12_init 602 = .ok (.newarray .int, 2) := by decide +kernel
theorem dX12_init_604 : decode cX12_init 604 = .ok (.putfield 235, 3) := by decide +kernel
theorem dX12_init_607 : decode cX12_init 607 = .ok (.aload_n 0, 1) := by decide +kernel
theorem dX12_init_608 : decode cX12_init 608 = .ok (.bipush 9, 2) := by decide +kernel
theorem dX12_init_610 : decode cX12_init 610 = .ok (.newarray .int, 2) := by decide +kernel
theorem dX12_init_612 : decode cX12_init 612 = .ok (.putfield 238, 3) := by decide +kernel
theorem dX12_init_615 : decode cX12_init 615 = .ok (.aload_n 0, 1) := by decide +kernel
theorem dX12_init_616 : decode cX12_init 616 = .ok (.bipush 9, 2) := by decide +kernel
theorem dX12_init_618 : decode cX12_init 618 = .ok (.newarray .int, 2) := by decide +kernel
theorem dX12_init_620 : decode cX12_init 620 = .ok (.putfield 241, 3) := by decide +kernel
theorem dX12_init_623 : decode cX12_init 623 = .ok (.aload_n 0, 1) := by decide +kernel
theorem dX12_init_624 : decode cX12_init 624 = .ok (.bipush 8, 2) := by decide +kernel
theorem dX12_init_626 : decode cX12_init 626 = .ok (.newarray .int, 2) := by decide +kernel
theorem dX12_init_628 : decode cX12_init 628 = .ok (.putfield 244, 3) := by decide +kernel
theorem dX12_init_631 : decode cX12_init 631 = .ok (.iconst 0, 1) := by decide +kernel
theorem dX12_init_632 : decode cX12_init 632 = .ok (.istore_n 1, 1) := by decide +kernel
theorem dX12_init_633 : decode cX12_init 633 = .ok (.iload_n 1, 1) := by decide +kernel
theorem dX12_init_634 : decode cX12_init 634 = .ok (.iconst 4, 1) := by decide +kernel
theorem dX12_init_635 : decode cX12_init 635 = .ok (.if_icmp .ge 17, 3) := by decide +kernel
theorem dX12_init_638 : decode cX12_init 638 = .ok (.aload_n 0, 1) := by decide +kernel
theorem dX12_init_639 : decode cX12_init 639 = .ok (.getfield 139, 3) := by decide +kernel
theorem dX12_init_642 : decode cX12_init 642 = .ok (.iload_n 1, 1) := by decide +kernel
theorem dX12_init_643 : decode cX12_init 643 = .ok (.bipush 9, 2) := by decide +kernel
theorem dX12_init_645 : decode cX12_init 645 = .ok (.iastore, 1) := by decide +kernel
theorem dX12_init_646 : decode cX12_init 646 = .ok (.iinc 1 1, 3) := by decide +kernel
theorem dX12_init_649 : decode cX12_init 649 = .ok (.goto (-16), 3) := by decide +kernel
theorem dX12_init_652 : decode cX12_init 652 = .ok (.iconst 0, 1) := by decide +kernel
theorem dX12_init_653 : decode cX12_init 653 = .ok (.istore_n 1, 1) := by decide +kernel
theorem dX12_init_654 : decode cX12_init 654 = .ok (.iload_n 1, 1) := by decide +kernel
theorem dX12_init_655 : decode cX12_init 655 = .ok (.sipush 240, 3) := by decide +kernel
theorem dX12_init_658 : decode cX12_init 658 = .ok (.if_icmp .ge 16, 3) := by decide +kernel
theorem dX12_init_661 : decode cX12_init 661 = .ok (.aload_n 0, 1) := by decide +kernel
theorem dX12_init_662 : decode cX12_init 662 = .ok (.getfield 178, 3) := by decide +kernel
theorem dX12_init_665 : decode cX12_init 665 = .ok (.iload_n 1, 1) := by decide +kernel
theorem dX12_init_666 : decode cX12_init 666 = .ok (.iconst (-1), 1) := by decide +kernel
theorem dX12_init_667 : decode cX12_init 667 = .ok (.iastore, 1) := by decide +kernel
theorem dX12_init_668 : decode cX12_init 668 = .ok (.iinc 1 1, 3) := by decide +kernel
theorem dX12_init_671 : decode cX12_init 671 = .ok (.goto (-17), 3) := by decide +kernel
theorem dX12_init_674 : decode cX12_init 674 = .ok (.iconst 0, 1) := by decide +kernel
theorem dX12_init_675 : decode cX12_init 675 = .ok (.istore_n 1, 1) := by decide +kernel
theorem dX12_init_676 : decode cX12_init 676 = .ok (.iload_n 1, 1) := by decide +kernel
theorem dX12_init_677 : decode cX12_init 677 = .ok (.bipush 8, 2) := by decide +kernel
theorem dX12_init_679 : decode cX12_init 679 = .ok (.if_icmp .ge 30, 3) := by decide +kernel
theorem dX12_init_682 : decode cX12_init 682 = .ok (.aload_n 0, 1) := by decide +kernel
theorem dX12_init_683 : decode cX12_init 683 = .ok (.getfield 115, 3) := by decide +kernel
theorem dX12_init_686 : decode cX12_init 686 = .ok (.iload_n 1, 1) := by decide +kernel
theorem dX12_init_687 : decode cX12_init 687 = .ok (.iconst (-1), 1) := by decide +kernel
theorem dX12_init_688 : decode cX12_init 688 = .ok (.iastore, 1) := by decide +kernel
theorem dX12_init_689 : decode cX12_init 689 = .ok (.aload_n 0, 1) := by decide +kernel
theorem dX12_init_690 : decode cX12_init 690 = .ok (.getfield 184, 3) := by decide +kernel
theorem dX12_init_693 : decode cX12_init 693 = .ok (.iload_n 1, 1) := by decide +kernel
theorem dX12_init_694 : decode cX12_init 694 = .ok (.iconst 1, 1) := by decide +kernel
theorem dX12_init_695 : decode cX12_init 695 = .ok (.iastore, 1) := by decide +kernel
theorem dX12_init_696 : decode cX12_init 696 = .ok (.aload_n 0, 1) := by decide +kernel
theorem dX12_init_697 : decode cX12_init 697 = .ok (.getfield 190, 3) := by decide +kernel
theorem dX12_init_700 : decode cX12_init 700 = .ok (.iload_n 1, 1) := by decide +kernel
theorem dX12_init_701 : decode cX12_init 701 = .ok (.iconst (-1), 1) := by decide +kernel
theorem dX12_init_702 : decode cX12_init 702 = .ok (.iastore, 1) := by decide +kernel
theorem dX12_init_703 : decode cX12_init 703 = .ok (.iinc 1 1, 3) := by decide +kernel
theorem dX12_init_706 : decode cX12_init 706 = .ok (.goto (-30), 3) := by decide +kernel
theorem dX12_init_709 : decode cX12_init 709 = .ok (.iconst 0, 1) := by decide +kernel
theorem dX12_init_710 : decode cX12_init 710 = .ok (.istore_n 1, 1) := by decide +kernel
theorem dX12_init_711 : decode cX12_init 711 = .ok (.iload_n 1, 1) := by decide +kernel
theorem dX12_init_712 : decode cX12_init 712 = .ok (.bipush 64, 2) := by decide +kernel
theorem dX12_init_714 : decode cX12_init 714 = .ok (.if_icmp .ge 16, 3) := by decide +kernel
theorem dX12_init_717 : decode cX12_init 717 = .ok (.aload_n 0, 1) := by decide +kernel
theorem dX12_init_718 : decode cX12_init 718 = .ok (.getfield 154, 3) := by decide +kernel
theorem dX12_init_721 : decode cX12_init 721 = .ok (.iload_n 1, 1) := by decide +kernel
theorem dX12_init_722 : decode cX12_init 722 = .ok (.iconst (-1), 1) := by decide +kernel
theorem dX12_init_723 : decode cX12_init 723 = .ok (.iastore, 1) := by decide +kernel
theorem dX12_init_724 : decode cX12_init 724 = .ok (.iinc 1 1, 3) := by decide +kernel
theorem dX12_init_727 : decode cX12_init 727 = .ok (.goto (-16), 3) := by decide +kernel
theorem dX12_init_730 : decode cX12_init 730 = .ok (.return_, 1) := by decide +kernel
theorem dX12_no_0 : decode cX12_no 0 = .ok (.aload_n 0, 1) := by decide +kernel
theorem dX12_no_1 : decode cX12_no 1 = .ok (.getfield 193, 3) := by decide +kernel
theorem dX12_no_4 : decode cX12_no 4 = .ok (.iload_n 1, 1) := by decide +kernel
theorem dX12_no_5 : decode cX12_no 5 = .ok (.ineg, 1) := by decide +kernel
theorem dX12_no_6 : decode cX12_no 6 = .ok (.dup2, 1) := by decide +kernel
theorem dX12_no_7 : decode cX12_no 7 = .ok (.iaload, 1) := by decide +kernel
theorem dX12_no_8 : decode cX12_no 8 = .ok (.iconst 1, 1) := by decide +kernel
theorem dX12_no_9 : decode cX12_no 9 = .ok (.iadd, 1) := by decide +kernel
theorem dX12_no_10 : decode cX12_no 10 = .ok (.iastore, 1) := by decide +kernel
theorem dX12_no_11 : decode cX12_no 11 = .ok (.iload_n 1, 1) := by decide +kernel
theorem dX12_no_12 : decode cX12_no 12 = .ok (.ireturn, 1) := by decide +kernel
theorem dX12_isOne_0 : decode cX12_isOne 0 = .ok (.iload_n 1, 1) := by decide +kernel
theorem dX12_isOne_1 : decode cX12_isOne 1 = .ok (.ifCond .lt 15, 3) := by decide +kernel
theorem dX12_isOne_4 : decode cX12_isOne 4 = .ok (.iload_n 1, 1) := by decide +kernel
theorem dX12_isOne_5 : decode cX12_isOne 5 = .ok (.aload_n 0, 1) := by decide +kernel
theorem dX12_isOne_6 : decode cX12_isOne 6 = .ok (.getfield 247, 3) := by decide +kernel
theorem dX12_isOne_9 : decode cX12_isOne 9 = .ok (.if_icmp .ge 7, 3) := by decide +kernel
theorem dX12_isOne_12 : decode cX12_isOne 12 = .ok (.iconst 1, 1) := by decide +kernel
theorem dX12_isOne_13 : decode cX12_isOne 13 = .ok (.goto 4, 3) := by decide +kernel
theorem dX12_isOne_16 : decode cX12_isOne 16 = .ok (.iconst 0, 1) := by decide +kernel
theorem dX12_isOne_17 : decode cX12_isOne 17 = .ok (.ireturn, 1) := by decide +kernel
theorem dX12_isPicture_0 : decode cX12_isPicture 0 = .ok (.iload_n 1, 1) := by decide +kernel
theorem dX12_isPicture_1 : decode cX12_isPicture 1 = .ok (.ifCond .lt 15, 3) := by decide +kernel
theorem dX12_isPicture_4 : decode cX12_isPicture 4 = .ok (.iload_n 1, 1) := by decide +kernel
theorem dX12_isPicture_5 : decode cX12_isPicture 5 = .ok (.aload_n 0, 1) := by decide +kernel
theorem dX12_isPicture_6 : decode cX12_isPicture 6 = .ok (.getfield 250, 3) := by decide +kernel
theorem dX12_isPicture_9 : decode cX12_isPicture 9 = .ok (.if_icmp .ge 7, 3) := by decide +kernel
theorem dX12_isPicture_12 : decode cX12_isPicture 12 = .ok (.iconst 1, 1) := by decide +kernel
theorem dX12_isPicture_13 : decode cX12_isPicture 13 = .ok (.goto 4, 3) := by decide +kernel
theorem dX12_isPicture_16 : decode cX12_isPicture 16 = .ok (.iconst 0, 1) := by decide +kernel
theorem dX12_isPicture_17 : decode cX12_isPicture 17 = .ok (.ireturn, 1) := by decide +kernel
theorem dX12_isScene_0 : decode cX12_isScene 0 = .ok (.aload_n 0, 1) := by decide +kernel
theorem dX12_isScene_1 : decode cX12_isScene 1 = .ok (.iload_n 1, 1) := by decide +kernel
theorem dX12_isScene_2 : decode cX12_isScene 2 = .ok (.invokevirtual 253, 3) := by decide +kernel
theorem dX12_isScene_5 : decode cX12_isScene 5 = .ok (.ifCond .eq 21, 3) := by decide +kernel
theorem dX12_isScene_8 : decode cX12_isScene 8 = .ok (.iload_n 2, 1) := by decide +kernel
theorem dX12_isScene_9 : decode cX12_isScene 9 = .ok (.ifCond .lt 17, 3) := by decide +kernel
theorem dX12_isScene_12 : decode cX12_isScene 12 = .ok (.iload_n 2, 1) := by decide +kernel
theorem dX12_isScene_13 : decode cX12_isScene 13 = .ok (.aload_n 0, 1) := by decide +kernel
theorem dX12_isScene_14 : decode cX12_isScene 14 = .ok (.getfield 91, 3) := by decide +kernel
theorem dX12_isScene_17 : decode cX12_isScene 17 = .ok (.iload_n 1, 1) := by decide +kernel
theorem dX12_isScene_18 : decode cX12_isScene 18 = .ok (.iaload, 1) := by decide +kernel
theorem dX12_isScene_19 : decode cX12_isScene 19 = .ok (.if_icmp .ge 7, 3) := by decide +kernel
theorem dX12_isScene_22 : decode cX12_isScene 22 = .ok (.iconst 1, 1) := by decide +kernel
theorem dX12_isScene_23 : decode cX12_isScene 23 = .ok (.goto 4, 3) := by decide +kernel
theorem dX12_isScene_26 : decode cX12_isScene 26 = .ok (.iconst 0, 1) := by decide +kernel
theorem dX12_isScene_27 : decode cX12_isScene 27 = .ok (.ireturn, 1) := by decide +kernel
theorem dX12_isHall_0 : decode cX12_isHall 0 = .ok (.iload_n 1, 1) := by decide +kernel
theorem dX12_isHall_1 : decode cX12_isHall 1 = .ok (.ifCond .lt 15, 3) := by decide +kernel
theorem dX12_isHall_4 : decode cX12_isHall 4 = .ok (.iload_n 1, 1) := by decide +kernel
theorem dX12_isHall_5 : decode cX12_isHall 5 = .ok (.aload_n 0, 1) := by decide +kernel
theorem dX12_isHall_6 : decode cX12_isHall 6 = .ok (.getfield 257, 3) := by decide +kernel
theorem dX12_isHall_9 : decode cX12_isHall 9 = .ok (.if_icmp .ge 7, 3) := by decide +kernel
theorem dX12_isHall_12 : decode cX12_isHall 12 = .ok (.iconst 1, 1) := by decide +kernel
theorem dX12_isHall_13 : decode cX12_isHall 13 = .ok (.goto 4, 3) := by decide +kernel
theorem dX12_isHall_16 : decode cX12_isHall 16 = .ok (.iconst 0, 1) := by decide +kernel
theorem dX12_isHall_17 : decode cX12_isHall 17 = .ok (.ireturn, 1) := by decide +kernel
theorem dX12_isShelf_0 : decode cX12_isShelf 0 = .ok (.iload_n 0, 1) := by decide +kernel
theorem dX12_isShelf_1 : decode cX12_isShelf 1 = .ok (.ifCond .lt 13, 3) := by decide +kernel
theorem dX12_isShelf_4 : decode cX12_isShelf 4 = .ok (.iload_n 0, 1) := by decide +kernel
theorem dX12_isShelf_5 : decode cX12_isShelf 5 = .ok (.bipush 8, 2) := by decide +kernel
theorem dX12_isShelf_7 : decode cX12_isShelf 7 = .ok (.if_icmp .ge 7, 3) := by decide +kernel
theorem dX12_isShelf_10 : decode cX12_isShelf 10 = .ok (.iconst 1, 1) := by decide +kernel
theorem dX12_isShelf_11 : decode cX12_isShelf 11 = .ok (.goto 4, 3) := by decide +kernel
theorem dX12_isShelf_14 : decode cX12_isShelf 14 = .ok (.iconst 0, 1) := by decide +kernel
theorem dX12_isShelf_15 : decode cX12_isShelf 15 = .ok (.ireturn, 1) := by decide +kernel
theorem dX12_row_0 : decode cX12_row 0 = .ok (.iload_n 1, 1) := by decide +kernel
theorem dX12_row_1 : decode cX12_row 1 = .ok (.invokestatic 260, 3) := by decide +kernel
theorem dX12_row_4 : decode cX12_row 4 = .ok (.ifCond .ne 9, 3) := by decide +kernel
theorem dX12_row_7 : decode cX12_row 7 = .ok (.aload_n 0, 1) := by decide +kernel
theorem dX12_row_8 : decode cX12_row 8 = .ok (.iconst (-1), 1) := by decide +kernel
theorem dX12_row_9 : decode cX12_row 9 = .ok (.invokevirtual 263, 3) := by decide +kernel
theorem dX12_row_12 : decode cX12_row 12 = .ok (.ireturn, 1) := by decide +kernel
theorem dX12_row_13 : decode cX12_row 13 = .ok (.iload_n 3, 1) := by decide +kernel
theorem dX12_row_14 : decode cX12_row 14 = .ok (.ifCond .ge 10, 3) := by decide +kernel
theorem dX12_row_17 : decode cX12_row 17 = .ok (.aload_n 0, 1) := by decide +kernel
theorem dX12_row_18 : decode cX12_row 18 = .ok (.bipush (-4), 2) := by decide +kernel
theorem dX12_row_20 : decode cX12_row 20 = .ok (.invokevirtual 263, 3) := by decide +kernel
theorem dX12_row_23 : decode cX12_row 23 = .ok (.ireturn, 1) := by decide +kernel
theorem dX12_row_24 : decode cX12_row 24 = .ok (.iload_n 2, 1) := by decide +kernel
theorem dX12_row_25 : decode cX12_row 25 = .ok (.ifCond .lt 8, 3) := by decide +kernel
theorem dX12_row_28 : decode cX12_row 28 = .ok (.iload_n 2, 1) := by decide +kernel
theorem dX12_row_29 : decode cX12_row 29 = .ok (.iconst 3, 1) := by decide +kernel
theorem dX12_row_30 : decode cX12_row 30 = .ok (.if_icmp .le 10, 3) := by decide +kernel
theorem dX12_row_33 : decode cX12_row 33 = .ok (.aload_n 0, 1) := by decide +kernel
theorem dX12_row_34 : decode cX12_row 34 = .ok (.bipush (-6), 2) := by decide +kernel
theorem dX12_row_36 : decode cX12_row 36 = .ok (.invokevirtual 263, 3) := by decide +kernel
theorem dX12_row_39 : decode cX12_row 39 = .ok (.ireturn, 1) := by decide +kernel
theorem dX12_row_40 : decode cX12_row 40 = .ok (.iload_n 3, 1) := by decide +kernel
theorem dX12_row_41 : decode cX12_row 41 = .ok (.bipush 60, 2) := by decide +kernel
theorem dX12_row_43 : decode cX12_row 43 = .ok (.if_icmp .le 10, 3) := by decide +kernel
theorem dX12_row_46 : decode cX12_row 46 = .ok (.aload_n 0, 1) := by decide +kernel
theorem dX12_row_47 : decode cX12_row 47 = .ok (.bipush (-7), 2) := by decide +kernel
theorem dX12_row_49 : decode cX12_row 49 = .ok (.invokevirtual 263, 3) := by decide +kernel
theorem dX12_row_52 : decode cX12_row 52 = .ok (.ireturn, 1) := by decide +kernel
theorem dX12_row_53 : decode cX12_row 53 = .ok (.aload_n 0, 1) := by decide +kernel
theorem dX12_row_54 : decode cX12_row 54 = .ok (.getfield 16, 3) := by decide +kernel
theorem dX12_row_57 : decode cX12_row 57 = .ok (.iload_n 1, 1) := by decide +kernel
theorem dX12_row_58 : decode cX12_row 58 = .ok (.iconst 1, 1) := by decide +kernel
theorem dX12_row_59 : decode cX12_row 59 = .ok (.iastore, 1) := by decide +kernel
theorem dX12_row_60 : decode cX12_row 60 = .ok (.aload_n 0, 1) := by decide +kernel
theorem dX12_row_61 : decode cX12_row 61 = .ok (.getfield 20, 3) := by decide +kernel
theorem dX12_row_64 : decode cX12_row 64 = .ok (.iload_n 1, 1) := by decide +kernel
theorem dX12_row_65 : decode cX12_row 65 = .ok (.iload_n 2, 1) := by decide +kernel
theorem dX12_row_66 : decode cX12_row 66 = .ok (.iastore, 1) := by decide +kernel
theorem dX12_row_67 : decode cX12_row 67 = .ok (.aload_n 0, 1) := by decide +kernel
theorem dX12_row_68 : decode cX12_row 68 = .ok (.getfield 23, 3) := by decide +kernel
theorem dX12_row_71 : decode cX12_row 71 = .ok (.iload_n 1, 1) := by decide +kernel
theorem dX12_row_72 : decode cX12_row 72 = .ok (.iload_n 3, 1) := by decide +kernel
theorem dX12_row_73 : decode cX12_row 73 = .ok (.iastore, 1) := by decide +kernel
theorem dX12_row_74 : decode cX12_row 74 = .ok (.iconst 0, 1) := by decide +kernel
theorem dX12_row_75 : decode cX12_row 75 = .ok (.istore 4, 2) := by decide +kernel
theorem dX12_row_77 : decode cX12_row 77 = .ok (.iload 4, 2) := by decide +kernel
theorem dX12_row_79 : decode cX12_row 79 = .ok (.bipush 60, 2) := by decide +kernel
theorem dX12_row_81 : decode cX12_row 81 = .ok (.if_icmp .ge 22, 3) := by decide +kernel
theorem dX12_row_84 : decode cX12_row 84 = .ok (.aload_n 0, 1) := by decide +kernel
theorem dX12_row_85 : decode cX12_row 85 = .ok (.getfield 29, 3) := by decide +kernel
theorem dX12_row_88 : decode cX12_row 88 = .ok (.bipush 60, 2) := by decide +kernel
theorem dX12_row_90 : decode cX12_row 90 = .ok (.iload_n 1, 1) := by decide +kernel
theorem dX12_row_91 : decode cX12_row 91 = .ok (.imul, 1) := by decide +kernel
theorem dX12_row_92 : decode cX12_row 92 = .ok (.iload 4, 2) := by decide +kernel
theorem dX12_row_94 : decode cX12_row 94 = .ok (.iadd, 1) := by decide +kernel
theorem dX12_row_95 : decode cX12_row 95 = .ok (.lconst 0, 1) := by decide +kernel
theorem dX12_row_96 : decode cX12_row 96 = .ok (.lastore, 1) := by decide +kernel
theorem dX12_row_97 : decode cX12_row 97 = .ok (.iinc 4 1, 3) := by decide +kernel
theorem dX12_row_100 : decode cX12_row 100 = .ok (.goto (-23), 3) := by decide +kernel
theorem dX12_row_103 : decode cX12_row 103 = .ok (.iconst 1, 1) := by decide +kernel
theorem dX12_row_104 : decode cX12_row 104 = .ok (.ireturn, 1) := by decide +kernel
theorem dX12_set_0 : decode cX12_set 0 = .ok (.iload_n 1, 1) := by decide +kernel
theorem dX12_set_1 : decode cX12_set 1 = .ok (.invokestatic 260, 3) := by decide +kernel
theorem dX12_set_4 : decode cX12_set 4 = .ok (.ifCond .ne 9, 3) := by decide +kernel
theorem dX12_set_7 : decode cX12_set 7 = .ok (.aload_n 0, 1) := by decide +kernel
theorem dX12_set_8 : decode cX12_set 8 = .ok (.iconst (-1), 1) := by decide +kernel
theorem dX12_set_9 : decode cX12_set 9 = .ok (.invokevirtual 263, 3) := by decide +kernel
theorem dX12_set_12 : decode cX12_set 12 = .ok (.ireturn, 1) := by decide +kernel
theorem dX12_set_13 : decode cX12_set 13 = .ok (.aload_n 0, 1) := by decide +kernel
theorem dX12_set_14 : decode cX12_set 14 = .ok (.getfield 16, 3) := by decide +kernel
theorem dX12_set_17 : decode cX12_set 17 = .ok (.iload_n 1, 1) := by decide +kernel
theorem dX12_set_18 : decode cX12_set 18 = .ok (.iaload, 1) := by decide +kernel
theorem dX12_set_19 : decode cX12_set 19 = .ok (.iconst 2, 1) := by decide +kernel
theorem dX12_set_20 : decode cX12_set 20 = .ok (.if_icmp .ne 10, 3) := by decide +kernel
theorem dX12_set_23 : decode cX12_set 23 = .ok (.aload_n 0, 1) := by decide +kernel
theorem dX12_set_24 : decode cX12_set 24 = .ok (.bipush (-2), 2) := by decide +kernel
theorem dX12_set_26 : decode cX12_set 26 = .ok (.invokevirtual 263, 3) := by decide +kernel
theorem dX12_set_29 : decode cX12_set 29 = .ok (.ireturn, 1) := by decide +kernel
theorem dX12_set_30 : decode cX12_set 30 = .ok (.aload_n 0, 1) := by decide +kernel
theorem dX12_set_31 : decode cX12_set 31 = .ok (.getfield 16, 3) := by decide +kernel
theorem dX12_set_34 : decode cX12_set 34 = .ok (.iload_n 1, 1) := by decide +kernel
theorem dX12_set_35 : decode cX12_set 35 = .ok (.iaload, 1) := by decide +kernel
theorem dX12_set_36 : decode cX12_set 36 = .ok (.ifCond .ne 10, 3) := by decide +kernel
theorem dX12_set_39 : decode cX12_set 39 = .ok (.aload_n 0, 1) := by decide +kernel
theorem dX12_set_40 : decode cX12_set 40 = .ok (.bipush (-3), 2) := by decide +kernel
theorem dX12_set_42 : decode cX12_set 42 = .ok (.invokevirtual 263, 3) := by decide +kernel
theorem dX12_set_45 : decode cX12_set 45 = .ok (.ireturn, 1) := by decide +kernel
theorem dX12_set_46 : decode cX12_set 46 = .ok (.iload_n 2, 1) := by decide +kernel
theorem dX12_set_47 : decode cX12_set 47 = .ok (.ifCond .lt 13, 3) := by decide +kernel
theorem dX12_set_50 : decode cX12_set 50 = .ok (.iload_n 2, 1) := by decide +kernel
theorem dX12_set_51 : decode cX12_set 51 = .ok (.aload_n 0, 1) := by decide +kernel
theorem dX12_set_52 : decode cX12_set 52 = .ok (.getfield 23, 3) := by decide +kernel
theorem dX12_set_55 : decode cX12_set 55 = .ok (.iload_n 1, 1) := by decide +kernel
theorem dX12_set_56 : decode cX12_set 56 = .ok (.iaload, 1) := by decide +kernel
theorem dX12_set_57 : decode cX12_set 57 = .ok (.if_icmp .lt 10, 3) := by decide +kernel
theorem dX12_set_60 : decode cX12_set 60 = .ok (.aload_n 0, 1) := by decide +kernel
theorem dX12_set_61 : decode cX12_set 61 = .ok (.bipush (-5), 2) := by decide +kernel
theorem dX12_set_63 : decode cX12_set 63 = .ok (.invokevirtual 263, 3) := by decide +kernel
theorem dX12_set_66 : decode cX12_set 66 = .ok (.ireturn, 1) := by decide +kernel
theorem dX12_set_67 : decode cX12_set 67 = .ok (.aload_n 0, 1) := by decide +kernel
theorem dX12_set_68 : decode cX12_set 68 = .ok (.getfield 29, 3) := by decide +kernel
theorem dX12_set_71 : decode cX12_set 71 = .ok (.bipush 60, 2) := by decide +kernel
theorem dX12_set_73 : decode cX12_set 73 = .ok (.iload_n 1, 1) := by decide +kernel
theorem dX12_set_74 : decode cX12_set 74 = .ok (.imul, 1) := by decide +kernel
theorem dX12_set_75 : decode cX12_set 75 = .ok (.iload_n 2, 1) := by decide +kernel
theorem dX12_set_76 : decode cX12_set 76 = .ok (.iadd, 1) := by decide +kernel
theorem dX12_set_77 : decode cX12_set 77 = .ok (.aload_n 0, 1) := by decide +kernel
theorem dX12_set_78 : decode cX12_set 78 = .ok (.getfield 20, 3) := by decide +kernel
theorem dX12_set_81 : decode cX12_set 81 = .ok (.iload_n 1, 1) := by decide +kernel
theorem dX12_set_82 : decode cX12_set 82 = .ok (.iaload, 1) := by decide +kernel
theorem dX12_set_83 : decode cX12_set 83 = .ok (.ifCond .ne 10, 3) := by decide +kernel
theorem dX12_set_86 : decode cX12_set 86 = .ok (.lload_n 3, 1) := by decide +kernel
theorem dX12_set_87 : decode cX12_set 87 = .ok (.l2i, 1) := by decide +kernel
theorem dX12_set_88 : decode cX12_set 88 = .ok (.i2b, 1) := by decide +kernel
theorem dX12_set_89 : decode cX12_set 89 = .ok (.i2l, 1) := by decide +kernel
theorem dX12_set_90 : decode cX12_set 90 = .ok (.goto 37, 3) := by decide +kernel
theorem dX12_set_93 : decode cX12_set 93 = .ok (.aload_n 0, 1) := by decide +kernel
theorem dX12_set_94 : decode cX12_set 94 = .ok (.getfield 20, 3) := by decide +kernel
theorem dX12_set_97 : decode cX12_set 97 = .ok (.iload_n 1, 1) := by decide +kernel
theorem dX12_set_98 : decode cX12_set 98 = .ok (.iaload, 1) := by decide +kernel
theorem dX12_set_99 : decode cX12_set 99 = .ok (.iconst 1, 1) := by decide +kernel
theorem dX12_set_100 : decode cX12_set 100 = .ok (.if_icmp .ne 10, 3) := by decide +kernel
theorem dX12_set_103 : decode cX12_set 103 = .ok (.lload_n 3, 1) := by decide +kernel
theorem dX12_set_104 : decode cX12_set 104 = .ok (.l2i, 1) := by decide +kernel
theorem dX12_set_105 : decode cX12_set 105 = .ok (.i2s, 1) := by decide +kernel
theorem dX12_set_106 : decode cX12_set 106 = .ok (.i2l, 1) := by decide +kernel
theorem dX12_set_107 : decode cX12_set 107 = .ok (.goto 20, 3) := by decide +kernel
theorem dX12_set_110 : decode cX12_set 110 = .ok (.aload_n 0, 1) := by decide +kernel
theorem dX12_set_111 : decode cX12_set 111 = .ok (.getfield 20, 3) := by decide +kernel
theorem dX12_set_114 : decode cX12_set 114 = .ok (.iload_n 1, 1) := by decide +kernel
theorem dX12_set_115 : decode cX12_set 115 = .ok (.iaload, 1) := by decide +kernel
theorem dX12_set_116 : decode cX12_set 116 = .ok (.iconst 2, 1) := by decide +kernel
theorem dX12_set_117 : decode cX12_set 117 = .ok (.if_icmp .ne 9, 3) := by decide +kernel
theorem dX12_set_120 : decode cX12_set 120 = .ok (.lload_n 3, 1) := by decide +kernel
theorem dX12_set_121 : decode cX12_set 121 = .ok (.l2i, 1) := by decide +kernel
theorem dX12_set_122 : decode cX12_set 122 = .ok (.i2l, 1) := by decide +kernel
theorem dX12_set_123 : decode cX12_set 123 = .ok (.goto 4, 3) := by decide +kernel
theorem dX12_set_126 : decode cX12_set 126 = .ok (.lload_n 3, 1) := by decide +kernel
theorem dX12_set_127 : decode cX12_set 127 = .ok (.lastore, 1) := by decide +kernel
theorem dX12_set_128 : decode cX12_set 128 = .ok (.iconst 1, 1) := by decide +kernel
theorem dX12_set_129 : decode cX12_set 129 = .ok (.ireturn, 1) := by decide +kernel
theorem dX12_copy_0 : decode cX12_copy 0 = .ok (.iload_n 1, 1) := by decide +kernel
theorem dX12_copy_1 : decode cX12_copy 1 = .ok (.invokestatic 260, 3) := by decide +kernel
theorem dX12_copy_4 : decode cX12_copy 4 = .ok (.ifCond .eq 10, 3) := by decide +kernel
theorem dX12_copy_7 : decode cX12_copy 7 = .ok (.iload_n 2, 1) := by decide +kernel
theorem dX12_copy_8 : decode cX12_copy 8 = .ok (.invokestatic 260, 3) := by decide +kernel
theorem dX12_copy_11 : decode cX12_copy 11 = .ok (.ifCond .ne 9, 3) := by decide +kernel
theorem dX12_copy_14 : decode cX12_copy 14 = .ok (.aload_n 0, 1) := by decide +kernel
theorem dX12_copy_15 : decode cX12_copy 15 = .ok (.iconst (-1), 1) := by decide +kernel
theorem dX12_copy_16 : decode cX12_copy 16 = .ok (.invokevirtual 263, 3) := by decide +kernel
theorem dX12_copy_19 : decode cX12_copy 19 = .ok (.ireturn, 1) := by decide +kernel
theorem dX12_copy_20 : decode cX12_copy 20 = .ok (.aload_n 0, 1) := by decide +kernel
theorem dX12_copy_21 : decode cX12_copy 21 = .ok (.getfield 16, 3) := by decide +kernel
theorem dX12_copy_24 : decode cX12_copy 24 = .ok (.iload_n 1, 1) := by decide +kernel
theorem dX12_copy_25 : decode cX12_copy 25 = .ok (.iaload, 1) := by decide +kernel
theorem dX12_copy_26 : decode cX12_copy 26 = .ok (.iconst 2, 1) := by decide +kernel
theorem dX12_copy_27 : decode cX12_copy 27 = .ok (.if_icmp .eq 48, 3) := by decide +kernel
theorem dX12_copy_30 : decode cX12_copy 30 = .ok (.aload_n 0, 1) := by decide +kernel
theorem dX12_copy_31 : decode cX12_copy 31 = .ok (.getfield 16, 3) := by decide +kernel
theorem dX12_copy_34 : decode cX12_copy 34 = .ok (.iload_n 2, 1) := by decide +kernel
theorem dX12_copy_35 : decode cX12_copy 35 = .ok (.iaload, 1) := by decide +kernel
theorem dX12_copy_36 : decode cX12_copy 36 = .ok (.iconst 2, 1) := by decide +kernel
theorem dX12_copy_37 : decode cX12_copy 37 = .ok (.if_icmp .eq 38, 3) := by decide +kernel
theorem dX12_copy_40 : decode cX12_copy 40 = .ok (.aload_n 0, 1) := by decide +kernel
theorem dX12_copy_41 : decode cX12_copy 41 = .ok (.getfield 16, 3) := by decide +kernel
theorem dX12_copy_44 : decode cX12_copy 44 = .ok (.iload_n 1, 1) := by decide +kernel
theorem dX12_copy_45 : decode cX12_copy 45 = .ok (.iaload, 1) := by decide +kernel
theorem dX12_copy_46 : decode cX12_copy 46 = .ok (.iconst 1, 1) := by decide +kernel
theorem dX12_copy_47 : decode cX12_copy 47 = .ok (.if_icmp .ne 35, 3) := by decide +kernel
theorem dX12_copy_50 : decode cX12_copy 50 = .ok (.aload_n 0, 1) := by decide +kernel
theorem dX12_copy_51 : decode cX12_copy 51 = .ok (.getfield 16, 3) := by decide +kernel
theorem dX12_copy_54 : decode cX12_copy 54 = .ok (.iload_n 2, 1) := by decide +kernel
theorem dX12_copy_55 : decode cX12_copy 55 = .ok (.iaload, 1) := by decide +kernel
theorem dX12_copy_56 : decode cX12_copy 56 = .ok (.iconst 1, 1) := by decide +kernel
theorem dX12_copy_57 : decode cX12_copy 57 = .ok (.if_icmp .ne 25, 3) := by decide +kernel
theorem dX12_copy_60 : decode cX12_copy 60 = .ok (.aload_n 0, 1) := by decide +kernel
theorem dX12_copy_61 : decode cX12_copy 61 = .ok (.getfield 20, 3) := by decide +kernel
theorem dX12_copy_64 : decode cX12_copy 64 = .ok (.iload_n 1, 1) := by decide +kernel
theorem dX12_copy_65 : decode cX12_copy 65 = .ok (.iaload, 1) := by decide +kernel
theorem dX12_copy_66 : decode cX12_copy 66 = .ok (.aload_n 0, 1) := by decide +kernel
theorem dX12_copy_67 : decode cX12_copy 67 = .ok (.getfield 20, 3) := by decide +kernel
theorem dX12_copy_70 : decode cX12_copy 70 = .ok (.iload_n 2, 1) := by decide +kernel
theorem dX12_copy_71 : decode cX12_copy 71 = .ok (.iaload, 1) := by decide +kernel
theorem dX12_copy_72 : decode cX12_copy 72 = .ok (.if_icmp .eq 10, 3) := by decide +kernel
theorem dX12_copy_75 : decode cX12_copy 75 = .ok (.aload_n 0, 1) := by decide +kernel
theorem dX12_copy_76 : decode cX12_copy 76 = .ok (.bipush (-2), 2) := by decide +kernel
theorem dX12_copy_78 : decode cX12_copy 78 = .ok (.invokevirtual 263, 3) := by decide +kernel
theorem dX12_copy_81 : decode cX12_copy 81 = .ok (.ireturn, 1) := by decide +kernel
theorem dX12_copy_82 : decode cX12_copy 82 = .ok (.aload_n 0, 1) := by decide +kernel
theorem dX12_copy_83 : decode cX12_copy 83 = .ok (.getfield 16, 3) := by decide +kernel
theorem dX12_copy_86 : decode cX12_copy 86 = .ok (.iload_n 1, 1) := by decide +kernel
theorem dX12_copy_87 : decode cX12_copy 87 = .ok (.iaload, 1) := by decide +kernel
theorem dX12_copy_88 : decode cX12_copy 88 = .ok (.ifCond .eq 12, 3) := by decide +kernel
theorem dX12_copy_91 : decode cX12_copy 91 = .ok (.aload_n 0, 1) := by decide +kernel
theorem dX12_copy_92 : decode cX12_copy 92 = .ok (.getfield 16, 3) := by decide +kernel
theorem dX12_copy_95 : decode cX12_copy 95 = .ok (.iload_n 2, 1) := by decide +kernel
theorem dX12_copy_96 : decode cX12_copy 96 = .ok (.iaload, 1) := by decide +kernel
theorem dX12_copy_97 : decode cX12_copy 97 = .ok (.ifCond .ne 10, 3) := by decide +kernel
theorem dX12_copy_100 : decode cX12_copy 100 = .ok (.aload_n 0, 1) := by decide +kernel
theorem dX12_copy_101 : decode cX12_copy 101 = .ok (.bipush (-3), 2) := by decide +kernel
theorem dX12_copy_103 : decode cX12_copy 103 = .ok (.invokevirtual 263, 3) := by decide +kernel
theorem dX12_copy_106 : decode cX12_copy 106 = .ok (.ireturn, 1) := by decide +kernel
theorem dX12_copy_107 : decode cX12_copy 107 = .ok (.iload 5, 2) := by decide +kernel
theorem dX12_copy_109 : decode cX12_copy 109 = .ok (.ifCond .ge 10, 3) := by decide +kernel
theorem dX12_copy_112 : decode cX12_copy 112 = .ok (.aload_n 0, 1) := by decide +kernel
theorem dX12_copy_113 : decode cX12_copy 113 = .ok (.bipush (-4), 2) := by decide +kernel
theorem dX12_copy_115 : decode cX12_copy 115 = .ok (.invokevirtual 263, 3) := by decide +kernel
theorem dX12_copy_118 : decode cX12_copy 118 = .ok (.ireturn, 1) := by decide +kernel
theorem dX12_copy_119 : decode cX12_copy 119 = .ok (.iload_n 3, 1) := by decide +kernel
theorem dX12_copy_120 : decode cX12_copy 120 = .ok (.ifCond .lt 35, 3) := by decide +kernel
theorem dX12_copy_123 : decode cX12_copy 123 = .ok (.iload 4, 2) := by decide +kernel
theorem dX12_copy_125 : decode cX12_copy 125 = .ok (.ifCond .lt 30, 3) := by decide +kernel
theorem dX12_copy_128 : decode cX12_copy 128 = .ok (.iload_n 3, 1) := by decide +kernel
theorem dX12_copy_129 : decode cX12_copy 129 = .ok (.aload_n 0, 1) := by decide +kernel
theorem dX12_copy_130 : decode cX12_copy 130 = .ok (.getfield 23, 3) := by decide +kernel
theorem dX12_copy_133 : decode cX12_copy 133 = .ok (.iload_n 1, 1) := by decide +kernel
theorem dX12_copy_134 : decode cX12_copy 134 = .ok (.iaload, 1) := by decide +kernel
theorem dX12_copy_135 : decode cX12_copy 135 = .ok (.iload 5, 2) := by decide +kernel
theorem dX12_copy_137 : decode cX12_copy 137 = .ok (.isub, 1) := by decide +kernel
theorem dX12_copy_138 : decode cX12_copy 138 = .ok (.if_icmp .gt 17, 3) := by decide +kernel
theorem dX12_copy_141 : decode cX12_copy 141 = .ok (.iload 4, 2) := by decide +kernel
theorem dX12_copy_143 : decode cX12_copy 143 = .ok (.aload_n 0, 1) := by decide +kernel
theorem dX12_copy_144 : decode cX12_copy 144 = .ok (.getfield 23, 3) := by decide +kernel
theorem dX12_copy_147 : decode cX12_copy 147 = .ok (.iload_n 2, 1) := by decide +kernel
theorem dX12_copy_148 : decode cX12_copy 148 = .ok (.iaload, 1) := by decide +kernel
theorem dX12_copy_149 : decode cX12_copy 149 = .ok (.iload 5, 2) := by decide +kernel
theorem dX12_copy_151 : decode cX12_copy 151 = .ok (.isub, 1) := by decide +kernel
theorem dX12_copy_152 : decode cX12_copy 152 = .ok (.if_icmp .le 10, 3) := by decide +kernel
theorem dX12_copy_155 : decode cX12_copy 155 = .ok (.aload_n 0, 1) := by decide +kernel
theorem dX12_copy_156 : decode cX12_copy 156 = .ok (.bipush (-5), 2) := by decide +kernel
theorem dX12_copy_158 : decode cX12_copy 158 = .ok (.invokevirtual 263, 3) := by decide +kernel
theorem dX12_copy_161 : decode cX12_copy 161 = .ok (.ireturn, 1) := by decide +kernel
theorem dX12_copy_162 : decode cX12_copy 162 = .ok (.iconst 0, 1) := by decide +kernel
theorem dX12_copy_163 : decode cX12_copy 163 = .ok (.istore 6, 2) := by decide +kernel
theorem dX12_copy_165 : decode cX12_copy 165 = .ok (.iload 6, 2) := by decide +kernel
theorem dX12_copy_167 : decode cX12_copy 167 = .ok (.iload 5, 2) := by decide +kernel
theorem dX12_copy_169 : decode cX12_copy 169 = .ok (.if_icmp .ge 30, 3) := by decide +kernel
theorem dX12_copy_172 : decode cX12_copy 172 = .ok (.aload_n 0, 1) := by decide +kernel
theorem dX12_copy_173 : decode cX12_copy 173 = .ok (.getfield 33, 3) := by decide +kernel
theorem dX12_copy_176 : decode cX12_copy 176 = .ok (.iload 6, 2) := by decide +kernel
theorem dX12_copy_178 : decode cX12_copy 178 = .ok (.aload_n 0, 1) := by decide +kernel
theorem dX12_copy_179 : decode cX12_copy 179 = .ok (.getfield 29, 3) := by decide +kernel
theorem dX12_copy_182 : decode cX12_copy 182 = .ok (.bipush 60, 2) := by decide +kernel
theorem dX12_copy_184 : decode cX12_copy 184 = .ok (.iload_n 1, 1) := by decide +kernel
theorem dX12_copy_185 : decode cX12_copy 185 = .ok (.imul, 1) := by decide +kernel
theorem dX12_copy_186 : decode cX12_copy 186 = .ok (.iload_n 3, 1) := by decide +kernel
theorem dX12_copy_187 : decode cX12_copy 187 = .ok (.iadd, 1) := by decide +kernel
theorem dX12_copy_188 : decode cX12_copy 188 = .ok (.iload 6, 2) := by decide +kernel
theorem dX12_copy_190 : decode cX12_copy 190 = .ok (.iadd, 1) := by decide +kernel
theorem dX12_copy_191 : decode cX12_copy 191 = .ok (.laload, 1) := by decide +kernel
theorem dX12_copy_192 : decode cX12_copy 192 = .ok (.lastore, 1) := by decide +kernel
theorem dX12_copy_193 : decode cX12_copy 193 = .ok (.iinc 6 1, 3) := by decide +kernel
theorem dX12_copy_196 : decode cX12_copy 196 = .ok (.goto (-31), 3) := by decide +kernel
theorem dX12_copy_199 : decode cX12_copy 199 = .ok (.iconst 0, 1) := by decide +kernel
theorem dX12_copy_200 : decode cX12_copy 200 = .ok (.istore 6, 2) := by decide +kernel
theorem dX12_copy_202 : decode cX12_copy 202 = .ok (.iload 6, 2) := by decide +kernel
theorem dX12_copy_204 : decode cX12_copy 204 = .ok (.iload 5, 2) := by decide +kernel
theorem dX12_copy_206 : decode cX12_copy 206 = .ok (.if_icmp .ge 31, 3) := by decide +kernel
theorem dX12_copy_209 : decode cX12_copy 209 = .ok (.aload_n 0, 1) := by decide +kernel
theorem dX12_copy_210 : decode cX12_copy 210 = .ok (.getfield 29, 3) := by decide +kernel
theorem dX12_copy_213 : decode cX12_copy 213 = .ok (.bipush 60, 2) := by decide +kernel
theorem dX12_copy_215 : decode cX12_copy 215 = .ok (.iload_n 2, 1) := by decide +kernel
theorem dX12_copy_216 : decode cX12_copy 216 = .ok (.imul, 1) := by decide +kernel
theorem dX12_copy_217 : decode cX12_copy 217 = .ok (.iload 4, 2) := by decide +kernel
theorem dX12_copy_219 : decode cX12_copy 219 = .ok (.iadd, 1) := by decide +kernel
theorem dX12_copy_220 : decode cX12_copy 220 = .ok (.iload 6, 2) := by decide +kernel
theorem dX12_copy_222 : decode cX12_copy 222 = .ok (.iadd, 1) := by decide +kernel
theorem dX12_copy_223 : decode cX12_copy 223 = .ok (.aload_n 0, 1) := by decide +kernel
theorem dX12_copy_224 : decode cX12_copy 224 = .ok (.getfield 33, 3) := by decide +kernel
theorem dX12_copy_227 : decode cX12_copy 227 = .ok (.iload 6, 2) := by decide +kernel
theorem dX12_copy_229 : decode cX12_copy 229 = .ok (.laload, 1) := by decide +kernel
theorem dX12_copy_230 : decode cX12_copy 230 = .ok (.lastore, 1) := by decide +kernel
theorem dX12_copy_231 : decode cX12_copy 231 = .ok (.iinc 6 1, 3) := by decide +kernel
theorem dX12_copy_234 : decode cX12_copy 234 = .ok (.goto (-32), 3) := by decide +kernel
theorem dX12_copy_237 : decode cX12_copy 237 = .ok (.iconst 1, 1) := by decide +kernel
theorem dX12_copy_238 : decode cX12_copy 238 = .ok (.ireturn, 1) := by decide +kernel
theorem dX12_element_0 : decode cX12_element 0 = .ok (.iload_n 1, 1) := by decide +kernel
theorem dX12_element_1 : decode cX12_element 1 = .ok (.invokestatic 260, 3) := by decide +kernel
theorem dX12_element_4 : decode cX12_element 4 = .ok (.ifCond .eq 41, 3) := by decide +kernel
theorem dX12_element_7 : decode cX12_element 7 = .ok (.aload_n 0, 1) := by decide +kernel
theorem dX12_element_8 : decode cX12_element 8 = .ok (.getfield 16, 3) := by decide +kernel
theorem dX12_element_11 : decode cX12_element 11 = .ok (.iload_n 1, 1) := by decide +kernel
theorem dX12_element_12 : decode cX12_element 12 = .ok (.iaload, 1) := by decide +kernel
theorem dX12_element_13 : decode cX12_element 13 = .ok (.iconst 1, 1) := by decide +kernel
theorem dX12_element_14 : decode cX12_element 14 = .ok (.if_icmp .ne 31, 3) := by decide +kernel
theorem dX12_element_17 : decode cX12_element 17 = .ok (.iload_n 2, 1) := by decide +kernel
theorem dX12_element_18 : decode cX12_element 18 = .ok (.ifCond .lt 27, 3) := by decide +kernel
theorem dX12_element_21 : decode cX12_element 21 = .ok (.iload_n 2, 1) := by decide +kernel
theorem dX12_element_22 : decode cX12_element 22 = .ok (.aload_n 0, 1) := by decide +kernel
theorem dX12_element_23 : decode cX12_element 23 = .ok (.getfield 23, 3) := by decide +kernel
theorem dX12_element_26 : decode cX12_element 26 = .ok (.iload_n 1, 1) := by decide +kernel
theorem dX12_element_27 : decode cX12_element 27 = .ok (.iaload, 1) := by decide +kernel
theorem dX12_element_28 : decode cX12_element 28 = .ok (.if_icmp .ge 17, 3) := by decide +kernel
theorem dX12_element_31 : decode cX12_element 31 = .ok (.aload_n 0, 1) := by decide +kernel
theorem dX12_element_32 : decode cX12_element 32 = .ok (.getfield 29, 3) := by decide +kernel
theorem dX12_element_35 : decode cX12_element 35 = .ok (.bipush 60, 2) := by decide +kernel
theorem dX12_element_37 : decode cX12_element 37 = .ok (.iload_n 1, 1) := by decide +kernel
theorem dX12_element_38 : decode cX12_element 38 = .ok (.imul, 1) := by decide +kernel
theorem dX12_element_39 : decode cX12_element 39 = .ok (.iload_n 2, 1) := by decide +kernel
theorem dX12_element_40 : decode cX12_element 40 = .ok (.iadd, 1) := by decide +kernel
theorem dX12_element_41 : decode cX12_element 41 = .ok (.laload, 1) := by decide +kernel
theorem dX12_element_42 : decode cX12_element 42 = .ok (.goto 4, 3) := by decide +kernel
theorem dX12_element_45 : decode cX12_element 45 = .ok (.lconst 0, 1) := by decide +kernel
theorem dX12_element_46 : decode cX12_element 46 = .ok (.lreturn, 1) := by decide +kernel
theorem dX12_show_0 : decode cX12_show 0 = .ok (.iload_n 1, 1) := by decide +kernel
theorem dX12_show_1 : decode cX12_show 1 = .ok (.invokestatic 260, 3) := by decide +kernel
theorem dX12_show_4 : decode cX12_show 4 = .ok (.ifCond .eq 16, 3) := by decide +kernel
theorem dX12_show_7 : decode cX12_show 7 = .ok (.iload_n 2, 1) := by decide +kernel
theorem dX12_show_8 : decode cX12_show 8 = .ok (.iconst (-1), 1) := by decide +kernel
theorem dX12_show_9 : decode cX12_show 9 = .ok (.if_icmp .eq 17, 3) := by decide +kernel
theorem dX12_show_12 : decode cX12_show 12 = .ok (.aload_n 0, 1) := by decide +kernel
theorem dX12_show_13 : decode cX12_show 13 = .ok (.iload_n 2, 1) := by decide +kernel
theorem dX12_show_14 : decode cX12_show 14 = .ok (.invokevirtual 253, 3) := by decide +kernel
theorem dX12_show_17 : decode cX12_show 17 = .ok (.ifCond .ne 9, 3) := by decide +kernel
theorem dX12_show_20 : decode cX12_show 20 = .ok (.aload_n 0, 1) := by decide +kernel
theorem dX12_show_21 : decode cX12_show 21 = .ok (.iconst (-1), 1) := by decide +kernel
theorem dX12_show_22 : decode cX12_show 22 = .ok (.invokevirtual 263, 3) := by decide +kernel
theorem dX12_show_25 : decode cX12_show 25 = .ok (.ireturn, 1) := by decide +kernel
theorem dX12_show_26 : decode cX12_show 26 = .ok (.aload_n 0, 1) := by decide +kernel
theorem dX12_show_27 : decode cX12_show 27 = .ok (.getfield 16, 3) := by decide +kernel
theorem dX12_show_30 : decode cX12_show 30 = .ok (.iload_n 1, 1) := by decide +kernel
theorem dX12_show_31 : decode cX12_show 31 = .ok (.iload_n 2, 1) := by decide +kernel
theorem dX12_show_32 : decode cX12_show 32 = .ok (.iconst (-1), 1) := by decide +kernel
theorem dX12_show_33 : decode cX12_show 33 = .ok (.if_icmp .ne 7, 3) := by decide +kernel
theorem dX12_show_36 : decode cX12_show 36 = .ok (.iconst 0, 1) := by decide +kernel
theorem dX12_show_37 : decode cX12_show 37 = .ok (.goto 4, 3) := by decide +kernel
theorem dX12_show_40 : decode cX12_show 40 = .ok (.iconst 2, 1) := by decide +kernel
theorem dX12_show_41 : decode cX12_show 41 = .ok (.iastore, 1) := by decide +kernel
theorem dX12_show_42 : decode cX12_show 42 = .ok (.aload_n 0, 1) := by decide +kernel
theorem dX12_show_43 : decode cX12_show 43 = .ok (.getfield 26, 3) := by decide +kernel
theorem dX12_show_46 : decode cX12_show 46 = .ok (.iload_n 1, 1) := by decide +kernel
theorem dX12_show_47 : decode cX12_show 47 = .ok (.iload_n 2, 1) := by decide +kernel
theorem dX12_show_48 : decode cX12_show 48 = .ok (.iastore, 1) := by decide +kernel
theorem dX12_show_49 : decode cX12_show 49 = .ok (.iload_n 2, 1) := by decide +kernel
theorem dX12_show_50 : decode cX12_show 50 = .ok (.iconst (-1), 1) := by decide +kernel
theorem dX12_show_51 : decode cX12_show 51 = .ok (.if_icmp .ne 7, 3) := by decide +kernel
theorem dX12_show_54 : decode cX12_show 54 = .ok (.iconst 0, 1) := by decide +kernel
theorem dX12_show_55 : decode cX12_show 55 = .ok (.goto 4, 3) := by decide +kernel
theorem dX12_show_58 : decode cX12_show 58 = .ok (.iconst 1, 1) := by decide +kernel
theorem dX12_show_59 : decode cX12_show 59 = .ok (.ireturn, 1) := by decide +kernel
theorem dX12_holds_0 : decode cX12_holds 0 = .ok (.iload_n 1, 1) := by decide +kernel
theorem dX12_holds_1 : decode cX12_holds 1 = .ok (.invokestatic 260, 3) := by decide +kernel
theorem dX12_holds_4 : decode cX12_holds 4 = .ok (.ifCond .eq 12, 3) := by decide +kernel
theorem dX12_holds_7 : decode cX12_holds 7 = .ok (.aload_n 0, 1) := by decide +kernel
theorem dX12_holds_8 : decode cX12_holds 8 = .ok (.getfield 16, 3) := by decide +kernel
theorem dX12_holds_11 : decode cX12_holds 11 = .ok (.iload_n 1, 1) := by decide +kernel
theorem dX12_holds_12 : decode cX12_holds 12 = .ok (.iaload, 1) := by decide +kernel
theorem dX12_holds_13 : decode cX12_holds 13 = .ok (.ifCond .ne 5, 3) := by decide +kernel
theorem dX12_holds_16 : decode cX12_holds 16 = .ok (.iconst (-1), 1) := by decide +kernel
theorem dX12_holds_17 : decode cX12_holds 17 = .ok (.ireturn, 1) := by decide +kernel
theorem dX12_holds_18 : decode cX12_holds 18 = .ok (.aload_n 0, 1) := by decide +kernel
theorem dX12_holds_19 : decode cX12_holds 19 = .ok (.getfield 16, 3) := by decide +kernel
theorem dX12_holds_22 : decode cX12_holds 22 = .ok (.iload_n 1, 1) := by decide +kernel
theorem dX12_holds_23 : decode cX12_holds 23 = .ok (.iaload, 1) := by decide +kernel
theorem dX12_holds_24 : decode cX12_holds 24 = .ok (.iconst 1, 1) := by decide +kernel
theorem dX12_holds_25 : decode cX12_holds 25 = .ok (.if_icmp .ne 15, 3) := by decide +kernel
theorem dX12_holds_28 : decode cX12_holds 28 = .ok (.bipush 100, 2) := by decide +kernel
theorem dX12_holds_30 : decode cX12_holds 30 = .ok (.aload_n 0, 1) := by decide +kernel
theorem dX12_holds_31 : decode cX12_holds 31 = .ok (.getfield 20, 3) := by decide +kernel
theorem dX12_holds_34 : decode cX12_holds 34 = .ok (.iload_n 1, 1) := by decide +kernel
theorem dX12_holds_35 : decode cX12_holds 35 = .ok (.iaload, 1) := by decide +kernel
theorem dX12_holds_36 : decode cX12_holds 36 = .ok (.iadd, 1) := by decide +kernel
theorem dX12_holds_37 : decode cX12_holds 37 = .ok (.goto 9, 3) := by decide +kernel
theorem dX12_holds_40 : decode cX12_holds 40 = .ok (.aload_n 0, 1) := by decide +kernel
theorem dX12_holds_41 : decode cX12_holds 41 = .ok (.getfield 26, 3) := by decide +kernel
theorem dX12_holds_44 : decode cX12_holds 44 = .ok (.iload_n 1, 1) := by decide +kernel
theorem dX12_holds_45 : decode cX12_holds 45 = .ok (.iaload, 1) := by decide +kernel
theorem dX12_holds_46 : decode cX12_holds 46 = .ok (.ireturn, 1) := by decide +kernel
theorem dX12_isUnder_0 : decode cX12_isUnder 0 = .ok (.iload_n 0, 1) := by decide +kernel
theorem dX12_isUnder_1 : decode cX12_isUnder 1 = .ok (.istore_n 2, 1) := by decide +kernel
theorem dX12_isUnder_2 : decode cX12_isUnder 2 = .ok (.iload_n 2, 1) := by decide +kernel
theorem dX12_isUnder_3 : decode cX12_isUnder 3 = .ok (.iload_n 1, 1) := by decide +kernel
theorem dX12_isUnder_4 : decode cX12_isUnder 4 = .ok (.if_icmp .eq 30, 3) := by decide +kernel
theorem dX12_isUnder_7 : decode cX12_isUnder 7 = .ok (.iload_n 2, 1) := by decide +kernel
theorem dX12_isUnder_8 : decode cX12_isUnder 8 = .ok (.ifCond .eq 26, 3) := by decide +kernel
theorem dX12_isUnder_11 : decode cX12_isUnder 11 = .ok (.iload_n 2, 1) := by decide +kernel
theorem dX12_isUnder_12 : decode cX12_isUnder 12 = .ok (.iconst 2, 1) := by decide +kernel
theorem dX12_isUnder_13 : decode cX12_isUnder 13 = .ok (.if_icmp .ne 7, 3) := by decide +kernel
theorem dX12_isUnder_16 : decode cX12_isUnder 16 = .ok (.iconst 1, 1) := by decide +kernel
theorem dX12_isUnder_17 : decode cX12_isUnder 17 = .ok (.goto 13, 3) := by decide +kernel
theorem dX12_isUnder_20 : decode cX12_isUnder 20 = .ok (.iload_n 2, 1) := by decide +kernel
theorem dX12_isUnder_21 : decode cX12_isUnder 21 = .ok (.iconst 4, 1) := by decide +kernel
theorem dX12_isUnder_22 : decode cX12_isUnder 22 = .ok (.if_icmp .ne 7, 3) := by decide +kernel
theorem dX12_isUnder_25 : decode cX12_isUnder 25 = .ok (.iconst 3, 1) := by decide +kernel
theorem dX12_isUnder_26 : decode cX12_isUnder 26 = .ok (.goto 4, 3) := by decide +kernel
theorem dX12_isUnder_29 : decode cX12_isUnder 29 = .ok (.iconst 0, 1) := by decide +kernel
theorem dX12_isUnder_30 : decode cX12_isUnder 30 = .ok (.istore_n 2, 1) := by decide +kernel
theorem dX12_isUnder_31 : decode cX12_isUnder 31 = .ok (.goto (-29), 3) := by decide +kernel
theorem dX12_isUnder_34 : decode cX12_isUnder 34 = .ok (.iload_n 2, 1) := by decide +kernel
theorem dX12_isUnder_35 : decode cX12_isUnder 35 = .ok (.iload_n 1, 1) := by decide +kernel
theorem dX12_isUnder_36 : decode cX12_isUnder 36 = .ok (.if_icmp .ne 7, 3) := by decide +kernel
theorem dX12_isUnder_39 : decode cX12_isUnder 39 = .ok (.iconst 1, 1) := by decide +kernel
theorem dX12_isUnder_40 : decode cX12_isUnder 40 = .ok (.goto 4, 3) := by decide +kernel
theorem dX12_isUnder_43 : decode cX12_isUnder 43 = .ok (.iconst 0, 1) := by decide +kernel
theorem dX12_isUnder_44 : decode cX12_isUnder 44 = .ok (.ireturn, 1) := by decide +kernel
theorem dX12_kindIn_0 : decode cX12_kindIn 0 = .ok (.iload_n 1, 1) := by decide +kernel
theorem dX12_kindIn_1 : decode cX12_kindIn 1 = .ok (.invokestatic 260, 3) := by decide +kernel
theorem dX12_kindIn_4 : decode cX12_kindIn 4 = .ok (.ifCond .eq 12, 3) := by decide +kernel
theorem dX12_kindIn_7 : decode cX12_kindIn 7 = .ok (.iload_n 2, 1) := by decide +kernel
theorem dX12_kindIn_8 : decode cX12_kindIn 8 = .ok (.ifCond .lt 8, 3) := by decide +kernel
theorem dX12_kindIn_11 : decode cX12_kindIn 11 = .ok (.iload_n 2, 1) := by decide +kernel
theorem dX12_kindIn_12 : decode cX12_kindIn 12 = .ok (.iconst 5, 1) := by decide +kernel
theorem dX12_kindIn_13 : decode cX12_kindIn 13 = .ok (.if_icmp .le 9, 3) := by decide +kernel
theorem dX12_kindIn_16 : decode cX12_kindIn 16 = .ok (.aload_n 0, 1) := by decide +kernel
theorem dX12_kindIn_17 : decode cX12_kindIn 17 = .ok (.iconst (-1), 1) := by decide +kernel
theorem dX12_kindIn_18 : decode cX12_kindIn 18 = .ok (.invokevirtual 263, 3) := by decide +kernel
theorem dX12_kindIn_21 : decode cX12_kindIn 21 = .ok (.ireturn, 1) := by decide +kernel
theorem dX12_kindIn_22 : decode cX12_kindIn 22 = .ok (.aload_n 0, 1) := by decide +kernel
theorem dX12_kindIn_23 : decode cX12_kindIn 23 = .ok (.getfield 16, 3) := by decide +kernel
theorem dX12_kindIn_26 : decode cX12_kindIn 26 = .ok (.iload_n 1, 1) := by decide +kernel
theorem dX12_kindIn_27 : decode cX12_kindIn 27 = .ok (.iaload, 1) := by decide +kernel
theorem dX12_kindIn_28 : decode cX12_kindIn 28 = .ok (.iconst 1, 1) := by decide +kernel
theorem dX12_kindIn_29 : decode cX12_kindIn 29 = .ok (.if_icmp .eq 31, 3) := by decide +kernel
theorem dX12_kindIn_32 : decode cX12_kindIn 32 = .ok (.aload_n 0, 1) := by decide +kernel
theorem dX12_kindIn_33 : decode cX12_kindIn 33 = .ok (.getfield 16, 3) := by decide +kernel
theorem dX12_kindIn_36 : decode cX12_kindIn 36 = .ok (.iload_n 1, 1) := by decide +kernel
theorem dX12_kindIn_37 : decode cX12_kindIn 37 = .ok (.iaload, 1) := by decide +kernel
theorem dX12_kindIn_38 : decode cX12_kindIn 38 = .ok (.iconst 2, 1) := by decide +kernel
theorem dX12_kindIn_39 : decode cX12_kindIn 39 = .ok (.if_icmp .ne 28, 3) := by decide +kernel
theorem dX12_kindIn_42 : decode cX12_kindIn 42 = .ok (.aload_n 0, 1) := by decide +kernel
theorem dX12_kindIn_43 : decode cX12_kindIn 43 = .ok (.getfield 88, 3) := by decide +kernel
theorem dX12_kindIn_46 : decode cX12_kindIn 46 = .ok (.aload_n 0, 1) := by decide +kernel
theorem dX12_kindIn_47 : decode cX12_kindIn 47 = .ok (.getfield 26, 3) := by decide +kernel
theorem dX12_kindIn_50 : decode cX12_kindIn 50 = .ok (.iload_n 1, 1) := by decide +kernel
theorem dX12_kindIn_51 : decode cX12_kindIn 51 = .ok (.iaload, 1) := by decide +kernel
theorem dX12_kindIn_52 : decode cX12_kindIn 52 = .ok (.iaload, 1) := by decide +kernel
theorem dX12_kindIn_53 : decode cX12_kindIn 53 = .ok (.iload_n 2, 1) := by decide +kernel
theorem dX12_kindIn_54 : decode cX12_kindIn 54 = .ok (.invokestatic 267, 3) := by decide +kernel
theorem dX12_kindIn_57 : decode cX12_kindIn 57 = .ok (.ifCond .ne 10, 3) := by decide +kernel
theorem dX12_kindIn_60 : decode cX12_kindIn 60 = .ok (.aload_n 0, 1) := by decide +kernel
theorem dX12_kindIn_61 : decode cX12_kindIn 61 = .ok (.bipush (-2), 2) := by decide +kernel
theorem dX12_kindIn_63 : decode cX12_kindIn 63 = .ok (.invokevirtual 263, 3) := by decide +kernel
theorem dX12_kindIn_66 : decode cX12_kindIn 66 = .ok (.ireturn, 1) := by decide +kernel
theorem dX12_kindIn_67 : decode cX12_kindIn 67 = .ok (.aload_n 0, 1) := by decide +kernel
theorem dX12_kindIn_68 : decode cX12_kindIn 68 = .ok (.getfield 16, 3) := by decide +kernel
theorem dX12_kindIn_71 : decode cX12_kindIn 71 = .ok (.iload_n 1, 1) := by decide +kernel
theorem dX12_kindIn_72 : decode cX12_kindIn 72 = .ok (.iaload, 1) := by decide +kernel
theorem dX12_kindIn_73 : decode cX12_kindIn 73 = .ok (.ifCond .ne 12, 3) := by decide +kernel
theorem dX12_kindIn_76 : decode cX12_kindIn 76 = .ok (.aload_n 0, 1) := by decide +kernel
theorem dX12_kindIn_77 : decode cX12_kindIn 77 = .ok (.bipush (-3), 2) := by decide +kernel
theorem dX12_kindIn_79 : decode cX12_kindIn 79 = .ok (.invokevirtual 263, 3) := by decide +kernel
theorem dX12_kindIn_82 : decode cX12_kindIn 82 = .ok (.goto 14, 3) := by decide +kernel
theorem dX12_kindIn_85 : decode cX12_kindIn 85 = .ok (.aload_n 0, 1) := by decide +kernel
theorem dX12_kindIn_86 : decode cX12_kindIn 86 = .ok (.getfield 88, 3) := by decide +kernel
theorem dX12_kindIn_89 : decode cX12_kindIn 89 = .ok (.aload_n 0, 1) := by decide +kernel
theorem dX12_kindIn_90 : decode cX12_kindIn 90 = .ok (.getfield 26, 3) := by decide +kernel
theorem dX12_kindIn_93 : decode cX12_kindIn 93 = .ok (.iload_n 1, 1) := by decide +kernel
theorem dX12_kindIn_94 : decode cX12_kindIn 94 = .ok (.iaload, 1) := by decide +kernel
theorem dX12_kindIn_95 : decode cX12_kindIn 95 = .ok (.iaload, 1) := by decide +kernel
theorem dX12_kindIn_96 : decode cX12_kindIn 96 = .ok (.ireturn, 1) := by decide +kernel
theorem dX12_wants_0 : decode cX12_wants 0 = .ok (.iload_n 1, 1) := by decide +kernel
theorem dX12_wants_1 : decode cX12_wants 1 = .ok (.invokestatic 260, 3) := by decide +kernel
theorem dX12_wants_4 : decode cX12_wants 4 = .ok (.ifCond .ne 7, 3) := by decide +kernel
theorem dX12_wants_7 : decode cX12_wants 7 = .ok (.iconst (-1), 1) := by decide +kernel
theorem dX12_wants_8 : decode cX12_wants 8 = .ok (.goto 33, 3) := by decide +kernel
theorem dX12_wants_11 : decode cX12_wants 11 = .ok (.aload_n 0, 1) := by decide +kernel
theorem dX12_wants_12 : decode cX12_wants 12 = .ok (.getfield 16, 3) := by decide +kernel
theorem dX12_wants_15 : decode cX12_wants 15 = .ok (.iload_n 1, 1) := by decide +kernel
theorem dX12_wants_16 : decode cX12_wants 16 = .ok (.iaload, 1) := by decide +kernel
theorem dX12_wants_17 : decode cX12_wants 17 = .ok (.iconst 2, 1) := by decide +kernel
theorem dX12_wants_18 : decode cX12_wants 18 = .ok (.if_icmp .ne 8, 3) := by decide +kernel
theorem dX12_wants_21 : decode cX12_wants 21 = .ok (.bipush (-2), 2) := by decide +kernel
theorem dX12_wants_23 : decode cX12_wants 23 = .ok (.goto 18, 3) := by decide +kernel
theorem dX12_wants_26 : decode cX12_wants 26 = .ok (.aload_n 0, 1) := by decide +kernel
theorem dX12_wants_27 : decode cX12_wants 27 = .ok (.getfield 16, 3) := by decide +kernel
theorem dX12_wants_30 : decode cX12_wants 30 = .ok (.iload_n 1, 1) := by decide +kernel
theorem dX12_wants_31 : decode cX12_wants 31 = .ok (.iaload, 1) := by decide +kernel
theorem dX12_wants_32 : decode cX12_wants 32 = .ok (.ifCond .ne 8, 3) := by decide +kernel
theorem dX12_wants_35 : decode cX12_wants 35 = .ok (.bipush (-3), 2) := by decide +kernel
theorem dX12_wants_37 : decode cX12_wants 37 = .ok (.goto 4, 3) := by decide +kernel
theorem dX12_wants_40 : decode cX12_wants 40 = .ok (.iconst 0, 1) := by decide +kernel
theorem dX12_wants_41 : decode cX12_wants 41 = .ok (.ireturn, 1) := by decide +kernel
theorem dX12_person_0 : decode cX12_person 0 = .ok (.iload_n 1, 1) := by decide +kernel
theorem dX12_person_1 : decode cX12_person 1 = .ok (.iconst 1, 1) := by decide +kernel
theorem dX12_person_2 : decode cX12_person 2 = .ok (.if_icmp .lt 10, 3) := by decide +kernel
theorem dX12_person_5 : decode cX12_person 5 = .ok (.iload_n 1, 1) := by decide +kernel
theorem dX12_person_6 : decode cX12_person 6 = .ok (.sipush 999, 3) := by decide +kernel
theorem dX12_person_9 : decode cX12_person 9 = .ok (.if_icmp .le 10, 3) := by decide +kernel
theorem dX12_person_12 : decode cX12_person 12 = .ok (.aload_n 0, 1) := by decide +kernel
theorem dX12_person_13 : decode cX12_person 13 = .ok (.bipush (-6), 2) := by decide +kernel
theorem dX12_person_15 : decode cX12_person 15 = .ok (.invokevirtual 263, 3) := by decide +kernel
theorem dX12_person_18 : decode cX12_person 18 = .ok (.ireturn, 1) := by decide +kernel
theorem dX12_person_19 : decode cX12_person 19 = .ok (.aload_n 0, 1) := by decide +kernel
theorem dX12_person_20 : decode cX12_person 20 = .ok (.getfield 247, 3) := by decide +kernel
theorem dX12_person_23 : decode cX12_person 23 = .ok (.bipush 16, 2) := by decide +kernel
theorem dX12_person_25 : decode cX12_person 25 = .ok (.if_icmp .ne 10, 3) := by decide +kernel
theorem dX12_person_28 : decode cX12_person 28 = .ok (.aload_n 0, 1) := by decide +kernel
theorem dX12_person_29 : decode cX12_person 29 = .ok (.bipush (-7), 2) := by decide +kernel
theorem dX12_person_31 : decode cX12_person 31 = .ok (.invokevirtual 263, 3) := by decide +kernel
theorem dX12_person_34 : decode cX12_person 34 = .ok (.ireturn, 1) := by decide +kernel
theorem dX12_person_35 : decode cX12_person 35 = .ok (.aload_n 0, 1) := by decide +kernel
theorem dX12_person_36 : decode cX12_person 36 = .ok (.getfield 36, 3) := by decide +kernel
theorem dX12_person_39 : decode cX12_person 39 = .ok (.aload_n 0, 1) := by decide +kernel
theorem dX12_person_40 : decode cX12_person 40 = .ok (.getfield 247, 3) := by decide +kernel
theorem dX12_person_43 : decode cX12_person 43 = .ok (.iload_n 1, 1) := by decide +kernel
theorem dX12_person_44 : decode cX12_person 44 = .ok (.iastore, 1) := by decide +kernel
theorem dX12_person_45 : decode cX12_person 45 = .ok (.aload_n 0, 1) := by decide +kernel
theorem dX12_person_46 : decode cX12_person 46 = .ok (.dup, 1) := by decide +kernel
theorem dX12_person_47 : decode cX12_person 47 = .ok (.getfield 247, 3) := by decide +kernel
theorem dX12_person_50 : decode cX12_person 50 = .ok (.dup_x1, 1) := by decide +kernel
theorem dX12_person_51 : decode cX12_person 51 = .ok (.iconst 1, 1) := by decide +kernel
theorem dX12_person_52 : decode cX12_person 52 = .ok (.iadd, 1) := by decide +kernel
theorem dX12_person_53 : decode cX12_person 53 = .ok (.putfield 247, 3) := by decide +kernel
theorem dX12_person_56 : decode cX12_person 56 = .ok (.ireturn, 1) := by decide +kernel
theorem dX12_slot_0 : decode cX12_slot 0 = .ok (.iload_n 0, 1) := by decide +kernel
theorem dX12_slot_1 : decode cX12_slot 1 = .ok (.bipush 121, 2) := by decide +kernel
theorem dX12_slot_3 : decode cX12_slot 3 = .ok (.if_icmp .ne 7, 3) := by decide +kernel
theorem dX12_slot_6 : decode cX12_slot 6 = .ok (.iconst 0, 1) := by decide +kernel
theorem dX12_slot_7 : decode cX12_slot 7 = .ok (.goto 54, 3) := by decide +kernel
theorem dX12_slot_10 : decode cX12_slot 10 = .ok (.iload_n 0, 1) := by decide +kernel
theorem dX12_slot_11 : decode cX12_slot 11 = .ok (.bipush 119, 2) := by decide +kernel
theorem dX12_slot_13 : decode cX12_slot 13 = .ok (.if_icmp .ne 7, 3) := by decide +kernel
theorem dX12_slot_16 : decode cX12_slot 16 = .ok (.iconst 1, 1) := by decide +kernel
theorem dX12_slot_17 : decode cX12_slot 17 = .ok (.goto 44, 3) := by decide +kernel
theorem dX12_slot_20 : decode cX12_slot 20 = .ok (.iload_n 0, 1) := by decide +kernel
theorem dX12_slot_21 : decode cX12_slot 21 = .ok (.bipush 115, 2) := by decide +kernel
theorem dX12_slot_23 : decode cX12_slot 23 = .ok (.if_icmp .ne 7, 3) := by decide +kernel
theorem dX12_slot_26 : decode cX12_slot 26 = .ok (.iconst 2, 1) := by decide +kernel
theorem dX12_slot_27 : decode cX12_slot 27 = .ok (.goto 34, 3) := by decide +kernel
theorem dX12_slot_30 : decode cX12_slot 30 = .ok (.iload_n 0, 1) := by decide +kernel
theorem dX12_slot_31 : decode cX12_slot 31 = .ok (.bipush 114, 2) := by decide +kernel
theorem dX12_slot_33 : decode cX12_slot 33 = .ok (.if_icmp .ne 7, 3) := by decide +kernel
theorem dX12_slot_36 : decode cX12_slot 36 = .ok (.iconst 3, 1) := by decide +kernel
theorem dX12_slot_37 : decode cX12_slot 37 = .ok (.goto 24, 3) := by decide +kernel
theorem dX12_slot_40 : decode cX12_slot 40 = .ok (.iload_n 0, 1) := by decide +kernel
theorem dX12_slot_41 : decode cX12_slot 41 = .ok (.bipush 112, 2) := by decide +kernel
theorem dX12_slot_43 : decode cX12_slot 43 = .ok (.if_icmp .ne 7, 3) := by decide +kernel
theorem dX12_slot_46 : decode cX12_slot 46 = .ok (.iconst 4, 1) := by decide +kernel
theorem dX12_slot_47 : decode cX12_slot 47 = .ok (.goto 14, 3) := by decide +kernel
theorem dX12_slot_50 : decode cX12_slot 50 = .ok (.iload_n 0, 1) := by decide +kernel
theorem dX12_slot_51 : decode cX12_slot 51 = .ok (.bipush 108, 2) := by decide +kernel
theorem dX12_slot_53 : decode cX12_slot 53 = .ok (.if_icmp .ne 7, 3) := by decide +kernel
theorem dX12_slot_56 : decode cX12_slot 56 = .ok (.iconst 5, 1) := by decide +kernel
theorem dX12_slot_57 : decode cX12_slot 57 = .ok (.goto 4, 3) := by decide +kernel
theorem dX12_slot_60 : decode cX12_slot 60 = .ok (.iconst (-1), 1) := by decide +kernel
theorem dX12_slot_61 : decode cX12_slot 61 = .ok (.ireturn, 1) := by decide +kernel
theorem dX12_top_0 : decode cX12_top 0 = .ok (.iload_n 0, 1) := by decide +kernel
theorem dX12_top_1 : decode cX12_top 1 = .ok (.ifCond .ne 8, 3) := by decide +kernel
theorem dX12_top_4 : decode cX12_top 4 = .ok (.bipush 9, 2) := by decide +kernel
theorem dX12_top_6 : decode cX12_top 6 = .ok (.goto 44, 3) := by decide +kernel
theorem dX12_top_9 : decode cX12_top 9 = .ok (.iload_n 0, 1) := by decide +kernel
theorem dX12_top_10 : decode cX12_top 10 = .ok (.iconst 1, 1) := by decide +kernel
theorem dX12_top_11 : decode cX12_top 11 = .ok (.if_icmp .ne 8, 3) := by decide +kernel
theorem dX12_top_14 : decode cX12_top 14 = .ok (.bipush 52, 2) := by decide +kernel
theorem dX12_top_16 : decode cX12_top 16 = .ok (.goto 34, 3) := by decide +kernel
theorem dX12_top_19 : decode cX12_top 19 = .ok (.iload_n 0, 1) := by decide +kernel
theorem dX12_top_20 : decode cX12_top 20 = .ok (.iconst 2, 1) := by decide +kernel
theorem dX12_top_21 : decode cX12_top 21 = .ok (.if_icmp .ne 7, 3) := by decide +kernel
theorem dX12_top_24 : decode cX12_top 24 = .ok (.iconst 1, 1) := by decide +kernel
theorem dX12_top_25 : decode cX12_top 25 = .ok (.goto 25, 3) := by decide +kernel
theorem dX12_top_28 : decode cX12_top 28 = .ok (.iload_n 0, 1) := by decide +kernel
theorem dX12_top_29 : decode cX12_top 29 = .ok (.iconst 3, 1) := by decide +kernel
theorem dX12_top_30 : decode cX12_top 30 = .ok (.if_icmp .ne 8, 3) := by decide +kernel
theorem dX12_top_33 : decode cX12_top 33 = .ok (.bipush 9, 2) := by decide +kernel
theorem dX12_top_35 : decode cX12_top 35 = .ok (.goto 15, 3) := by decide +kernel
theorem dX12_top_38 : decode cX12_top 38 = .ok (.iload_n 0, 1) := by decide +kernel
theorem dX12_top_39 : decode cX12_top 39 = .ok (.iconst 4, 1) := by decide +kernel
theorem dX12_top_40 : decode cX12_top 40 = .ok (.if_icmp .ne 8, 3) := by decide +kernel
theorem dX12_top_43 : decode cX12_top 43 = .ok (.bipush 50, 2) := by decide +kernel
theorem dX12_top_45 : decode cX12_top 45 = .ok (.goto 5, 3) := by decide +kernel
theorem dX12_top_48 : decode cX12_top 48 = .ok (.bipush 99, 2) := by decide +kernel
theorem dX12_top_50 : decode cX12_top 50 = .ok (.ireturn, 1) := by decide +kernel
theorem dX12_reads_0 : decode cX12_reads 0 = .ok (.iconst 0, 1) := by decide +kernel
theorem dX12_reads_1 : decode cX12_reads 1 = .ok (.istore_n 2, 1) := by decide +kernel
theorem dX12_reads_2 : decode cX12_reads 2 = .ok (.iload_n 2, 1) := by decide +kernel
theorem dX12_reads_3 : decode cX12_reads 3 = .ok (.bipush 6, 2) := by decide +kernel
theorem dX12_reads_5 : decode cX12_reads 5 = .ok (.if_icmp .ge 16, 3) := by decide +kernel
theorem dX12_reads_8 : decode cX12_reads 8 = .ok (.aload_n 0, 1) := by decide +kernel
theorem dX12_reads_9 : decode cX12_reads 9 = .ok (.getfield 196, 3) := by decide +kernel
theorem dX12_reads_12 : decode cX12_reads 12 = .ok (.iload_n 2, 1) := by decide +kernel
theorem dX12_reads_13 : decode cX12_reads 13 = .ok (.iconst (-1), 1) := by decide +kernel
theorem dX12_reads_14 : decode cX12_reads 14 = .ok (.iastore, 1) := by decide +kernel
theorem dX12_reads_15 : decode cX12_reads 15 = .ok (.iinc 2 1, 3) := by decide +kernel
theorem dX12_reads_18 : decode cX12_reads 18 = .ok (.goto (-16), 3) := by decide +kernel
theorem dX12_reads_21 : decode cX12_reads 21 = .ok (.iconst 0, 1) := by decide +kernel
theorem dX12_reads_22 : decode cX12_reads 22 = .ok (.istore_n 2, 1) := by decide +kernel
theorem dX12_reads_23 : decode cX12_reads 23 = .ok (.aload_n 0, 1) := by decide +kernel
theorem dX12_reads_24 : decode cX12_reads 24 = .ok (.getfield 23, 3) := by decide +kernel
theorem dX12_reads_27 : decode cX12_reads 27 = .ok (.iload_n 1, 1) := by decide +kernel
theorem dX12_reads_28 : decode cX12_reads 28 = .ok (.iaload, 1) := by decide +kernel
theorem dX12_reads_29 : decode cX12_reads 29 = .ok (.istore_n 3, 1) := by decide +kernel
theorem dX12_reads_30 : decode cX12_reads 30 = .ok (.iconst 0, 1) := by decide +kernel
theorem dX12_reads_31 : decode cX12_reads 31 = .ok (.istore 4, 2) := by decide +kernel
theorem dX12_reads_33 : decode cX12_reads 33 = .ok (.iload_n 2, 1) := by decide +kernel
theorem dX12_reads_34 : decode cX12_reads 34 = .ok (.iload_n 3, 1) := by decide +kernel
theorem dX12_reads_35 : decode cX12_reads 35 = .ok (.if_icmp .lt 8, 3) := by decide +kernel
theorem dX12_reads_38 : decode cX12_reads 38 = .ok (.iload 4, 2) := by decide +kernel
theorem dX12_reads_40 : decode cX12_reads 40 = .ok (.ifCond .ne 171, 3) := by decide +kernel
theorem dX12_reads_43 : decode cX12_reads 43 = .ok (.iload_n 2, 1) := by decide +kernel
theorem dX12_reads_44 : decode cX12_reads 44 = .ok (.iload_n 3, 1) := by decide +kernel
theorem dX12_reads_45 : decode cX12_reads 45 = .ok (.if_icmp .ne 5, 3) := by decide +kernel
theorem dX12_reads_48 : decode cX12_reads 48 = .ok (.iload_n 3, 1) := by decide +kernel
theorem dX12_reads_49 : decode cX12_reads 49 = .ok (.ireturn, 1) := by decide +kernel
theorem dX12_reads_50 : decode cX12_reads 50 = .ok (.aload_n 0, 1) := by decide +kernel
theorem dX12_reads_51 : decode cX12_reads 51 = .ok (.getfield 29, 3) := by decide +kernel
theorem dX12_reads_54 : decode cX12_reads 54 = .ok (.bipush 60, 2) := by decide +kernel
theorem dX12_reads_56 : decode cX12_reads 56 = .ok (.iload_n 1, 1) := by decide +kernel
theorem dX12_reads_57 : decode cX12_reads 57 = .ok (.imul, 1) := by decide +kernel
theorem dX12_reads_58 : decode cX12_reads 58 = .ok (.iload_n 2, 1) := by decide +kernel
theorem dX12_reads_59 : decode cX12_reads 59 = .ok (.iadd, 1) := by decide +kernel
theorem dX12_reads_60 : decode cX12_reads 60 = .ok (.laload, 1) := by decide +kernel
theorem dX12_reads_61 : decode cX12_reads 61 = .ok (.l2i, 1) := by decide +kernel
theorem dX12_reads_62 : decode cX12_reads 62 = .ok (.invokestatic 271, 3) := by decide +kernel
theorem dX12_reads_65 : decode cX12_reads 65 = .ok (.istore 5, 2) := by decide +kernel
theorem dX12_reads_67 : decode cX12_reads 67 = .ok (.iload 5, 2) := by decide +kernel
theorem dX12_reads_69 : decode cX12_reads 69 = .ok (.iconst (-1), 1) := by decide +kernel
theorem dX12_reads_70 : decode cX12_reads 70 = .ok (.if_icmp .eq 14, 3) := by decide +kernel
theorem dX12_reads_73 : decode cX12_reads 73 = .ok (.aload_n 0, 1) := by decide +kernel
theorem dX12_reads_74 : decode cX12_reads 74 = .ok (.getfield 196, 3) := by decide +kernel
theorem dX12_reads_77 : decode cX12_reads 77 = .ok (.iload 5, 2) := by decide +kernel
theorem dX12_reads_79 : decode cX12_reads 79 = .ok (.iaload, 1) := by decide +kernel
theorem dX12_reads_80 : decode cX12_reads 80 = .ok (.iconst (-1), 1) := by decide +kernel
theorem dX12_reads_81 : decode cX12_reads 81 = .ok (.if_icmp .eq 5, 3) := by decide +kernel
theorem dX12_reads_84 : decode cX12_reads 84 = .ok (.iload_n 2, 1) := by decide +kernel
theorem dX12_reads_85 : decode cX12_reads 85 = .ok (.ireturn, 1) := by decide +kernel
theorem dX12_reads_86 : decode cX12_reads 86 = .ok (.iinc 2 1, 3) := by decide +kernel
theorem dX12_reads_89 : decode cX12_reads 89 = .ok (.iconst (-1), 1) := by decide +kernel
theorem dX12_reads_90 : decode cX12_reads 90 = .ok (.istore 6, 2) := by decide +kernel
theorem dX12_reads_92 : decode cX12_reads 92 = .ok (.iload_n 2, 1) := by decide +kernel
theorem dX12_reads_93 : decode cX12_reads 93 = .ok (.iload_n 3, 1) := by decide +kernel
theorem dX12_reads_94 : decode cX12_reads 94 = .ok (.if_icmp .ge 94, 3) := by decide +kernel
theorem dX12_reads_97 : decode cX12_reads 97 = .ok (.aload_n 0, 1) := by decide +kernel
theorem dX12_reads_98 : decode cX12_reads 98 = .ok (.getfield 29, 3) := by decide +kernel
theorem dX12_reads_101 : decode cX12_reads 101 = .ok (.bipush 60, 2) := by decide +kernel
theorem dX12_reads_103 : decode cX12_reads 103 = .ok (.iload_n 1, 1) := by decide +kernel
theorem dX12_reads_104 : decode cX12_reads 104 = .ok (.imul, 1) := by decide +kernel
theorem dX12_reads_105 : decode cX12_reads 105 = .ok (.iload_n 2, 1) := by decide +kernel
theorem dX12_reads_106 : decode cX12_reads 106 = .ok (.iadd, 1) := by decide +kernel
theorem dX12_reads_107 : decode cX12_reads 107 = .ok (.laload, 1) := by decide +kernel
theorem dX12_reads_108 : decode cX12_reads 108 = .ok (.l2i, 1) := by decide +kernel
theorem dX12_reads_109 : decode cX12_reads 109 = .ok (.bipush 48, 2) := by decide +kernel
theorem dX12_reads_111 : decode cX12_reads 111 = .ok (.isub, 1) := by decide +kernel
theorem dX12_reads_112 : decode cX12_reads 112 = .ok (.istore 7, 2) := by decide +kernel
theorem dX12_reads_114 : decode cX12_reads 114 = .ok (.iload 7, 2) := by decide +kernel
theorem dX12_reads_116 : decode cX12_reads 116 = .ok (.ifCond .lt 72, 3) := by decide +kernel
theorem dX12_reads_119 : decode cX12_reads 119 = .ok (.iload 7, 2) := by decide +kernel
theorem dX12_reads_121 : decode cX12_reads 121 = .ok (.bipush 9, 2) := by decide +kernel
theorem dX12_reads_123 : decode cX12_reads 123 = .ok (.if_icmp .le 6, 3) := by decide +kernel
theorem dX12_reads_126 : decode cX12_reads 126 = .ok (.goto 62, 3) := by decide +kernel
theorem dX12_reads_129 : decode cX12_reads 129 = .ok (.iload 6, 2) := by decide +kernel
theorem dX12_reads_131 : decode cX12_reads 131 = .ok (.iconst (-1), 1) := by decide +kernel
theorem dX12_reads_132 : decode cX12_reads 132 = .ok (.if_icmp .ne 8, 3) := by decide +kernel
theorem dX12_reads_135 : decode cX12_reads 135 = .ok (.iload 7, 2) := by decide +kernel
theorem dX12_reads_137 : decode cX12_reads 137 = .ok (.goto 11, 3) := by decide +kernel
theorem dX12_reads_140 : decode cX12_reads 140 = .ok (.bipush 10, 2) := by decide +kernel
theorem dX12_reads_142 : decode cX12_reads 142 = .ok (.iload 6, 2) := by decide +kernel
theorem dX12_reads_144 : decode cX12_reads 144 = .ok (.imul, 1) := by decide +kernel
theorem dX12_reads_145 : decode cX12_reads 145 = .ok (.iload 7, 2) := by decide +kernel
theorem dX12_reads_147 : decode cX12_reads 147 = .ok (.iadd, 1) := by decide +kernel
theorem dX12_reads_148 : decode cX12_reads 148 = .ok (.istore 8, 2) := by decide +kernel
theorem dX12_reads_150 : decode cX12_reads 150 = .ok (.iload 6, 2) := by decide +kernel
theorem dX12_reads_152 : decode cX12_reads 152 = .ok (.ifCond .eq 36, 3) := by decide +kernel
theorem dX12_reads_155 : decode cX12_reads 155 = .ok (.iload 8, 2) := by decide +kernel
theorem dX12_reads_157 : decode cX12_reads 157 = .ok (.iload 5, 2) := by decide +kernel
theorem dX12_reads_159 : decode cX12_reads 159 = .ok (.invokestatic 274, 3) := by decide +kernel
theorem dX12_reads_162 : decode cX12_reads 162 = .ok (.if_icmp .gt 26, 3) := by decide +kernel
theorem dX12_reads_165 : decode cX12_reads 165 = .ok (.iload 5, 2) := by decide +kernel
theorem dX12_reads_167 : decode cX12_reads 167 = .ok (.ifCond .ne 11, 3) := by decide +kernel
theorem dX12_reads_170 : decode cX12_reads 170 = .ok (.iload 8, 2) := by decide +kernel
theorem dX12_reads_172 : decode cX12_reads 172 = .ok (.ifCond .ne 6, 3) := by decide +kernel
theorem dX12_reads_175 : decode cX12_reads 175 = .ok (.goto 13, 3) := by decide +kernel
theorem dX12_reads_178 : decode cX12_reads 178 = .ok (.iload 8, 2) := by decide +kernel
theorem dX12_reads_180 : decode cX12_reads 180 = .ok (.istore 6, 2) := by decide +kernel
theorem dX12_reads_182 : decode cX12_reads 182 = .ok (.iinc 2 1, 3) := by decide +kernel
theorem dX12_reads_185 : decode cX12_reads 185 = .ok (.goto (-93), 3) := by decide +kernel
theorem dX12_reads_188 : decode cX12_reads 188 = .ok (.iload 6, 2) := by decide +kernel
theorem dX12_reads_190 : decode cX12_reads 190 = .ok (.iconst (-1), 1) := by decide +kernel
theorem dX12_reads_191 : decode cX12_reads 191 = .ok (.if_icmp .ne 5, 3) := by decide +kernel
theorem dX12_reads_194 : decode cX12_reads 194 = .ok (.iload_n 2, 1) := by decide +kernel
theorem dX12_reads_195 : decode cX12_reads 195 = .ok (.ireturn, 1) := by decide +kernel
theorem dX12_reads_196 : decode cX12_reads 196 = .ok (.aload_n 0, 1) := by decide +kernel
theorem dX12_reads_197 : decode cX12_reads 197 = .ok (.getfield 196, 3) := by decide +kernel
theorem dX12_reads_200 : decode cX12_reads 200 = .ok (.iload 5, 2) := by decide +kernel
theorem dX12_reads_202 : decode cX12_reads 202 = .ok (.iload 6, 2) := by decide +kernel
theorem dX12_reads_204 : decode cX12_reads 204 = .ok (.iastore, 1) := by decide +kernel
theorem dX12_reads_205 : decode cX12_reads 205 = .ok (.iinc 4 1, 3) := by decide +kernel
theorem dX12_reads_208 : decode cX12_reads 208 = .ok (.goto (-175), 3) := by decide +kernel
theorem dX12_reads_211 : decode cX12_reads 211 = .ok (.iconst (-1), 1) := by decide +kernel
theorem dX12_reads_212 : decode cX12_reads 212 = .ok (.ireturn, 1) := by decide +kernel
theorem dX12_isUnderOn_0 : decode cX12_isUnderOn 0 = .ok (.aload_n 0, 1) := by decide +kernel
theorem dX12_isUnderOn_1 : decode cX12_isUnderOn 1 = .ok (.getfield 66, 3) := by decide +kernel
theorem dX12_isUnderOn_4 : decode cX12_isUnderOn 4 = .ok (.iload_n 1, 1) := by decide +kernel
theorem dX12_isUnderOn_5 : decode cX12_isUnderOn 5 = .ok (.baload, 1) := by decide +kernel
theorem dX12_isUnderOn_6 : decode cX12_isUnderOn 6 = .ok (.ifCond .eq 27, 3) := by decide +kernel
theorem dX12_isUnderOn_9 : decode cX12_isUnderOn 9 = .ok (.iload_n 2, 1) := by decide +kernel
theorem dX12_isUnderOn_10 : decode cX12_isUnderOn 10 = .ok (.aload_n 0, 1) := by decide +kernel
theorem dX12_isUnderOn_11 : decode cX12_isUnderOn 11 = .ok (.getfield 39, 3) := by decide +kernel
theorem dX12_isUnderOn_14 : decode cX12_isUnderOn 14 = .ok (.iload_n 1, 1) := by decide +kernel
theorem dX12_isUnderOn_15 : decode cX12_isUnderOn 15 = .ok (.iaload, 1) := by decide +kernel
theorem dX12_isUnderOn_16 : decode cX12_isUnderOn 16 = .ok (.if_icmp .lt 17, 3) := by decide +kernel
theorem dX12_isUnderOn_19 : decode cX12_isUnderOn 19 = .ok (.iload_n 2, 1) := by decide +kernel
theorem dX12_isUnderOn_20 : decode cX12_isUnderOn 20 = .ok (.aload_n 0, 1) := by decide +kernel
theorem dX12_isUnderOn_21 : decode cX12_isUnderOn 21 = .ok (.getfield 42, 3) := by decide +kernel
theorem dX12_isUnderOn_24 : decode cX12_isUnderOn 24 = .ok (.iload_n 1, 1) := by decide +kernel
theorem dX12_isUnderOn_25 : decode cX12_isUnderOn 25 = .ok (.iaload, 1) := by decide +kernel
theorem dX12_isUnderOn_26 : decode cX12_isUnderOn 26 = .ok (.if_icmp .ge 7, 3) := by decide +kernel
theorem dX12_isUnderOn_29 : decode cX12_isUnderOn 29 = .ok (.iconst 1, 1) := by decide +kernel
theorem dX12_isUnderOn_30 : decode cX12_isUnderOn 30 = .ok (.goto 4, 3) := by decide +kernel
theorem dX12_isUnderOn_33 : decode cX12_isUnderOn 33 = .ok (.iconst 0, 1) := by decide +kernel
theorem dX12_isUnderOn_34 : decode cX12_isUnderOn 34 = .ok (.ireturn, 1) := by decide +kernel
theorem dX12_term_0 : decode cX12_term 0 = .ok (.aload_n 0, 1) := by decide +kernel
theorem dX12_term_1 : decode cX12_term 1 = .ok (.iload_n 1, 1) := by decide +kernel
theorem dX12_term_2 : decode cX12_term 2 = .ok (.invokevirtual 277, 3) := by decide +kernel
theorem dX12_term_5 : decode cX12_term 5 = .ok (.ifCond .ne 9, 3) := by decide +kernel
theorem dX12_term_8 : decode cX12_term 8 = .ok (.aload_n 0, 1) := by decide +kernel
theorem dX12_term_9 : decode cX12_term 9 = .ok (.iconst (-1), 1) := by decide +kernel
theorem dX12_term_10 : decode cX12_term 10 = .ok (.invokevirtual 263, 3) := by decide +kernel
theorem dX12_term_13 : decode cX12_term 13 = .ok (.ireturn, 1) := by decide +kernel
theorem dX12_term_14 : decode cX12_term 14 = .ok (.aload_n 0, 1) := by decide +kernel
theorem dX12_term_15 : decode cX12_term 15 = .ok (.iload_n 2, 1) := by decide +kernel
theorem dX12_term_16 : decode cX12_term 16 = .ok (.invokevirtual 280, 3) := by decide +kernel
theorem dX12_term_19 : decode cX12_term 19 = .ok (.istore_n 3, 1) := by decide +kernel
theorem dX12_term_20 : decode cX12_term 20 = .ok (.iload_n 3, 1) := by decide +kernel
theorem dX12_term_21 : decode cX12_term 21 = .ok (.ifCond .eq 9, 3) := by decide +kernel
theorem dX12_term_24 : decode cX12_term 24 = .ok (.aload_n 0, 1) := by decide +kernel
theorem dX12_term_25 : decode cX12_term 25 = .ok (.iload_n 3, 1) := by decide +kernel
theorem dX12_term_26 : decode cX12_term 26 = .ok (.invokevirtual 263, 3) := by decide +kernel
theorem dX12_term_29 : decode cX12_term 29 = .ok (.ireturn, 1) := by decide +kernel
theorem dX12_term_30 : decode cX12_term 30 = .ok (.aload_n 0, 1) := by decide +kernel
theorem dX12_term_31 : decode cX12_term 31 = .ok (.aload_n 0, 1) := by decide +kernel
theorem dX12_term_32 : decode cX12_term 32 = .ok (.iload_n 2, 1) := by decide +kernel
theorem dX12_term_33 : decode cX12_term 33 = .ok (.invokevirtual 283, 3) := by decide +kernel
theorem dX12_term_36 : decode cX12_term 36 = .ok (.putfield 13, 3) := by decide +kernel
theorem dX12_term_39 : decode cX12_term 39 = .ok (.aload_n 0, 1) := by decide +kernel
theorem dX12_term_40 : decode cX12_term 40 = .ok (.getfield 13, 3) := by decide +kernel
theorem dX12_term_43 : decode cX12_term 43 = .ok (.iconst (-1), 1) := by decide +kernel
theorem dX12_term_44 : decode cX12_term 44 = .ok (.if_icmp .ne 15, 3) := by decide +kernel
theorem dX12_term_47 : decode cX12_term 47 = .ok (.aload_n 0, 1) := by decide +kernel
theorem dX12_term_48 : decode cX12_term 48 = .ok (.iload_n 1, 1) := by decide +kernel
theorem dX12_term_49 : decode cX12_term 49 = .ok (.aload_n 0, 1) := by decide +kernel
theorem dX12_term_50 : decode cX12_term 50 = .ok (.getfield 286, 3) := by decide +kernel
theorem dX12_term_53 : decode cX12_term 53 = .ok (.invokevirtual 289, 3) := by decide +kernel
theorem dX12_term_56 : decode cX12_term 56 = .ok (.ifCond .eq 10, 3) := by decide +kernel
theorem dX12_term_59 : decode cX12_term 59 = .ok (.aload_n 0, 1) := by decide +kernel
theorem dX12_term_60 : decode cX12_term 60 = .ok (.bipush (-6), 2) := by decide +kernel
theorem dX12_term_62 : decode cX12_term 62 = .ok (.invokevirtual 263, 3) := by decide +kernel
theorem dX12_term_65 : decode cX12_term 65 = .ok (.ireturn, 1) := by decide +kernel
theorem dX12_term_66 : decode cX12_term 66 = .ok (.aload_n 0, 1) := by decide +kernel
theorem dX12_term_67 : decode cX12_term 67 = .ok (.getfield 66, 3) := by decide +kernel
theorem dX12_term_70 : decode cX12_term 70 = .ok (.iload_n 1, 1) := by decide +kernel
theorem dX12_term_71 : decode cX12_term 71 = .ok (.iconst 1, 1) := by decide +kernel
theorem dX12_term_72 : decode cX12_term 72 = .ok (.bastore, 1) := by decide +kernel
theorem dX12_term_73 : decode cX12_term 73 = .ok (.aload_n 0, 1) := by decide +kernel
theorem dX12_term_74 : decode cX12_term 74 = .ok (.getfield 39, 3) := by decide +kernel
theorem dX12_term_77 : decode cX12_term 77 = .ok (.iload_n 1, 1) := by decide +kernel
theorem dX12_term_78 : decode cX12_term 78 = .ok (.aload_n 0, 1) := by decide +kernel
theorem dX12_term_79 : decode cX12_term 79 = .ok (.getfield 286, 3) := by decide +kernel
theorem dX12_term_82 : decode cX12_term 82 = .ok (.iastore, 1) := by decide +kernel
theorem dX12_term_83 : decode cX12_term 83 = .ok (.aload_n 0, 1) := by decide +kernel
theorem dX12_term_84 : decode cX12_term 84 = .ok (.getfield 42, 3) := by decide +kernel
theorem dX12_term_87 : decode cX12_term 87 = .ok (.iload_n 1, 1) := by decide +kernel
theorem dX12_term_88 : decode cX12_term 88 = .ok (.aload_n 0, 1) := by decide +kernel
theorem dX12_term_89 : decode cX12_term 89 = .ok (.getfield 286, 3) := by decide +kernel
theorem dX12_term_92 : decode cX12_term 92 = .ok (.sipush 364, 3) := by decide +kernel
theorem dX12_term_95 : decode cX12_term 95 = .ok (.aload_n 0, 1) := by decide +kernel
theorem dX12_term_96 : decode cX12_term 96 = .ok (.getfield 196, 3) := by decide +kernel
theorem dX12_term_99 : decode cX12_term 99 = .ok (.iconst 0, 1) := by decide +kernel
theorem dX12_term_100 : decode cX12_term 100 = .ok (.iaload, 1) := by decide +kernel
theorem dX12_term_101 : decode cX12_term 101 = .ok (.iconst (-1), 1) := by decide +kernel
theorem dX12_term_102 : decode cX12_term 102 = .ok (.if_icmp .ne 7, 3) := by decide +kernel
theorem dX12_term_105 : decode cX12_term 105 = .ok (.iconst 1, 1) := by decide +kernel
theorem dX12_term_106 : decode cX12_term 106 = .ok (.goto 9, 3) := by decide +kernel
theorem dX12_term_109 : decode cX12_term 109 = .ok (.aload_n 0, 1) := by decide +kernel
theorem dX12_term_110 : decode cX12_term 110 = .ok (.getfield 196, 3) := by decide +kernel
theorem dX12_term_113 : decode cX12_term 113 = .ok (.iconst 0, 1) := by decide +kernel
theorem dX12_term_114 : decode cX12_term 114 = .ok (.iaload, 1) := by decide +kernel
theorem dX12_term_115 : decode cX12_term 115 = .ok (.imul, 1) := by decide +kernel
theorem dX12_term_116 : decode cX12_term 116 = .ok (.iadd, 1) := by decide +kernel
theorem dX12_term_117 : decode cX12_term 117 = .ok (.iastore, 1) := by decide +kernel
theorem dX12_term_118 : decode cX12_term 118 = .ok (.iconst 0, 1) := by decide +kernel
theorem dX12_term_119 : decode cX12_term 119 = .ok (.istore 4, 2) := by decide +kernel
theorem dX12_term_121 : decode cX12_term 121 = .ok (.iload 4, 2) := by decide +kernel
theorem dX12_term_123 : decode cX12_term 123 = .ok (.iconst 5, 1) := by decide +kernel
theorem dX12_term_124 : decode cX12_term 124 = .ok (.if_icmp .ge 29, 3) := by decide +kernel
theorem dX12_term_127 : decode cX12_term 127 = .ok (.aload_n 0, 1) := by decide +kernel
theorem dX12_term_128 : decode cX12_term 128 = .ok (.getfield 73, 3) := by decide +kernel
theorem dX12_term_131 : decode cX12_term 131 = .ok (.iconst 5, 1) := by decide +kernel
theorem dX12_term_132 : decode cX12_term 132 = .ok (.iload_n 1, 1) := by decide +kernel
theorem dX12_term_133 : decode cX12_term 133 = .ok (.imul, 1) := by decide +kernel
theorem dX12_term_134 : decode cX12_term 134 = .ok (.iload 4, 2) := by decide +kernel
theorem dX12_term_136 : decode cX12_term 136 = .ok (.iadd, 1) := by decide +kernel
theorem dX12_term_137 : decode cX12_term 137 = .ok (.aload_n 0, 1) := by decide +kernel
theorem dX12_term_138 : decode cX12_term 138 = .ok (.getfield 196, 3) := by decide +kernel
theorem dX12_term_141 : decode cX12_term 141 = .ok (.iload 4, 2) := by decide +kernel
theorem dX12_term_143 : decode cX12_term 143 = .ok (.iconst 1, 1) := by decide +kernel
theorem dX12_term_144 : decode cX12_term 144 = .ok (.iadd, 1) := by decide +kernel
theorem dX12_term_145 : decode cX12_term 145 = .ok (.iaload, 1) := by decide +kernel
theorem dX12_term_146 : decode cX12_term 146 = .ok (.iastore, 1) := by decide +kernel
theorem dX12_term_147 : decode cX12_term 147 = .ok (.iinc 4 1, 3) := by decide +kernel
theorem dX12_term_150 : decode cX12_term 150 = .ok (.goto (-29), 3) := by decide +kernel
theorem dX12_term_153 : decode cX12_term 153 = .ok (.aload_n 0, 1) := by decide +kernel
theorem dX12_term_154 : decode cX12_term 154 = .ok (.getfield 51, 3) := by decide +kernel
theorem dX12_term_157 : decode cX12_term 157 = .ok (.iload_n 1, 1) := by decide +kernel
theorem dX12_term_158 : decode cX12_term 158 = .ok (.iconst 0, 1) := by decide +kernel
theorem dX12_term_159 : decode cX12_term 159 = .ok (.iastore, 1) := by decide +kernel
theorem dX12_term_160 : decode cX12_term 160 = .ok (.aload_n 0, 1) := by decide +kernel
theorem dX12_term_161 : decode cX12_term 161 = .ok (.getfield 54, 3) := by decide +kernel
theorem dX12_term_164 : decode cX12_term 164 = .ok (.iload_n 1, 1) := by decide +kernel
theorem dX12_term_165 : decode cX12_term 165 = .ok (.iconst 0, 1) := by decide +kernel
theorem dX12_term_166 : decode cX12_term 166 = .ok (.iastore, 1) := by decide +kernel
theorem dX12_term_167 : decode cX12_term 167 = .ok (.aload_n 0, 1) := by decide +kernel
theorem dX12_term_168 : decode cX12_term 168 = .ok (.getfield 57, 3) := by decide +kernel
theorem dX12_term_171 : decode cX12_term 171 = .ok (.iload_n 1, 1) := by decide +kernel
theorem dX12_term_172 : decode cX12_term 172 = .ok (.iconst 0, 1) := by decide +kernel
theorem dX12_term_173 : decode cX12_term 173 = .ok (.iastore, 1) := by decide +kernel
theorem dX12_term_174 : decode cX12_term 174 = .ok (.aload_n 0, 1) := by decide +kernel
theorem dX12_term_175 : decode cX12_term 175 = .ok (.getfield 60, 3) := by decide +kernel
theorem dX12_term_178 : decode cX12_term 178 = .ok (.iload_n 1, 1) := by decide +kernel
theorem dX12_term_179 : decode cX12_term 179 = .ok (.iconst 0, 1) := by decide +kernel
theorem dX12_term_180 : decode cX12_term 180 = .ok (.iastore, 1) := by decide +kernel
theorem dX12_term_181 : decode cX12_term 181 = .ok (.aload_n 0, 1) := by decide +kernel
theorem dX12_term_182 : decode cX12_term 182 = .ok (.getfield 70, 3) := by decide +kernel
theorem dX12_term_185 : decode cX12_term 185 = .ok (.iload_n 1, 1) := by decide +kernel
theorem dX12_term_186 : decode cX12_term 186 = .ok (.iconst 0, 1) := by decide +kernel
theorem dX12_term_187 : decode cX12_term 187 = .ok (.bastore, 1) := by decide +kernel
theorem dX12_term_188 : decode cX12_term 188 = .ok (.aload_n 0, 1) := by decide +kernel
theorem dX12_term_189 : decode cX12_term 189 = .ok (.getfield 45, 3) := by decide +kernel
theorem dX12_term_192 : decode cX12_term 192 = .ok (.iload_n 1, 1) := by decide +kernel
theorem dX12_term_193 : decode cX12_term 193 = .ok (.iconst (-1), 1) := by decide +kernel
theorem dX12_term_194 : decode cX12_term 194 = .ok (.iastore, 1) := by decide +kernel
theorem dX12_term_195 : decode cX12_term 195 = .ok (.aload_n 0, 1) := by decide +kernel
theorem dX12_term_196 : decode cX12_term 196 = .ok (.getfield 42, 3) := by decide +kernel
theorem dX12_term_199 : decode cX12_term 199 = .ok (.iload_n 1, 1) := by decide +kernel
theorem dX12_term_200 : decode cX12_term 200 = .ok (.iaload, 1) := by decide +kernel
theorem dX12_term_201 : decode cX12_term 201 = .ok (.ireturn, 1) := by decide +kernel
theorem dX12_fault_0 : decode cX12_fault 0 = .ok (.aload_n 0, 1) := by decide +kernel
theorem dX12_fault_1 : decode cX12_fault 1 = .ok (.getfield 13, 3) := by decide +kernel
theorem dX12_fault_4 : decode cX12_fault 4 = .ok (.ireturn, 1) := by decide +kernel
theorem dX12_law_0 : decode cX12_law 0 = .ok (.iload_n 1, 1) := by decide +kernel
theorem dX12_law_1 : decode cX12_law 1 = .ok (.ifCond .lt 23, 3) := by decide +kernel
theorem dX12_law_4 : decode cX12_law 4 = .ok (.iload_n 1, 1) := by decide +kernel
theorem dX12_law_5 : decode cX12_law 5 = .ok (.iconst 4, 1) := by decide +kernel
theorem dX12_law_6 : decode cX12_law 6 = .ok (.if_icmp .gt 18, 3) := by decide +kernel
theorem dX12_law_9 : decode cX12_law 9 = .ok (.iload_n 2, 1) := by decide +kernel
theorem dX12_law_10 : decode cX12_law 10 = .ok (.aload_n 0, 1) := by decide +kernel
theorem dX12_law_11 : decode cX12_law 11 = .ok (.getfield 286, 3) := by decide +kernel
theorem dX12_law_14 : decode cX12_law 14 = .ok (.if_icmp .lt 10, 3) := by decide +kernel
theorem dX12_law_17 : decode cX12_law 17 = .ok (.iload_n 2, 1) := by decide +kernel
theorem dX12_law_18 : decode cX12_law 18 = .ok (.sipush 4000, 3) := by decide +kernel
theorem dX12_law_21 : decode cX12_law 21 = .ok (.if_icmp .le 10, 3) := by decide +kernel
theorem dX12_law_24 : decode cX12_law 24 = .ok (.aload_n 0, 1) := by decide +kernel
theorem dX12_law_25 : decode cX12_law 25 = .ok (.bipush (-6), 2) := by decide +kernel
theorem dX12_law_27 : decode cX12_law 27 = .ok (.invokevirtual 263, 3) := by decide +kernel
theorem dX12_law_30 : decode cX12_law 30 = .ok (.ireturn, 1) := by decide +kernel
theorem dX12_law_31 : decode cX12_law 31 = .ok (.aload_n 0, 1) := by decide +kernel
theorem dX12_law_32 : decode cX12_law 32 = .ok (.getfield 292, 3) := by decide +kernel
theorem dX12_law_35 : decode cX12_law 35 = .ok (.bipush 8, 2) := by decide +kernel
theorem dX12_law_37 : decode cX12_law 37 = .ok (.if_icmp .ne 10, 3) := by decide +kernel
theorem dX12_law_40 : decode cX12_law 40 = .ok (.aload_n 0, 1) := by decide +kernel
theorem dX12_law_41 : decode cX12_law 41 = .ok (.bipush (-7), 2) := by decide +kernel
theorem dX12_law_43 : decode cX12_law 43 = .ok (.invokevirtual 263, 3) := by decide +kernel
theorem dX12_law_46 : decode cX12_law 46 = .ok (.ireturn, 1) := by decide +kernel
theorem dX12_law_47 : decode cX12_law 47 = .ok (.aload_n 0, 1) := by decide +kernel
theorem dX12_law_48 : decode cX12_law 48 = .ok (.getfield 76, 3) := by decide +kernel
theorem dX12_law_51 : decode cX12_law 51 = .ok (.aload_n 0, 1) := by decide +kernel
theorem dX12_law_52 : decode cX12_law 52 = .ok (.getfield 292, 3) := by decide +kernel
theorem dX12_law_55 : decode cX12_law 55 = .ok (.iload_n 1, 1) := by decide +kernel
theorem dX12_law_56 : decode cX12_law 56 = .ok (.iastore, 1) := by decide +kernel
theorem dX12_law_57 : decode cX12_law 57 = .ok (.aload_n 0, 1) := by decide +kernel
theorem dX12_law_58 : decode cX12_law 58 = .ok (.getfield 79, 3) := by decide +kernel
theorem dX12_law_61 : decode cX12_law 61 = .ok (.aload_n 0, 1) := by decide +kernel
theorem dX12_law_62 : decode cX12_law 62 = .ok (.getfield 292, 3) := by decide +kernel
theorem dX12_law_65 : decode cX12_law 65 = .ok (.iload_n 2, 1) := by decide +kernel
theorem dX12_law_66 : decode cX12_law 66 = .ok (.iastore, 1) := by decide +kernel
theorem dX12_law_67 : decode cX12_law 67 = .ok (.aload_n 0, 1) := by decide +kernel
theorem dX12_law_68 : decode cX12_law 68 = .ok (.dup, 1) := by decide +kernel
theorem dX12_law_69 : decode cX12_law 69 = .ok (.getfield 292, 3) := by decide +kernel
theorem dX12_law_72 : decode cX12_law 72 = .ok (.iconst 1, 1) := by decide +kernel
theorem dX12_law_73 : decode cX12_law 73 = .ok (.iadd, 1) := by decide +kernel
theorem dX12_law_74 : decode cX12_law 74 = .ok (.dup_x1, 1) := by decide +kernel
theorem dX12_law_75 : decode cX12_law 75 = .ok (.putfield 292, 3) := by decide +kernel
theorem dX12_law_78 : decode cX12_law 78 = .ok (.ireturn, 1) := by decide +kernel
theorem dX12_countsOn_0 : decode cX12_countsOn 0 = .ok (.iconst 0, 1) := by decide +kernel
theorem dX12_countsOn_1 : decode cX12_countsOn 1 = .ok (.istore 4, 2) := by decide +kernel
theorem dX12_countsOn_3 : decode cX12_countsOn 3 = .ok (.iconst 0, 1) := by decide +kernel
theorem dX12_countsOn_4 : decode cX12_countsOn 4 = .ok (.istore 5, 2) := by decide +kernel
theorem dX12_countsOn_6 : decode cX12_countsOn 6 = .ok (.iload 5, 2) := by decide +kernel
theorem dX12_countsOn_8 : decode cX12_countsOn 8 = .ok (.aload_n 0, 1) := by decide +kernel
theorem dX12_countsOn_9 : decode cX12_countsOn 9 = .ok (.getfield 292, 3) := by decide +kernel
theorem dX12_countsOn_12 : decode cX12_countsOn 12 = .ok (.if_icmp .ge 34, 3) := by decide +kernel
theorem dX12_countsOn_15 : decode cX12_countsOn 15 = .ok (.aload_n 0, 1) := by decide +kernel
theorem dX12_countsOn_16 : decode cX12_countsOn 16 = .ok (.getfield 76, 3) := by decide +kernel
theorem dX12_countsOn_19 : decode cX12_countsOn 19 = .ok (.iload 5, 2) := by decide +kernel
theorem dX12_countsOn_21 : decode cX12_countsOn 21 = .ok (.iaload, 1) := by decide +kernel
theorem dX12_countsOn_22 : decode cX12_countsOn 22 = .ok (.iload_n 2, 1) := by decide +kernel
theorem dX12_countsOn_23 : decode cX12_countsOn 23 = .ok (.if_icmp .ne 17, 3) := by decide +kernel
theorem dX12_countsOn_26 : decode cX12_countsOn 26 = .ok (.aload_n 0, 1) := by decide +kernel
theorem dX12_countsOn_27 : decode cX12_countsOn 27 = .ok (.getfield 79, 3) := by decide +kernel
theorem dX12_countsOn_30 : decode cX12_countsOn 30 = .ok (.iload 5, 2) := by decide +kernel
theorem dX12_countsOn_32 : decode cX12_countsOn 32 = .ok (.iaload, 1) := by decide +kernel
theorem dX12_countsOn_33 : decode cX12_countsOn 33 = .ok (.iload_n 3, 1) := by decide +kernel
theorem dX12_countsOn_34 : decode cX12_countsOn 34 = .ok (.if_icmp .gt 6, 3) := by decide +kernel
theorem dX12_countsOn_37 : decode cX12_countsOn 37 = .ok (.iconst 1, 1) := by decide +kernel
theorem dX12_countsOn_38 : decode cX12_countsOn 38 = .ok (.istore 4, 2) := by decide +kernel
theorem dX12_countsOn_40 : decode cX12_countsOn 40 = .ok (.iinc 5 1, 3) := by decide +kernel
theorem dX12_countsOn_43 : decode cX12_countsOn 43 = .ok (.goto (-37), 3) := by decide +kernel
theorem dX12_countsOn_46 : decode cX12_countsOn 46 = .ok (.aload_n 0, 1) := by decide +kernel
theorem dX12_countsOn_47 : decode cX12_countsOn 47 = .ok (.getfield 73, 3) := by decide +kernel
theorem dX12_countsOn_50 : decode cX12_countsOn 50 = .ok (.iconst 5, 1) := by decide +kernel
theorem dX12_countsOn_51 : decode cX12_countsOn 51 = .ok (.iload_n 1, 1) := by decide +kernel
theorem dX12_countsOn_52 : decode cX12_countsOn 52 = .ok (.imul, 1) := by decide +kernel
theorem dX12_countsOn_53 : decode cX12_countsOn 53 = .ok (.iload_n 2, 1) := by decide +kernel
theorem dX12_countsOn_54 : decode cX12_countsOn 54 = .ok (.iadd, 1) := by decide +kernel
theorem dX12_countsOn_55 : decode cX12_countsOn 55 = .ok (.iaload, 1) := by decide +kernel
theorem dX12_countsOn_56 : decode cX12_countsOn 56 = .ok (.istore 5, 2) := by decide +kernel
theorem dX12_countsOn_58 : decode cX12_countsOn 58 = .ok (.iload 4, 2) := by decide +kernel
theorem dX12_countsOn_60 : decode cX12_countsOn 60 = .ok (.ifCond .ne 9, 3) := by decide +kernel
theorem dX12_countsOn_63 : decode cX12_countsOn 63 = .ok (.iload 5, 2) := by decide +kernel
theorem dX12_countsOn_65 : decode cX12_countsOn 65 = .ok (.iconst (-1), 1) := by decide +kernel
theorem dX12_countsOn_66 : decode cX12_countsOn 66 = .ok (.if_icmp .ne 16, 3) := by decide +kernel
theorem dX12_countsOn_69 : decode cX12_countsOn 69 = .ok (.iload_n 2, 1) := by decide +kernel
theorem dX12_countsOn_70 : decode cX12_countsOn 70 = .ok (.ifCond .ne 8, 3) := by decide +kernel
theorem dX12_countsOn_73 : decode cX12_countsOn 73 = .ok (.bipush 52, 2) := by decide +kernel
theorem dX12_countsOn_75 : decode cX12_countsOn 75 = .ok (.goto 9, 3) := by decide +kernel
theorem dX12_countsOn_78 : decode cX12_countsOn 78 = .ok (.iconst 0, 1) := by decide +kernel
theorem dX12_countsOn_79 : decode cX12_countsOn 79 = .ok (.goto 5, 3) := by decide +kernel
theorem dX12_countsOn_82 : decode cX12_countsOn 82 = .ok (.iload 5, 2) := by decide +kernel
theorem dX12_countsOn_84 : decode cX12_countsOn 84 = .ok (.ireturn, 1) := by decide +kernel
theorem dX12_counts_0 : decode cX12_counts 0 = .ok (.aload_n 0, 1) := by decide +kernel
theorem dX12_counts_1 : decode cX12_counts 1 = .ok (.iload_n 1, 1) := by decide +kernel
theorem dX12_counts_2 : decode cX12_counts 2 = .ok (.invokevirtual 277, 3) := by decide +kernel
theorem dX12_counts_5 : decode cX12_counts 5 = .ok (.ifCond .eq 31, 3) := by decide +kernel
theorem dX12_counts_8 : decode cX12_counts 8 = .ok (.iload_n 2, 1) := by decide +kernel
theorem dX12_counts_9 : decode cX12_counts 9 = .ok (.ifCond .lt 27, 3) := by decide +kernel
theorem dX12_counts_12 : decode cX12_counts 12 = .ok (.iload_n 2, 1) := by decide +kernel
theorem dX12_counts_13 : decode cX12_counts 13 = .ok (.iconst 5, 1) := by decide +kernel
theorem dX12_counts_14 : decode cX12_counts 14 = .ok (.if_icmp .ge 22, 3) := by decide +kernel
theorem dX12_counts_17 : decode cX12_counts 17 = .ok (.aload_n 0, 1) := by decide +kernel
theorem dX12_counts_18 : decode cX12_counts 18 = .ok (.getfield 66, 3) := by decide +kernel
theorem dX12_counts_21 : decode cX12_counts 21 = .ok (.iload_n 1, 1) := by decide +kernel
theorem dX12_counts_22 : decode cX12_counts 22 = .ok (.baload, 1) := by decide +kernel
theorem dX12_counts_23 : decode cX12_counts 23 = .ok (.ifCond .eq 13, 3) := by decide +kernel
theorem dX12_counts_26 : decode cX12_counts 26 = .ok (.aload_n 0, 1) := by decide +kernel
theorem dX12_counts_27 : decode cX12_counts 27 = .ok (.iload_n 1, 1) := by decide +kernel
theorem dX12_counts_28 : decode cX12_counts 28 = .ok (.iload_n 2, 1) := by decide +kernel
theorem dX12_counts_29 : decode cX12_counts 29 = .ok (.iload_n 3, 1) := by decide +kernel
theorem dX12_counts_30 : decode cX12_counts 30 = .ok (.invokevirtual 295, 3) := by decide +kernel
theorem dX12_counts_33 : decode cX12_counts 33 = .ok (.goto 4, 3) := by decide +kernel
theorem dX12_counts_36 : decode cX12_counts 36 = .ok (.iconst (-1), 1) := by decide +kernel
theorem dX12_counts_37 : decode cX12_counts 37 = .ok (.ireturn, 1) := by decide +kernel
theorem dX12_ill_0 : decode cX12_ill 0 = .ok (.aload_n 0, 1) := by decide +kernel
theorem dX12_ill_1 : decode cX12_ill 1 = .ok (.iload_n 1, 1) := by decide +kernel
theorem dX12_ill_2 : decode cX12_ill 2 = .ok (.invokevirtual 277, 3) := by decide +kernel
theorem dX12_ill_5 : decode cX12_ill 5 = .ok (.ifCond .ne 9, 3) := by decide +kernel
theorem dX12_ill_8 : decode cX12_ill 8 = .ok (.aload_n 0, 1) := by decide +kernel
theorem dX12_ill_9 : decode cX12_ill 9 = .ok (.iconst (-1), 1) := by decide +kernel
theorem dX12_ill_10 : decode cX12_ill 10 = .ok (.invokevirtual 263, 3) := by decide +kernel
theorem dX12_ill_13 : decode cX12_ill 13 = .ok (.ireturn, 1) := by decide +kernel
theorem dX12_ill_14 : decode cX12_ill 14 = .ok (.aload_n 0, 1) := by decide +kernel
theorem dX12_ill_15 : decode cX12_ill 15 = .ok (.iload_n 2, 1) := by decide +kernel
theorem dX12_ill_16 : decode cX12_ill 16 = .ok (.invokevirtual 280, 3) := by decide +kernel
theorem dX12_ill_19 : decode cX12_ill 19 = .ok (.istore_n 3, 1) := by decide +kernel
theorem dX12_ill_20 : decode cX12_ill 20 = .ok (.iload_n 3, 1) := by decide +kernel
theorem dX12_ill_21 : decode cX12_ill 21 = .ok (.ifCond .eq 9, 3) := by decide +kernel
theorem dX12_ill_24 : decode cX12_ill 24 = .ok (.aload_n 0, 1) := by decide +kernel
theorem dX12_ill_25 : decode cX12_ill 25 = .ok (.iload_n 3, 1) := by decide +kernel
theorem dX12_ill_26 : decode cX12_ill 26 = .ok (.invokevirtual 263, 3) := by decide +kernel
theorem dX12_ill_29 : decode cX12_ill 29 = .ok (.ireturn, 1) := by decide +kernel
theorem dX12_ill_30 : decode cX12_ill 30 = .ok (.aload_n 0, 1) := by decide +kernel
theorem dX12_ill_31 : decode cX12_ill 31 = .ok (.getfield 82, 3) := by decide +kernel
theorem dX12_ill_34 : decode cX12_ill 34 = .ok (.iload_n 1, 1) := by decide +kernel
theorem dX12_ill_35 : decode cX12_ill 35 = .ok (.aload_n 0, 1) := by decide +kernel
theorem dX12_ill_36 : decode cX12_ill 36 = .ok (.getfield 23, 3) := by decide +kernel
theorem dX12_ill_39 : decode cX12_ill 39 = .ok (.iload_n 2, 1) := by decide +kernel
theorem dX12_ill_40 : decode cX12_ill 40 = .ok (.iaload, 1) := by decide +kernel
theorem dX12_ill_41 : decode cX12_ill 41 = .ok (.iastore, 1) := by decide +kernel
theorem dX12_ill_42 : decode cX12_ill 42 = .ok (.iconst 0, 1) := by decide +kernel
theorem dX12_ill_43 : decode cX12_ill 43 = .ok (.istore 4, 2) := by decide +kernel
theorem dX12_ill_45 : decode cX12_ill 45 = .ok (.iload 4, 2) := by decide +kernel
theorem dX12_ill_47 : decode cX12_ill 47 = .ok (.aload_n 0, 1) := by decide +kernel
theorem dX12_ill_48 : decode cX12_ill 48 = .ok (.getfield 23, 3) := by decide +kernel
theorem dX12_ill_51 : decode cX12_ill 51 = .ok (.iload_n 2, 1) := by decide +kernel
theorem dX12_ill_52 : decode cX12_ill 52 = .ok (.iaload, 1) := by decide +kernel
theorem dX12_ill_53 : decode cX12_ill 53 = .ok (.if_icmp .ge 33, 3) := by decide +kernel
theorem dX12_ill_56 : decode cX12_ill 56 = .ok (.aload_n 0, 1) := by decide +kernel
theorem dX12_ill_57 : decode cX12_ill 57 = .ok (.getfield 85, 3) := by decide +kernel
theorem dX12_ill_60 : decode cX12_ill 60 = .ok (.bipush 60, 2) := by decide +kernel
theorem dX12_ill_62 : decode cX12_ill 62 = .ok (.iload_n 1, 1) := by decide +kernel
theorem dX12_ill_63 : decode cX12_ill 63 = .ok (.imul, 1) := by decide +kernel
theorem dX12_ill_64 : decode cX12_ill 64 = .ok (.iload 4, 2) := by decide +kernel
theorem dX12_ill_66 : decode cX12_ill 66 = .ok (.iadd, 1) := by decide +kernel
theorem dX12_ill_67 : decode cX12_ill 67 = .ok (.aload_n 0, 1) := by decide +kernel
theorem dX12_ill_68 : decode cX12_ill 68 = .ok (.getfield 29, 3) := by decide +kernel
theorem dX12_ill_71 : decode cX12_ill 71 = .ok (.bipush 60, 2) := by decide +kernel
theorem dX12_ill_73 : decode cX12_ill 73 = .ok (.iload_n 2, 1) := by decide +kernel
theorem dX12_ill_74 : decode cX12_ill 74 = .ok (.imul, 1) := by decide +kernel
theorem dX12_ill_75 : decode cX12_ill 75 = .ok (.iload 4, 2) := by decide +kernel
theorem dX12_ill_77 : decode cX12_ill 77 = .ok (.iadd, 1) := by decide +kernel
theorem dX12_ill_78 : decode cX12_ill 78 = .ok (.laload, 1) := by decide +kernel
theorem dX12_ill_79 : decode cX12_ill 79 = .ok (.lastore, 1) := by decide +kernel
theorem dX12_ill_80 : decode cX12_ill 80 = .ok (.iinc 4 1, 3) := by decide +kernel
theorem dX12_ill_83 : decode cX12_ill 83 = .ok (.goto (-38), 3) := by decide +kernel
theorem dX12_ill_86 : decode cX12_ill 86 = .ok (.aload_n 0, 1) := by decide +kernel
theorem dX12_ill_87 : decode cX12_ill 87 = .ok (.getfield 23, 3) := by decide +kernel
theorem dX12_ill_90 : decode cX12_ill 90 = .ok (.iload_n 2, 1) := by decide +kernel
theorem dX12_ill_91 : decode cX12_ill 91 = .ok (.iaload, 1) := by decide +kernel
theorem dX12_ill_92 : decode cX12_ill 92 = .ok (.ireturn, 1) := by decide +kernel
theorem dX12_isLent_0 : decode cX12_isLent 0 = .ok (.aload_n 0, 1) := by decide +kernel
theorem dX12_isLent_1 : decode cX12_isLent 1 = .ok (.getfield 45, 3) := by decide +kernel
theorem dX12_isLent_4 : decode cX12_isLent 4 = .ok (.iload_n 1, 1) := by decide +kernel
theorem dX12_isLent_5 : decode cX12_isLent 5 = .ok (.iaload, 1) := by decide +kernel
theorem dX12_isLent_6 : decode cX12_isLent 6 = .ok (.iconst (-1), 1) := by decide +kernel
theorem dX12_isLent_7 : decode cX12_isLent 7 = .ok (.if_icmp .eq 17, 3) := by decide +kernel
theorem dX12_isLent_10 : decode cX12_isLent 10 = .ok (.iload_n 2, 1) := by decide +kernel
theorem dX12_isLent_11 : decode cX12_isLent 11 = .ok (.aload_n 0, 1) := by decide +kernel
theorem dX12_isLent_12 : decode cX12_isLent 12 = .ok (.getfield 45, 3) := by decide +kernel
theorem dX12_isLent_15 : decode cX12_isLent 15 = .ok (.iload_n 1, 1) := by decide +kernel
theorem dX12_isLent_16 : decode cX12_isLent 16 = .ok (.iaload, 1) := by decide +kernel
theorem dX12_isLent_17 : decode cX12_isLent 17 = .ok (.if_icmp .ge 7, 3) := by decide +kernel
theorem dX12_isLent_20 : decode cX12_isLent 20 = .ok (.iconst 1, 1) := by decide +kernel
theorem dX12_isLent_21 : decode cX12_isLent 21 = .ok (.goto 4, 3) := by decide +kernel
theorem dX12_isLent_24 : decode cX12_isLent 24 = .ok (.iconst 0, 1) := by decide +kernel
theorem dX12_isLent_25 : decode cX12_isLent 25 = .ok (.ireturn, 1) := by decide +kernel
theorem dX12_isReady_0 : decode cX12_isReady 0 = .ok (.aload_n 0, 1) := by decide +kernel
theorem dX12_isReady_1 : decode cX12_isReady 1 = .ok (.iload_n 1, 1) := by decide +kernel
theorem dX12_isReady_2 : decode cX12_isReady 2 = .ok (.iload_n 2, 1) := by decide +kernel
theorem dX12_isReady_3 : decode cX12_isReady 3 = .ok (.invokevirtual 289, 3) := by decide +kernel
theorem dX12_isReady_6 : decode cX12_isReady 6 = .ok (.ifCond .eq 21, 3) := by decide +kernel
theorem dX12_isReady_9 : decode cX12_isReady 9 = .ok (.aload_n 0, 1) := by decide +kernel
theorem dX12_isReady_10 : decode cX12_isReady 10 = .ok (.getfield 70, 3) := by decide +kernel
theorem dX12_isReady_13 : decode cX12_isReady 13 = .ok (.iload_n 1, 1) := by decide +kernel
theorem dX12_isReady_14 : decode cX12_isReady 14 = .ok (.baload, 1) := by decide +kernel
theorem dX12_isReady_15 : decode cX12_isReady 15 = .ok (.ifCond .ne 12, 3) := by decide +kernel
theorem dX12_isReady_18 : decode cX12_isReady 18 = .ok (.aload_n 0, 1) := by decide +kernel
theorem dX12_isReady_19 : decode cX12_isReady 19 = .ok (.iload_n 1, 1) := by decide +kernel
theorem dX12_isReady_20 : decode cX12_isReady 20 = .ok (.iload_n 2, 1) := by decide +kernel
theorem dX12_isReady_21 : decode cX12_isReady 21 = .ok (.invokevirtual 299, 3) := by decide +kernel
theorem dX12_isReady_24 : decode cX12_isReady 24 = .ok (.ifCond .eq 5, 3) := by decide +kernel
theorem dX12_isReady_27 : decode cX12_isReady 27 = .ok (.iconst 0, 1) := by decide +kernel
theorem dX12_isReady_28 : decode cX12_isReady 28 = .ok (.ireturn, 1) := by decide +kernel
theorem dX12_isReady_29 : decode cX12_isReady 29 = .ok (.aload_n 0, 1) := by decide +kernel
theorem dX12_isReady_30 : decode cX12_isReady 30 = .ok (.getfield 82, 3) := by decide +kernel
theorem dX12_isReady_33 : decode cX12_isReady 33 = .ok (.iload_n 1, 1) := by decide +kernel
theorem dX12_isReady_34 : decode cX12_isReady 34 = .ok (.iaload, 1) := by decide +kernel
theorem dX12_isReady_35 : decode cX12_isReady 35 = .ok (.ifCond .eq 26, 3) := by decide +kernel
theorem dX12_isReady_38 : decode cX12_isReady 38 = .ok (.aload_n 0, 1) := by decide +kernel
theorem dX12_isReady_39 : decode cX12_isReady 39 = .ok (.getfield 85, 3) := by decide +kernel
theorem dX12_isReady_42 : decode cX12_isReady 42 = .ok (.bipush 60, 2) := by decide +kernel
theorem dX12_isReady_44 : decode cX12_isReady 44 = .ok (.iload_n 1, 1) := by decide +kernel
theorem dX12_isReady_45 : decode cX12_isReady 45 = .ok (.imul, 1) := by decide +kernel
theorem dX12_isReady_46 : decode cX12_isReady 46 = .ok (.iload_n 2, 1) := by decide +kernel
theorem dX12_isReady_47 : decode cX12_isReady 47 = .ok (.aload_n 0, 1) := by decide +kernel
theorem dX12_isReady_48 : decode cX12_isReady 48 = .ok (.getfield 82, 3) := by decide +kernel
theorem dX12_isReady_51 : decode cX12_isReady 51 = .ok (.iload_n 1, 1) := by decide +kernel
theorem dX12_isReady_52 : decode cX12_isReady 52 = .ok (.iaload, 1) := by decide +kernel
theorem dX12_isReady_53 : decode cX12_isReady 53 = .ok (.irem, 1) := by decide +kernel
theorem dX12_isReady_54 : decode cX12_isReady 54 = .ok (.iadd, 1) := by decide +kernel
theorem dX12_isReady_55 : decode cX12_isReady 55 = .ok (.laload, 1) := by decide +kernel
theorem dX12_isReady_56 : decode cX12_isReady 56 = .ok (.lconst 0, 1) := by decide +kernel
theorem dX12_isReady_57 : decode cX12_isReady 57 = .ok (.lcmp, 1) := by decide +kernel
theorem dX12_isReady_58 : decode cX12_isReady 58 = .ok (.ifCond .ne 7, 3) := by decide +kernel
theorem dX12_isReady_61 : decode cX12_isReady 61 = .ok (.iconst 1, 1) := by decide +kernel
theorem dX12_isReady_62 : decode cX12_isReady 62 = .ok (.goto 4, 3) := by decide +kernel
theorem dX12_isReady_65 : decode cX12_isReady 65 = .ok (.iconst 0, 1) := by decide +kernel
theorem dX12_isReady_66 : decode cX12_isReady 66 = .ok (.ireturn, 1) := by decide +kernel
theorem dX12_termYear_0 : decode cX12_termYear 0 = .ok (.aload_n 0, 1) := by decide +kernel
theorem dX12_termYear_1 : decode cX12_termYear 1 = .ok (.getfield 286, 3) := by decide +kernel
theorem dX12_termYear_4 : decode cX12_termYear 4 = .ok (.aload_n 0, 1) := by decide +kernel
theorem dX12_termYear_5 : decode cX12_termYear 5 = .ok (.getfield 39, 3) := by decide +kernel
theorem dX12_termYear_8 : decode cX12_termYear 8 = .ok (.iload_n 1, 1) := by decide +kernel
theorem dX12_termYear_9 : decode cX12_termYear 9 = .ok (.iaload, 1) := by decide +kernel
theorem dX12_termYear_10 : decode cX12_termYear 10 = .ok (.isub, 1) := by decide +kernel
theorem dX12_termYear_11 : decode cX12_termYear 11 = .ok (.sipush 364, 3) := by decide +kernel
theorem dX12_termYear_14 : decode cX12_termYear 14 = .ok (.idiv, 1) := by decide +kernel
theorem dX12_termYear_15 : decode cX12_termYear 15 = .ok (.ireturn, 1) := by decide +kernel
theorem dX12_mayAct_0 : decode cX12_mayAct 0 = .ok (.aload_n 0, 1) := by decide +kernel
theorem dX12_mayAct_1 : decode cX12_mayAct 1 = .ok (.iload_n 1, 1) := by decide +kernel
theorem dX12_mayAct_2 : decode cX12_mayAct 2 = .ok (.aload_n 0, 1) := by decide +kernel
theorem dX12_mayAct_3 : decode cX12_mayAct 3 = .ok (.getfield 286, 3) := by decide +kernel
theorem dX12_mayAct_6 : decode cX12_mayAct 6 = .ok (.invokevirtual 289, 3) := by decide +kernel
theorem dX12_mayAct_9 : decode cX12_mayAct 9 = .ok (.ifCond .eq 28, 3) := by decide +kernel
theorem dX12_mayAct_12 : decode cX12_mayAct 12 = .ok (.aload_n 0, 1) := by decide +kernel
theorem dX12_mayAct_13 : decode cX12_mayAct 13 = .ok (.getfield 70, 3) := by decide +kernel
theorem dX12_mayAct_16 : decode cX12_mayAct 16 = .ok (.iload_n 1, 1) := by decide +kernel
theorem dX12_mayAct_17 : decode cX12_mayAct 17 = .ok (.baload, 1) := by decide +kernel
theorem dX12_mayAct_18 : decode cX12_mayAct 18 = .ok (.ifCond .ne 19, 3) := by decide +kernel
theorem dX12_mayAct_21 : decode cX12_mayAct 21 = .ok (.aload_n 0, 1) := by decide +kernel
theorem dX12_mayAct_22 : decode cX12_mayAct 22 = .ok (.iload_n 1, 1) := by decide +kernel
theorem dX12_mayAct_23 : decode cX12_mayAct 23 = .ok (.aload_n 0, 1) := by decide +kernel
theorem dX12_mayAct_24 : decode cX12_mayAct 24 = .ok (.getfield 286, 3) := by decide +kernel
theorem dX12_mayAct_27 : decode cX12_mayAct 27 = .ok (.invokevirtual 299, 3) := by decide +kernel
theorem dX12_mayAct_30 : decode cX12_mayAct 30 = .ok (.ifCond .ne 7, 3) := by decide +kernel
theorem dX12_mayAct_33 : decode cX12_mayAct 33 = .ok (.iconst 1, 1) := by decide +kernel
theorem dX12_mayAct_34 : decode cX12_mayAct 34 = .ok (.goto 4, 3) := by decide +kernel
theorem dX12_mayAct_37 : decode cX12_mayAct 37 = .ok (.iconst 0, 1) := by decide +kernel
theorem dX12_mayAct_38 : decode cX12_mayAct 38 = .ok (.ireturn, 1) := by decide +kernel
theorem dX12_refuse_0 : decode cX12_refuse 0 = .ok (.aload_n 0, 1) := by decide +kernel
theorem dX12_refuse_1 : decode cX12_refuse 1 = .ok (.iload_n 1, 1) := by decide +kernel
theorem dX12_refuse_2 : decode cX12_refuse 2 = .ok (.invokevirtual 277, 3) := by decide +kernel
theorem dX12_refuse_5 : decode cX12_refuse 5 = .ok (.ifCond .ne 9, 3) := by decide +kernel
theorem dX12_refuse_8 : decode cX12_refuse 8 = .ok (.aload_n 0, 1) := by decide +kernel
theorem dX12_refuse_9 : decode cX12_refuse 9 = .ok (.iconst (-1), 1) := by decide +kernel
theorem dX12_refuse_10 : decode cX12_refuse 10 = .ok (.invokevirtual 263, 3) := by decide +kernel
theorem dX12_refuse_13 : decode cX12_refuse 13 = .ok (.ireturn, 1) := by decide +kernel
theorem dX12_refuse_14 : decode cX12_refuse 14 = .ok (.aload_n 0, 1) := by decide +kernel
theorem dX12_refuse_15 : decode cX12_refuse 15 = .ok (.iload_n 1, 1) := by decide +kernel
theorem dX12_refuse_16 : decode cX12_refuse 16 = .ok (.invokevirtual 302, 3) := by decide +kernel
theorem dX12_refuse_19 : decode cX12_refuse 19 = .ok (.ifCond .ne 10, 3) := by decide +kernel
theorem dX12_refuse_22 : decode cX12_refuse 22 = .ok (.aload_n 0, 1) := by decide +kernel
theorem dX12_refuse_23 : decode cX12_refuse 23 = .ok (.bipush (-6), 2) := by decide +kernel
theorem dX12_refuse_25 : decode cX12_refuse 25 = .ok (.invokevirtual 263, 3) := by decide +kernel
theorem dX12_refuse_28 : decode cX12_refuse 28 = .ok (.ireturn, 1) := by decide +kernel
theorem dX12_refuse_29 : decode cX12_refuse 29 = .ok (.aload_n 0, 1) := by decide +kernel
theorem dX12_refuse_30 : decode cX12_refuse 30 = .ok (.getfield 57, 3) := by decide +kernel
theorem dX12_refuse_33 : decode cX12_refuse 33 = .ok (.iload_n 1, 1) := by decide +kernel
theorem dX12_refuse_34 : decode cX12_refuse 34 = .ok (.iaload, 1) := by decide +kernel
theorem dX12_refuse_35 : decode cX12_refuse 35 = .ok (.aload_n 0, 1) := by decide +kernel
theorem dX12_refuse_36 : decode cX12_refuse 36 = .ok (.iload_n 1, 1) := by decide +kernel
theorem dX12_refuse_37 : decode cX12_refuse 37 = .ok (.invokevirtual 305, 3) := by decide +kernel
theorem dX12_refuse_40 : decode cX12_refuse 40 = .ok (.if_icmp .eq 21, 3) := by decide +kernel
theorem dX12_refuse_43 : decode cX12_refuse 43 = .ok (.aload_n 0, 1) := by decide +kernel
theorem dX12_refuse_44 : decode cX12_refuse 44 = .ok (.getfield 57, 3) := by decide +kernel
theorem dX12_refuse_47 : decode cX12_refuse 47 = .ok (.iload_n 1, 1) := by decide +kernel
theorem dX12_refuse_48 : decode cX12_refuse 48 = .ok (.aload_n 0, 1) := by decide +kernel
theorem dX12_refuse_49 : decode cX12_refuse 49 = .ok (.iload_n 1, 1) := by decide +kernel
theorem dX12_refuse_50 : decode cX12_refuse 50 = .ok (.invokevirtual 305, 3) := by decide +kernel
theorem dX12_refuse_53 : decode cX12_refuse 53 = .ok (.iastore, 1) := by decide +kernel
theorem dX12_refuse_54 : decode cX12_refuse 54 = .ok (.aload_n 0, 1) := by decide +kernel
theorem dX12_refuse_55 : decode cX12_refuse 55 = .ok (.getfield 60, 3) := by decide +kernel
theorem dX12_refuse_58 : decode cX12_refuse 58 = .ok (.iload_n 1, 1) := by decide +kernel
theorem dX12_refuse_59 : decode cX12_refuse 59 = .ok (.iconst 0, 1) := by decide +kernel
theorem dX12_refuse_60 : decode cX12_refuse 60 = .ok (.iastore, 1) := by decide +kernel
theorem dX12_refuse_61 : decode cX12_refuse 61 = .ok (.aload_n 0, 1) := by decide +kernel
theorem dX12_refuse_62 : decode cX12_refuse 62 = .ok (.getfield 60, 3) := by decide +kernel
theorem dX12_refuse_65 : decode cX12_refuse 65 = .ok (.iload_n 1, 1) := by decide +kernel
theorem dX12_refuse_66 : decode cX12_refuse 66 = .ok (.iaload, 1) := by decide +kernel
theorem dX12_refuse_67 : decode cX12_refuse 67 = .ok (.aload_n 0, 1) := by decide +kernel
theorem dX12_refuse_68 : decode cX12_refuse 68 = .ok (.iload_n 1, 1) := by decide +kernel
theorem dX12_refuse_69 : decode cX12_refuse 69 = .ok (.iconst 2, 1) := by decide +kernel
theorem dX12_refuse_70 : decode cX12_refuse 70 = .ok (.aload_n 0, 1) := by decide +kernel
theorem dX12_refuse_71 : decode cX12_refuse 71 = .ok (.getfield 286, 3) := by decide +kernel
theorem dX12_refuse_74 : decode cX12_refuse 74 = .ok (.invokevirtual 295, 3) := by decide +kernel
theorem dX12_refuse_77 : decode cX12_refuse 77 = .ok (.if_icmp .ge 15, 3) := by decide +kernel
theorem dX12_refuse_80 : decode cX12_refuse 80 = .ok (.aload_n 0, 1) := by decide +kernel
theorem dX12_refuse_81 : decode cX12_refuse 81 = .ok (.getfield 60, 3) := by decide +kernel
theorem dX12_refuse_84 : decode cX12_refuse 84 = .ok (.iload_n 1, 1) := by decide +kernel
theorem dX12_refuse_85 : decode cX12_refuse 85 = .ok (.dup2, 1) := by decide +kernel
theorem dX12_refuse_86 : decode cX12_refuse 86 = .ok (.iaload, 1) := by decide +kernel
theorem dX12_refuse_87 : decode cX12_refuse 87 = .ok (.iconst 1, 1) := by decide +kernel
theorem dX12_refuse_88 : decode cX12_refuse 88 = .ok (.iadd, 1) := by decide +kernel
theorem dX12_refuse_89 : decode cX12_refuse 89 = .ok (.iastore, 1) := by decide +kernel
theorem dX12_refuse_90 : decode cX12_refuse 90 = .ok (.iconst 1, 1) := by decide +kernel
theorem dX12_refuse_91 : decode cX12_refuse 91 = .ok (.ireturn, 1) := by decide +kernel
theorem dX12_refuse_92 : decode cX12_refuse 92 = .ok (.aload_n 0, 1) := by decide +kernel
theorem dX12_refuse_93 : decode cX12_refuse 93 = .ok (.getfield 70, 3) := by decide +kernel
theorem dX12_refuse_96 : decode cX12_refuse 96 = .ok (.iload_n 1, 1) := by decide +kernel
theorem dX12_refuse_97 : decode cX12_refuse 97 = .ok (.iconst 1, 1) := by decide +kernel
theorem dX12_refuse_98 : decode cX12_refuse 98 = .ok (.bastore, 1) := by decide +kernel
theorem dX12_refuse_99 : decode cX12_refuse 99 = .ok (.iconst 0, 1) := by decide +kernel
theorem dX12_refuse_100 : decode cX12_refuse 100 = .ok (.ireturn, 1) := by decide +kernel
theorem dX12_recall_0 : decode cX12_recall 0 = .ok (.aload_n 0, 1) := by decide +kernel
theorem dX12_recall_1 : decode cX12_recall 1 = .ok (.iload_n 1, 1) := by decide +kernel
theorem dX12_recall_2 : decode cX12_recall 2 = .ok (.invokevirtual 277, 3) := by decide +kernel
theorem dX12_recall_5 : decode cX12_recall 5 = .ok (.ifCond .ne 9, 3) := by decide +kernel
theorem dX12_recall_8 : decode cX12_recall 8 = .ok (.aload_n 0, 1) := by decide +kernel
theorem dX12_recall_9 : decode cX12_recall 9 = .ok (.iconst (-1), 1) := by decide +kernel
theorem dX12_recall_10 : decode cX12_recall 10 = .ok (.invokevirtual 263, 3) := by decide +kernel
theorem dX12_recall_13 : decode cX12_recall 13 = .ok (.ireturn, 1) := by decide +kernel
theorem dX12_recall_14 : decode cX12_recall 14 = .ok (.aload_n 0, 1) := by decide +kernel
theorem dX12_recall_15 : decode cX12_recall 15 = .ok (.getfield 70, 3) := by decide +kernel
theorem dX12_recall_18 : decode cX12_recall 18 = .ok (.iload_n 1, 1) := by decide +kernel
theorem dX12_recall_19 : decode cX12_recall 19 = .ok (.baload, 1) := by decide +kernel
theorem dX12_recall_20 : decode cX12_recall 20 = .ok (.ifCond .ne 10, 3) := by decide +kernel
theorem dX12_recall_23 : decode cX12_recall 23 = .ok (.aload_n 0, 1) := by decide +kernel
theorem dX12_recall_24 : decode cX12_recall 24 = .ok (.bipush (-6), 2) := by decide +kernel
theorem dX12_recall_26 : decode cX12_recall 26 = .ok (.invokevirtual 263, 3) := by decide +kernel
theorem dX12_recall_29 : decode cX12_recall 29 = .ok (.ireturn, 1) := by decide +kernel
theorem dX12_recall_30 : decode cX12_recall 30 = .ok (.aload_n 0, 1) := by decide +kernel
theorem dX12_recall_31 : decode cX12_recall 31 = .ok (.getfield 70, 3) := by decide +kernel
theorem dX12_recall_34 : decode cX12_recall 34 = .ok (.iload_n 1, 1) := by decide +kernel
theorem dX12_recall_35 : decode cX12_recall 35 = .ok (.iconst 0, 1) := by decide +kernel
theorem dX12_recall_36 : decode cX12_recall 36 = .ok (.bastore, 1) := by decide +kernel
theorem dX12_recall_37 : decode cX12_recall 37 = .ok (.iconst 1, 1) := by decide +kernel
theorem dX12_recall_38 : decode cX12_recall 38 = .ok (.ireturn, 1) := by decide +kernel
theorem dX12_lend_0 : decode cX12_lend 0 = .ok (.aload_n 0, 1) := by decide +kernel
theorem dX12_lend_1 : decode cX12_lend 1 = .ok (.iload_n 1, 1) := by decide +kernel
theorem dX12_lend_2 : decode cX12_lend 2 = .ok (.invokevirtual 277, 3) := by decide +kernel
theorem dX12_lend_5 : decode cX12_lend 5 = .ok (.ifCond .ne 9, 3) := by decide +kernel
theorem dX12_lend_8 : decode cX12_lend 8 = .ok (.aload_n 0, 1) := by decide +kernel
theorem dX12_lend_9 : decode cX12_lend 9 = .ok (.iconst (-1), 1) := by decide +kernel
theorem dX12_lend_10 : decode cX12_lend 10 = .ok (.invokevirtual 263, 3) := by decide +kernel
theorem dX12_lend_13 : decode cX12_lend 13 = .ok (.ireturn, 1) := by decide +kernel
theorem dX12_lend_14 : decode cX12_lend 14 = .ok (.iload_n 2, 1) := by decide +kernel
theorem dX12_lend_15 : decode cX12_lend 15 = .ok (.iconst 1, 1) := by decide +kernel
theorem dX12_lend_16 : decode cX12_lend 16 = .ok (.if_icmp .lt 29, 3) := by decide +kernel
theorem dX12_lend_19 : decode cX12_lend 19 = .ok (.iload_n 2, 1) := by decide +kernel
theorem dX12_lend_20 : decode cX12_lend 20 = .ok (.sipush 400, 3) := by decide +kernel
theorem dX12_lend_23 : decode cX12_lend 23 = .ok (.if_icmp .gt 22, 3) := by decide +kernel
theorem dX12_lend_26 : decode cX12_lend 26 = .ok (.iload_n 3, 1) := by decide +kernel
theorem dX12_lend_27 : decode cX12_lend 27 = .ok (.ifCond .lt 18, 3) := by decide +kernel
theorem dX12_lend_30 : decode cX12_lend 30 = .ok (.iload_n 3, 1) := by decide +kernel
theorem dX12_lend_31 : decode cX12_lend 31 = .ok (.ldc_w 308, 3) := by decide +kernel
theorem dX12_lend_34 : decode cX12_lend 34 = .ok (.if_icmp .gt 11, 3) := by decide +kernel
theorem dX12_lend_37 : decode cX12_lend 37 = .ok (.aload_n 0, 1) := by decide +kernel
theorem dX12_lend_38 : decode cX12_lend 38 = .ok (.iload_n 1, 1) := by decide +kernel
theorem dX12_lend_39 : decode cX12_lend 39 = .ok (.invokevirtual 302, 3) := by decide +kernel
theorem dX12_lend_42 : decode cX12_lend 42 = .ok (.ifCond .ne 10, 3) := by decide +kernel
theorem dX12_lend_45 : decode cX12_lend 45 = .ok (.aload_n 0, 1) := by decide +kernel
theorem dX12_lend_46 : decode cX12_lend 46 = .ok (.bipush (-6), 2) := by decide +kernel
theorem dX12_lend_48 : decode cX12_lend 48 = .ok (.invokevirtual 263, 3) := by decide +kernel
theorem dX12_lend_51 : decode cX12_lend 51 = .ok (.ireturn, 1) := by decide +kernel
theorem dX12_lend_52 : decode cX12_lend 52 = .ok (.iload_n 3, 1) := by decide +kernel
theorem dX12_lend_53 : decode cX12_lend 53 = .ok (.iload_n 3, 1) := by decide +kernel
theorem dX12_lend_54 : decode cX12_lend 54 = .ok (.aload_n 0, 1) := by decide +kernel
theorem dX12_lend_55 : decode cX12_lend 55 = .ok (.iload_n 1, 1) := by decide +kernel
theorem dX12_lend_56 : decode cX12_lend 56 = .ok (.iconst 4, 1) := by decide +kernel
theorem dX12_lend_57 : decode cX12_lend 57 = .ok (.aload_n 0, 1) := by decide +kernel
theorem dX12_lend_58 : decode cX12_lend 58 = .ok (.getfield 286, 3) := by decide +kernel
theorem dX12_lend_61 : decode cX12_lend 61 = .ok (.invokevirtual 295, 3) := by decide +kernel
theorem dX12_lend_64 : decode cX12_lend 64 = .ok (.imul, 1) := by decide +kernel
theorem dX12_lend_65 : decode cX12_lend 65 = .ok (.bipush 100, 2) := by decide +kernel
theorem dX12_lend_67 : decode cX12_lend 67 = .ok (.idiv, 1) := by decide +kernel
theorem dX12_lend_68 : decode cX12_lend 68 = .ok (.isub, 1) := by decide +kernel
theorem dX12_lend_69 : decode cX12_lend 69 = .ok (.istore 4, 2) := by decide +kernel
theorem dX12_lend_71 : decode cX12_lend 71 = .ok (.aload_n 0, 1) := by decide +kernel
theorem dX12_lend_72 : decode cX12_lend 72 = .ok (.getfield 45, 3) := by decide +kernel
theorem dX12_lend_75 : decode cX12_lend 75 = .ok (.iload_n 1, 1) := by decide +kernel
theorem dX12_lend_76 : decode cX12_lend 76 = .ok (.aload_n 0, 1) := by decide +kernel
theorem dX12_lend_77 : decode cX12_lend 77 = .ok (.getfield 286, 3) := by decide +kernel
theorem dX12_lend_80 : decode cX12_lend 80 = .ok (.iload_n 2, 1) := by decide +kernel
theorem dX12_lend_81 : decode cX12_lend 81 = .ok (.iadd, 1) := by decide +kernel
theorem dX12_lend_82 : decode cX12_lend 82 = .ok (.iastore, 1) := by decide +kernel
theorem dX12_lend_83 : decode cX12_lend 83 = .ok (.aload_n 0, 1) := by decide +kernel
theorem dX12_lend_84 : decode cX12_lend 84 = .ok (.dup, 1) := by decide +kernel
theorem dX12_lend_85 : decode cX12_lend 85 = .ok (.getfield 309, 3) := by decide +kernel
theorem dX12_lend_88 : decode cX12_lend 88 = .ok (.iload 4, 2) := by decide +kernel
theorem dX12_lend_90 : decode cX12_lend 90 = .ok (.iadd, 1) := by decide +kernel
theorem dX12_lend_91 : decode cX12_lend 91 = .ok (.putfield 309, 3) := by decide +kernel
theorem dX12_lend_94 : decode cX12_lend 94 = .ok (.iload 4, 2) := by decide +kernel
theorem dX12_lend_96 : decode cX12_lend 96 = .ok (.ireturn, 1) := by decide +kernel
theorem dX12_picture_0 : decode cX12_picture 0 = .ok (.iload_n 1, 1) := by decide +kernel
theorem dX12_picture_1 : decode cX12_picture 1 = .ok (.ifCond .lt 8, 3) := by decide +kernel
theorem dX12_picture_4 : decode cX12_picture 4 = .ok (.iload_n 1, 1) := by decide +kernel
theorem dX12_picture_5 : decode cX12_picture 5 = .ok (.iconst 5, 1) := by decide +kernel
theorem dX12_picture_6 : decode cX12_picture 6 = .ok (.if_icmp .le 9, 3) := by decide +kernel
theorem dX12_picture_9 : decode cX12_picture 9 = .ok (.aload_n 0, 1) := by decide +kernel
theorem dX12_picture_10 : decode cX12_picture 10 = .ok (.iconst (-1), 1) := by decide +kernel
theorem dX12_picture_11 : decode cX12_picture 11 = .ok (.invokevirtual 263, 3) := by decide +kernel
theorem dX12_picture_14 : decode cX12_picture 14 = .ok (.ireturn, 1) := by decide +kernel
theorem dX12_picture_15 : decode cX12_picture 15 = .ok (.aload_n 0, 1) := by decide +kernel
theorem dX12_picture_16 : decode cX12_picture 16 = .ok (.getfield 250, 3) := by decide +kernel
theorem dX12_picture_19 : decode cX12_picture 19 = .ok (.bipush 8, 2) := by decide +kernel
theorem dX12_picture_21 : decode cX12_picture 21 = .ok (.if_icmp .ne 10, 3) := by decide +kernel
theorem dX12_picture_24 : decode cX12_picture 24 = .ok (.aload_n 0, 1) := by decide +kernel
theorem dX12_picture_25 : decode cX12_picture 25 = .ok (.bipush (-7), 2) := by decide +kernel
theorem dX12_picture_27 : decode cX12_picture 27 = .ok (.invokevirtual 263, 3) := by decide +kernel
theorem dX12_picture_30 : decode cX12_picture 30 = .ok (.ireturn, 1) := by decide +kernel
theorem dX12_picture_31 : decode cX12_picture 31 = .ok (.aload_n 0, 1) := by decide +kernel
theorem dX12_picture_32 : decode cX12_picture 32 = .ok (.getfield 88, 3) := by decide +kernel
theorem dX12_picture_35 : decode cX12_picture 35 = .ok (.aload_n 0, 1) := by decide +kernel
theorem dX12_picture_36 : decode cX12_picture 36 = .ok (.getfield 250, 3) := by decide +kernel
theorem dX12_picture_39 : decode cX12_picture 39 = .ok (.iload_n 1, 1) := by decide +kernel
theorem dX12_picture_40 : decode cX12_picture 40 = .ok (.iastore, 1) := by decide +kernel
theorem dX12_picture_41 : decode cX12_picture 41 = .ok (.aload_n 0, 1) := by decide +kernel
theorem dX12_picture_42 : decode cX12_picture 42 = .ok (.dup, 1) := by decide +kernel
theorem dX12_picture_43 : decode cX12_picture 43 = .ok (.getfield 250, 3) := by decide +kernel
theorem dX12_picture_46 : decode cX12_picture 46 = .ok (.dup_x1, 1) := by decide +kernel
theorem dX12_picture_47 : decode cX12_picture 47 = .ok (.iconst 1, 1) := by decide +kernel
theorem dX12_picture_48 : decode cX12_picture 48 = .ok (.iadd, 1) := by decide +kernel
theorem dX12_picture_49 : decode cX12_picture 49 = .ok (.putfield 250, 3) := by decide +kernel
theorem dX12_picture_52 : decode cX12_picture 52 = .ok (.ireturn, 1) := by decide +kernel
theorem dX12_scene_0 : decode cX12_scene 0 = .ok (.aload_n 0, 1) := by decide +kernel
theorem dX12_scene_1 : decode cX12_scene 1 = .ok (.iload_n 1, 1) := by decide +kernel
theorem dX12_scene_2 : decode cX12_scene 2 = .ok (.invokevirtual 253, 3) := by decide +kernel
theorem dX12_scene_5 : decode cX12_scene 5 = .ok (.ifCond .eq 17, 3) := by decide +kernel
theorem dX12_scene_8 : decode cX12_scene 8 = .ok (.iload_n 3, 1) := by decide +kernel
theorem dX12_scene_9 : decode cX12_scene 9 = .ok (.ifCond .lt 13, 3) := by decide +kernel
theorem dX12_scene_12 : decode cX12_scene 12 = .ok (.iload_n 3, 1) := by decide +kernel
theorem dX12_scene_13 : decode cX12_scene 13 = .ok (.iconst 1, 1) := by decide +kernel
theorem dX12_scene_14 : decode cX12_scene 14 = .ok (.aload_n 0, 1) := by decide +kernel
theorem dX12_scene_15 : decode cX12_scene 15 = .ok (.getfield 247, 3) := by decide +kernel
theorem dX12_scene_18 : decode cX12_scene 18 = .ok (.ishl, 1) := by decide +kernel
theorem dX12_scene_19 : decode cX12_scene 19 = .ok (.if_icmp .lt 9, 3) := by decide +kernel
theorem dX12_scene_22 : decode cX12_scene 22 = .ok (.aload_n 0, 1) := by decide +kernel
theorem dX12_scene_23 : decode cX12_scene 23 = .ok (.iconst (-1), 1) := by decide +kernel
theorem dX12_scene_24 : decode cX12_scene 24 = .ok (.invokevirtual 263, 3) := by decide +kernel
theorem dX12_scene_27 : decode cX12_scene 27 = .ok (.ireturn, 1) := by decide +kernel
theorem dX12_scene_28 : decode cX12_scene 28 = .ok (.iload_n 2, 1) := by decide +kernel
theorem dX12_scene_29 : decode cX12_scene 29 = .ok (.ifCond .lt 30, 3) := by decide +kernel
theorem dX12_scene_32 : decode cX12_scene 32 = .ok (.iload_n 2, 1) := by decide +kernel
theorem dX12_scene_33 : decode cX12_scene 33 = .ok (.bipush 9, 2) := by decide +kernel
theorem dX12_scene_35 : decode cX12_scene 35 = .ok (.if_icmp .gt 24, 3) := by decide +kernel
theorem dX12_scene_38 : decode cX12_scene 38 = .ok (.iload 4, 2) := by decide +kernel
theorem dX12_scene_40 : decode cX12_scene 40 = .ok (.iconst 1, 1) := by decide +kernel
theorem dX12_scene_41 : decode cX12_scene 41 = .ok (.if_icmp .lt 18, 3) := by decide +kernel
theorem dX12_scene_44 : decode cX12_scene 44 = .ok (.iload 4, 2) := by decide +kernel
theorem dX12_scene_46 : decode cX12_scene 46 = .ok (.iconst 4, 1) := by decide +kernel
theorem dX12_scene_47 : decode cX12_scene 47 = .ok (.if_icmp .gt 12, 3) := by decide +kernel
theorem dX12_scene_50 : decode cX12_scene 50 = .ok (.aload_n 0, 1) := by decide +kernel
theorem dX12_scene_51 : decode cX12_scene 51 = .ok (.getfield 106, 3) := by decide +kernel
theorem dX12_scene_54 : decode cX12_scene 54 = .ok (.iload_n 1, 1) := by decide +kernel
theorem dX12_scene_55 : decode cX12_scene 55 = .ok (.baload, 1) := by decide +kernel
theorem dX12_scene_56 : decode cX12_scene 56 = .ok (.ifCond .eq 10, 3) := by decide +kernel
theorem dX12_scene_59 : decode cX12_scene 59 = .ok (.aload_n 0, 1) := by decide +kernel
theorem dX12_scene_60 : decode cX12_scene 60 = .ok (.bipush (-6), 2) := by decide +kernel
theorem dX12_scene_62 : decode cX12_scene 62 = .ok (.invokevirtual 263, 3) := by decide +kernel
theorem dX12_scene_65 : decode cX12_scene 65 = .ok (.ireturn, 1) := by decide +kernel
theorem dX12_scene_66 : decode cX12_scene 66 = .ok (.aload_n 0, 1) := by decide +kernel
theorem dX12_scene_67 : decode cX12_scene 67 = .ok (.getfield 91, 3) := by decide +kernel
theorem dX12_scene_70 : decode cX12_scene 70 = .ok (.iload_n 1, 1) := by decide +kernel
theorem dX12_scene_71 : decode cX12_scene 71 = .ok (.iaload, 1) := by decide +kernel
theorem dX12_scene_72 : decode cX12_scene 72 = .ok (.bipush 8, 2) := by decide +kernel
theorem dX12_scene_74 : decode cX12_scene 74 = .ok (.if_icmp .ne 10, 3) := by decide +kernel
theorem dX12_scene_77 : decode cX12_scene 77 = .ok (.aload_n 0, 1) := by decide +kernel
theorem dX12_scene_78 : decode cX12_scene 78 = .ok (.bipush (-7), 2) := by decide +kernel
theorem dX12_scene_80 : decode cX12_scene 80 = .ok (.invokevirtual 263, 3) := by decide +kernel
theorem dX12_scene_83 : decode cX12_scene 83 = .ok (.ireturn, 1) := by decide +kernel
theorem dX12_scene_84 : decode cX12_scene 84 = .ok (.bipush 8, 2) := by decide +kernel
theorem dX12_scene_86 : decode cX12_scene 86 = .ok (.iload_n 1, 1) := by decide +kernel
theorem dX12_scene_87 : decode cX12_scene 87 = .ok (.imul, 1) := by decide +kernel
theorem dX12_scene_88 : decode cX12_scene 88 = .ok (.aload_n 0, 1) := by decide +kernel
theorem dX12_scene_89 : decode cX12_scene 89 = .ok (.getfield 91, 3) := by decide +kernel
theorem dX12_scene_92 : decode cX12_scene 92 = .ok (.iload_n 1, 1) := by decide +kernel
theorem dX12_scene_93 : decode cX12_scene 93 = .ok (.iaload, 1) := by decide +kernel
theorem dX12_scene_94 : decode cX12_scene 94 = .ok (.iadd, 1) := by decide +kernel
theorem dX12_scene_95 : decode cX12_scene 95 = .ok (.istore 5, 2) := by decide +kernel
theorem dX12_scene_97 : decode cX12_scene 97 = .ok (.aload_n 0, 1) := by decide +kernel
theorem dX12_scene_98 : decode cX12_scene 98 = .ok (.getfield 94, 3) := by decide +kernel
theorem dX12_scene_101 : decode cX12_scene 101 = .ok (.iload 5, 2) := by decide +kernel
theorem dX12_scene_103 : decode cX12_scene 103 = .ok (.iload_n 2, 1) := by decide +kernel
theorem dX12_scene_104 : decode cX12_scene 104 = .ok (.iastore, 1) := by decide +kernel
theorem dX12_scene_105 : decode cX12_scene 105 = .ok (.aload_n 0, 1) := by decide +kernel
theorem dX12_scene_106 : decode cX12_scene 106 = .ok (.getfield 97, 3) := by decide +kernel
theorem dX12_scene_109 : decode cX12_scene 109 = .ok (.iload 5, 2) := by decide +kernel
theorem dX12_scene_111 : decode cX12_scene 111 = .ok (.iload_n 3, 1) := by decide +kernel
theorem dX12_scene_112 : decode cX12_scene 112 = .ok (.iastore, 1) := by decide +kernel
theorem dX12_scene_113 : decode cX12_scene 113 = .ok (.aload_n 0, 1) := by decide +kernel
theorem dX12_scene_114 : decode cX12_scene 114 = .ok (.getfield 100, 3) := by decide +kernel
theorem dX12_scene_117 : decode cX12_scene 117 = .ok (.iload 5, 2) := by decide +kernel
theorem dX12_scene_119 : decode cX12_scene 119 = .ok (.iload 4, 2) := by decide +kernel
theorem dX12_scene_121 : decode cX12_scene 121 = .ok (.iastore, 1) := by decide +kernel
theorem dX12_scene_122 : decode cX12_scene 122 = .ok (.aload_n 0, 1) := by decide +kernel
theorem dX12_scene_123 : decode cX12_scene 123 = .ok (.getfield 91, 3) := by decide +kernel
theorem dX12_scene_126 : decode cX12_scene 126 = .ok (.iload_n 1, 1) := by decide +kernel
theorem dX12_scene_127 : decode cX12_scene 127 = .ok (.dup2, 1) := by decide +kernel
theorem dX12_scene_128 : decode cX12_scene 128 = .ok (.iaload, 1) := by decide +kernel
theorem dX12_scene_129 : decode cX12_scene 129 = .ok (.dup_x2, 1) := by decide +kernel
theorem dX12_scene_130 : decode cX12_scene 130 = .ok (.iconst 1, 1) := by decide +kernel
theorem dX12_scene_131 : decode cX12_scene 131 = .ok (.iadd, 1) := by decide +kernel
theorem dX12_scene_132 : decode cX12_scene 132 = .ok (.iastore, 1) := by decide +kernel
theorem dX12_scene_133 : decode cX12_scene 133 = .ok (.ireturn, 1) := by decide +kernel
theorem dX12_mark_0 : decode cX12_mark 0 = .ok (.aload_n 0, 1) := by decide +kernel
theorem dX12_mark_1 : decode cX12_mark 1 = .ok (.iload_n 1, 1) := by decide +kernel
theorem dX12_mark_2 : decode cX12_mark 2 = .ok (.iload_n 2, 1) := by decide +kernel
theorem dX12_mark_3 : decode cX12_mark 3 = .ok (.invokevirtual 312, 3) := by decide +kernel
theorem dX12_mark_6 : decode cX12_mark 6 = .ok (.ifCond .eq 12, 3) := by decide +kernel
theorem dX12_mark_9 : decode cX12_mark 9 = .ok (.iload_n 3, 1) := by decide +kernel
theorem dX12_mark_10 : decode cX12_mark 10 = .ok (.ifCond .lt 8, 3) := by decide +kernel
theorem dX12_mark_13 : decode cX12_mark 13 = .ok (.iload_n 3, 1) := by decide +kernel
theorem dX12_mark_14 : decode cX12_mark 14 = .ok (.iconst 3, 1) := by decide +kernel
theorem dX12_mark_15 : decode cX12_mark 15 = .ok (.if_icmp .le 9, 3) := by decide +kernel
theorem dX12_mark_18 : decode cX12_mark 18 = .ok (.aload_n 0, 1) := by decide +kernel
theorem dX12_mark_19 : decode cX12_mark 19 = .ok (.iconst (-1), 1) := by decide +kernel
theorem dX12_mark_20 : decode cX12_mark 20 = .ok (.invokevirtual 263, 3) := by decide +kernel
theorem dX12_mark_23 : decode cX12_mark 23 = .ok (.ireturn, 1) := by decide +kernel
theorem dX12_mark_24 : decode cX12_mark 24 = .ok (.iload 4, 2) := by decide +kernel
theorem dX12_mark_26 : decode cX12_mark 26 = .ok (.ifCond .lt 10, 3) := by decide +kernel
theorem dX12_mark_29 : decode cX12_mark 29 = .ok (.iload 4, 2) := by decide +kernel
theorem dX12_mark_31 : decode cX12_mark 31 = .ok (.bipush 9, 2) := by decide +kernel
theorem dX12_mark_33 : decode cX12_mark 33 = .ok (.if_icmp .le 10, 3) := by decide +kernel
theorem dX12_mark_36 : decode cX12_mark 36 = .ok (.aload_n 0, 1) := by decide +kernel
theorem dX12_mark_37 : decode cX12_mark 37 = .ok (.bipush (-6), 2) := by decide +kernel
theorem dX12_mark_39 : decode cX12_mark 39 = .ok (.invokevirtual 263, 3) := by decide +kernel
theorem dX12_mark_42 : decode cX12_mark 42 = .ok (.ireturn, 1) := by decide +kernel
theorem dX12_mark_43 : decode cX12_mark 43 = .ok (.iconst 4, 1) := by decide +kernel
theorem dX12_mark_44 : decode cX12_mark 44 = .ok (.bipush 8, 2) := by decide +kernel
theorem dX12_mark_46 : decode cX12_mark 46 = .ok (.iload_n 1, 1) := by decide +kernel
theorem dX12_mark_47 : decode cX12_mark 47 = .ok (.imul, 1) := by decide +kernel
theorem dX12_mark_48 : decode cX12_mark 48 = .ok (.iload_n 2, 1) := by decide +kernel
theorem dX12_mark_49 : decode cX12_mark 49 = .ok (.iadd, 1) := by decide +kernel
theorem dX12_mark_50 : decode cX12_mark 50 = .ok (.imul, 1) := by decide +kernel
theorem dX12_mark_51 : decode cX12_mark 51 = .ok (.iload_n 3, 1) := by decide +kernel
theorem dX12_mark_52 : decode cX12_mark 52 = .ok (.iadd, 1) := by decide +kernel
theorem dX12_mark_53 : decode cX12_mark 53 = .ok (.istore 5, 2) := by decide +kernel
theorem dX12_mark_55 : decode cX12_mark 55 = .ok (.aload_n 0, 1) := by decide +kernel
theorem dX12_mark_56 : decode cX12_mark 56 = .ok (.getfield 103, 3) := by decide +kernel
theorem dX12_mark_59 : decode cX12_mark 59 = .ok (.iload 5, 2) := by decide +kernel
theorem dX12_mark_61 : decode cX12_mark 61 = .ok (.iaload, 1) := by decide +kernel
theorem dX12_mark_62 : decode cX12_mark 62 = .ok (.istore 6, 2) := by decide +kernel
theorem dX12_mark_64 : decode cX12_mark 64 = .ok (.aload_n 0, 1) := by decide +kernel
theorem dX12_mark_65 : decode cX12_mark 65 = .ok (.getfield 103, 3) := by decide +kernel
theorem dX12_mark_68 : decode cX12_mark 68 = .ok (.iload 5, 2) := by decide +kernel
theorem dX12_mark_70 : decode cX12_mark 70 = .ok (.iload 4, 2) := by decide +kernel
theorem dX12_mark_72 : decode cX12_mark 72 = .ok (.iastore, 1) := by decide +kernel
theorem dX12_mark_73 : decode cX12_mark 73 = .ok (.iload 6, 2) := by decide +kernel
theorem dX12_mark_75 : decode cX12_mark 75 = .ok (.ireturn, 1) := by decide +kernel
theorem dX12_costs_0 : decode cX12_costs 0 = .ok (.iload_n 1, 1) := by decide +kernel
theorem dX12_costs_1 : decode cX12_costs 1 = .ok (.ifCond .lt 19, 3) := by decide +kernel
theorem dX12_costs_4 : decode cX12_costs 4 = .ok (.iload_n 1, 1) := by decide +kernel
theorem dX12_costs_5 : decode cX12_costs 5 = .ok (.iconst 1, 1) := by decide +kernel
theorem dX12_costs_6 : decode cX12_costs 6 = .ok (.if_icmp .gt 14, 3) := by decide +kernel
theorem dX12_costs_9 : decode cX12_costs 9 = .ok (.iload_n 2, 1) := by decide +kernel
theorem dX12_costs_10 : decode cX12_costs 10 = .ok (.ifCond .lt 10, 3) := by decide +kernel
theorem dX12_costs_13 : decode cX12_costs 13 = .ok (.iload_n 2, 1) := by decide +kernel
theorem dX12_costs_14 : decode cX12_costs 14 = .ok (.sipush 999, 3) := by decide +kernel
theorem dX12_costs_17 : decode cX12_costs 17 = .ok (.if_icmp .le 10, 3) := by decide +kernel
theorem dX12_costs_20 : decode cX12_costs 20 = .ok (.aload_n 0, 1) := by decide +kernel
theorem dX12_costs_21 : decode cX12_costs 21 = .ok (.bipush (-6), 2) := by decide +kernel
theorem dX12_costs_23 : decode cX12_costs 23 = .ok (.invokevirtual 263, 3) := by decide +kernel
theorem dX12_costs_26 : decode cX12_costs 26 = .ok (.ireturn, 1) := by decide +kernel
theorem dX12_costs_27 : decode cX12_costs 27 = .ok (.iload_n 1, 1) := by decide +kernel
theorem dX12_costs_28 : decode cX12_costs 28 = .ok (.ifCond .ne 10, 3) := by decide +kernel
theorem dX12_costs_31 : decode cX12_costs 31 = .ok (.aload_n 0, 1) := by decide +kernel
theorem dX12_costs_32 : decode cX12_costs 32 = .ok (.getfield 315, 3) := by decide +kernel
theorem dX12_costs_35 : decode cX12_costs 35 = .ok (.goto 7, 3) := by decide +kernel
theorem dX12_costs_38 : decode cX12_costs 38 = .ok (.aload_n 0, 1) := by decide +kernel
theorem dX12_costs_39 : decode cX12_costs 39 = .ok (.getfield 318, 3) := by decide +kernel
theorem dX12_costs_42 : decode cX12_costs 42 = .ok (.istore_n 3, 1) := by decide +kernel
theorem dX12_costs_43 : decode cX12_costs 43 = .ok (.iload_n 1, 1) := by decide +kernel
theorem dX12_costs_44 : decode cX12_costs 44 = .ok (.ifCond .ne 11, 3) := by decide +kernel
theorem dX12_costs_47 : decode cX12_costs 47 = .ok (.aload_n 0, 1) := by decide +kernel
theorem dX12_costs_48 : decode cX12_costs 48 = .ok (.iload_n 2, 1) := by decide +kernel
theorem dX12_costs_49 : decode cX12_costs 49 = .ok (.putfield 315, 3) := by decide +kernel
theorem dX12_costs_52 : decode cX12_costs 52 = .ok (.goto 8, 3) := by decide +kernel
theorem dX12_costs_55 : decode cX12_costs 55 = .ok (.aload_n 0, 1) := by decide +kernel
theorem dX12_costs_56 : decode cX12_costs 56 = .ok (.iload_n 2, 1) := by decide +kernel
theorem dX12_costs_57 : decode cX12_costs 57 = .ok (.putfield 318, 3) := by decide +kernel
theorem dX12_costs_60 : decode cX12_costs 60 = .ok (.iload_n 3, 1) := by decide +kernel
theorem dX12_costs_61 : decode cX12_costs 61 = .ok (.ireturn, 1) := by decide +kernel
theorem dX12_dayPay_0 : decode cX12_dayPay 0 = .ok (.iconst 0, 1) := by decide +kernel
theorem dX12_dayPay_1 : decode cX12_dayPay 1 = .ok (.istore_n 2, 1) := by decide +kernel
theorem dX12_dayPay_2 : decode cX12_dayPay 2 = .ok (.iconst 0, 1) := by decide +kernel
theorem dX12_dayPay_3 : decode cX12_dayPay 3 = .ok (.istore_n 3, 1) := by decide +kernel
theorem dX12_dayPay_4 : decode cX12_dayPay 4 = .ok (.iload_n 3, 1) := by decide +kernel
theorem dX12_dayPay_5 : decode cX12_dayPay 5 = .ok (.aload_n 0, 1) := by decide +kernel
theorem dX12_dayPay_6 : decode cX12_dayPay 6 = .ok (.getfield 247, 3) := by decide +kernel
theorem dX12_dayPay_9 : decode cX12_dayPay 9 = .ok (.if_icmp .ge 30, 3) := by decide +kernel
theorem dX12_dayPay_12 : decode cX12_dayPay 12 = .ok (.iload_n 1, 1) := by decide +kernel
theorem dX12_dayPay_13 : decode cX12_dayPay 13 = .ok (.iload_n 3, 1) := by decide +kernel
theorem dX12_dayPay_14 : decode cX12_dayPay 14 = .ok (.ishr, 1) := by decide +kernel
theorem dX12_dayPay_15 : decode cX12_dayPay 15 = .ok (.iconst 1, 1) := by decide +kernel
theorem dX12_dayPay_16 : decode cX12_dayPay 16 = .ok (.iand, 1) := by decide +kernel
theorem dX12_dayPay_17 : decode cX12_dayPay 17 = .ok (.iconst 1, 1) := by decide +kernel
theorem dX12_dayPay_18 : decode cX12_dayPay 18 = .ok (.if_icmp .ne 15, 3) := by decide +kernel
theorem dX12_dayPay_21 : decode cX12_dayPay 21 = .ok (.iload_n 2, 1) := by decide +kernel
theorem dX12_dayPay_22 : decode cX12_dayPay 22 = .ok (.aload_n 0, 1) := by decide +kernel
theorem dX12_dayPay_23 : decode cX12_dayPay 23 = .ok (.getfield 36, 3) := by decide +kernel
theorem dX12_dayPay_26 : decode cX12_dayPay 26 = .ok (.iload_n 3, 1) := by decide +kernel
theorem dX12_dayPay_27 : decode cX12_dayPay 27 = .ok (.iaload, 1) := by decide +kernel
theorem dX12_dayPay_28 : decode cX12_dayPay 28 = .ok (.bipush 7, 2) := by decide +kernel
theorem dX12_dayPay_30 : decode cX12_dayPay 30 = .ok (.idiv, 1) := by decide +kernel
theorem dX12_dayPay_31 : decode cX12_dayPay 31 = .ok (.iadd, 1) := by decide +kernel
theorem dX12_dayPay_32 : decode cX12_dayPay 32 = .ok (.istore_n 2, 1) := by decide +kernel
theorem dX12_dayPay_33 : decode cX12_dayPay 33 = .ok (.iinc 3 1, 3) := by decide +kernel
theorem dX12_dayPay_36 : decode cX12_dayPay 36 = .ok (.goto (-32), 3) := by decide +kernel
theorem dX12_dayPay_39 : decode cX12_dayPay 39 = .ok (.iload_n 2, 1) := by decide +kernel
theorem dX12_dayPay_40 : decode cX12_dayPay 40 = .ok (.ireturn, 1) := by decide +kernel
theorem dX12_inSome_0 : decode cX12_inSome 0 = .ok (.iconst 0, 1) := by decide +kernel
theorem dX12_inSome_1 : decode cX12_inSome 1 = .ok (.istore_n 3, 1) := by decide +kernel
theorem dX12_inSome_2 : decode cX12_inSome 2 = .ok (.iconst 0, 1) := by decide +kernel
theorem dX12_inSome_3 : decode cX12_inSome 3 = .ok (.istore 4, 2) := by decide +kernel
theorem dX12_inSome_5 : decode cX12_inSome 5 = .ok (.iload 4, 2) := by decide +kernel
theorem dX12_inSome_7 : decode cX12_inSome 7 = .ok (.aload_n 0, 1) := by decide +kernel
theorem dX12_inSome_8 : decode cX12_inSome 8 = .ok (.getfield 91, 3) := by decide +kernel
theorem dX12_inSome_11 : decode cX12_inSome 11 = .ok (.iload_n 1, 1) := by decide +kernel
theorem dX12_inSome_12 : decode cX12_inSome 12 = .ok (.iaload, 1) := by decide +kernel
theorem dX12_inSome_13 : decode cX12_inSome 13 = .ok (.if_icmp .ge 34, 3) := by decide +kernel
theorem dX12_inSome_16 : decode cX12_inSome 16 = .ok (.iload_n 2, 1) := by decide +kernel
theorem dX12_inSome_17 : decode cX12_inSome 17 = .ok (.iload 4, 2) := by decide +kernel
theorem dX12_inSome_19 : decode cX12_inSome 19 = .ok (.ishr, 1) := by decide +kernel
theorem dX12_inSome_20 : decode cX12_inSome 20 = .ok (.iconst 1, 1) := by decide +kernel
theorem dX12_inSome_21 : decode cX12_inSome 21 = .ok (.iand, 1) := by decide +kernel
theorem dX12_inSome_22 : decode cX12_inSome 22 = .ok (.iconst 1, 1) := by decide +kernel
theorem dX12_inSome_23 : decode cX12_inSome 23 = .ok (.if_icmp .ne 18, 3) := by decide +kernel
theorem dX12_inSome_26 : decode cX12_inSome 26 = .ok (.iload_n 3, 1) := by decide +kernel
theorem dX12_inSome_27 : decode cX12_inSome 27 = .ok (.aload_n 0, 1) := by decide +kernel
theorem dX12_inSome_28 : decode cX12_inSome 28 = .ok (.getfield 97, 3) := by decide +kernel
theorem dX12_inSome_31 : decode cX12_inSome 31 = .ok (.bipush 8, 2) := by decide +kernel
theorem dX12_inSome_33 : decode cX12_inSome 33 = .ok (.iload_n 1, 1) := by decide +kernel
theorem dX12_inSome_34 : decode cX12_inSome 34 = .ok (.imul, 1) := by decide +kernel
theorem dX12_inSome_35 : decode cX12_inSome 35 = .ok (.iload 4, 2) := by decide +kernel
theorem dX12_inSome_37 : decode cX12_inSome 37 = .ok (.iadd, 1) := by decide +kernel
theorem dX12_inSome_38 : decode cX12_inSome 38 = .ok (.iaload, 1) := by decide +kernel
theorem dX12_inSome_39 : decode cX12_inSome 39 = .ok (.ior, 1) := by decide +kernel
theorem dX12_inSome_40 : decode cX12_inSome 40 = .ok (.istore_n 3, 1) := by decide +kernel
theorem dX12_inSome_41 : decode cX12_inSome 41 = .ok (.iinc 4 1, 3) := by decide +kernel
theorem dX12_inSome_44 : decode cX12_inSome 44 = .ok (.goto (-39), 3) := by decide +kernel
theorem dX12_inSome_47 : decode cX12_inSome 47 = .ok (.iload_n 3, 1) := by decide +kernel
theorem dX12_inSome_48 : decode cX12_inSome 48 = .ok (.ireturn, 1) := by decide +kernel
theorem dX12_step_0 : decode cX12_step 0 = .ok (.bipush 8, 2) := by decide +kernel
theorem dX12_step_2 : decode cX12_step 2 = .ok (.iload_n 1, 1) := by decide +kernel
theorem dX12_step_3 : decode cX12_step 3 = .ok (.imul, 1) := by decide +kernel
theorem dX12_step_4 : decode cX12_step 4 = .ok (.iload_n 2, 1) := by decide +kernel
theorem dX12_step_5 : decode cX12_step 5 = .ok (.iadd, 1) := by decide +kernel
theorem dX12_step_6 : decode cX12_step 6 = .ok (.istore 6, 2) := by decide +kernel
theorem dX12_step_8 : decode cX12_step 8 = .ok (.aload_n 0, 1) := by decide +kernel
theorem dX12_step_9 : decode cX12_step 9 = .ok (.getfield 97, 3) := by decide +kernel
theorem dX12_step_12 : decode cX12_step 12 = .ok (.iload 6, 2) := by decide +kernel
theorem dX12_step_14 : decode cX12_step 14 = .ok (.iaload, 1) := by decide +kernel
theorem dX12_step_15 : decode cX12_step 15 = .ok (.iload 4, 2) := by decide +kernel
theorem dX12_step_17 : decode cX12_step 17 = .ok (.aload_n 0, 1) := by decide +kernel
theorem dX12_step_18 : decode cX12_step 18 = .ok (.iload_n 1, 1) := by decide +kernel
theorem dX12_step_19 : decode cX12_step 19 = .ok (.iload 5, 2) := by decide +kernel
theorem dX12_step_21 : decode cX12_step 21 = .ok (.invokevirtual 321, 3) := by decide +kernel
theorem dX12_step_24 : decode cX12_step 24 = .ok (.iand, 1) := by decide +kernel
theorem dX12_step_25 : decode cX12_step 25 = .ok (.ior, 1) := by decide +kernel
theorem dX12_step_26 : decode cX12_step 26 = .ok (.istore 7, 2) := by decide +kernel
theorem dX12_step_28 : decode cX12_step 28 = .ok (.aload_n 0, 1) := by decide +kernel
theorem dX12_step_29 : decode cX12_step 29 = .ok (.getfield 100, 3) := by decide +kernel
theorem dX12_step_32 : decode cX12_step 32 = .ok (.iload 6, 2) := by decide +kernel
theorem dX12_step_34 : decode cX12_step 34 = .ok (.iaload, 1) := by decide +kernel
theorem dX12_step_35 : decode cX12_step 35 = .ok (.aload_n 0, 1) := by decide +kernel
theorem dX12_step_36 : decode cX12_step 36 = .ok (.getfield 315, 3) := by decide +kernel
theorem dX12_step_39 : decode cX12_step 39 = .ok (.aload_n 0, 1) := by decide +kernel
theorem dX12_step_40 : decode cX12_step 40 = .ok (.iload 7, 2) := by decide +kernel
theorem dX12_step_42 : decode cX12_step 42 = .ok (.invokevirtual 325, 3) := by decide +kernel
theorem dX12_step_45 : decode cX12_step 45 = .ok (.iadd, 1) := by decide +kernel
theorem dX12_step_46 : decode cX12_step 46 = .ok (.imul, 1) := by decide +kernel
theorem dX12_step_47 : decode cX12_step 47 = .ok (.aload_n 0, 1) := by decide +kernel
theorem dX12_step_48 : decode cX12_step 48 = .ok (.getfield 94, 3) := by decide +kernel
theorem dX12_step_51 : decode cX12_step 51 = .ok (.iload 6, 2) := by decide +kernel
theorem dX12_step_53 : decode cX12_step 53 = .ok (.iaload, 1) := by decide +kernel
theorem dX12_step_54 : decode cX12_step 54 = .ok (.iload_n 3, 1) := by decide +kernel
theorem dX12_step_55 : decode cX12_step 55 = .ok (.if_icmp .ne 7, 3) := by decide +kernel
theorem dX12_step_58 : decode cX12_step 58 = .ok (.iconst 0, 1) := by decide +kernel
theorem dX12_step_59 : decode cX12_step 59 = .ok (.goto 7, 3) := by decide +kernel
theorem dX12_step_62 : decode cX12_step 62 = .ok (.aload_n 0, 1) := by decide +kernel
theorem dX12_step_63 : decode cX12_step 63 = .ok (.getfield 318, 3) := by decide +kernel
theorem dX12_step_66 : decode cX12_step 66 = .ok (.iadd, 1) := by decide +kernel
theorem dX12_step_67 : decode cX12_step 67 = .ok (.ireturn, 1) := by decide +kernel
theorem dX12_costOf_0 : decode cX12_costOf 0 = .ok (.iconst 1, 1) := by decide +kernel
theorem dX12_costOf_1 : decode cX12_costOf 1 = .ok (.aload_n 0, 1) := by decide +kernel
theorem dX12_costOf_2 : decode cX12_costOf 2 = .ok (.getfield 91, 3) := by decide +kernel
theorem dX12_costOf_5 : decode cX12_costOf 5 = .ok (.iload_n 1, 1) := by decide +kernel
theorem dX12_costOf_6 : decode cX12_costOf 6 = .ok (.iaload, 1) := by decide +kernel
theorem dX12_costOf_7 : decode cX12_costOf 7 = .ok (.ishl, 1) := by decide +kernel
theorem dX12_costOf_8 : decode cX12_costOf 8 = .ok (.iconst 1, 1) := by decide +kernel
theorem dX12_costOf_9 : decode cX12_costOf 9 = .ok (.isub, 1) := by decide +kernel
theorem dX12_costOf_10 : decode cX12_costOf 10 = .ok (.istore_n 2, 1) := by decide +kernel
theorem dX12_costOf_11 : decode cX12_costOf 11 = .ok (.iconst 0, 1) := by decide +kernel
theorem dX12_costOf_12 : decode cX12_costOf 12 = .ok (.istore_n 3, 1) := by decide +kernel
theorem dX12_costOf_13 : decode cX12_costOf 13 = .ok (.iconst (-1), 1) := by decide +kernel
theorem dX12_costOf_14 : decode cX12_costOf 14 = .ok (.istore 4, 2) := by decide +kernel
theorem dX12_costOf_16 : decode cX12_costOf 16 = .ok (.iconst 0, 1) := by decide +kernel
theorem dX12_costOf_17 : decode cX12_costOf 17 = .ok (.istore 5, 2) := by decide +kernel
theorem dX12_costOf_19 : decode cX12_costOf 19 = .ok (.iconst 0, 1) := by decide +kernel
theorem dX12_costOf_20 : decode cX12_costOf 20 = .ok (.istore 6, 2) := by decide +kernel
theorem dX12_costOf_22 : decode cX12_costOf 22 = .ok (.iload 6, 2) := by decide +kernel
theorem dX12_costOf_24 : decode cX12_costOf 24 = .ok (.aload_n 0, 1) := by decide +kernel
theorem dX12_costOf_25 : decode cX12_costOf 25 = .ok (.getfield 91, 3) := by decide +kernel
theorem dX12_costOf_28 : decode cX12_costOf 28 = .ok (.iload_n 1, 1) := by decide +kernel
theorem dX12_costOf_29 : decode cX12_costOf 29 = .ok (.iaload, 1) := by decide +kernel
theorem dX12_costOf_30 : decode cX12_costOf 30 = .ok (.if_icmp .ge 72, 3) := by decide +kernel
theorem dX12_costOf_33 : decode cX12_costOf 33 = .ok (.aload_n 0, 1) := by decide +kernel
theorem dX12_costOf_34 : decode cX12_costOf 34 = .ok (.getfield 199, 3) := by decide +kernel
theorem dX12_costOf_37 : decode cX12_costOf 37 = .ok (.iload 6, 2) := by decide +kernel
theorem dX12_costOf_39 : decode cX12_costOf 39 = .ok (.iaload, 1) := by decide +kernel
theorem dX12_costOf_40 : decode cX12_costOf 40 = .ok (.istore 7, 2) := by decide +kernel
theorem dX12_costOf_42 : decode cX12_costOf 42 = .ok (.iload_n 2, 1) := by decide +kernel
theorem dX12_costOf_43 : decode cX12_costOf 43 = .ok (.iconst 1, 1) := by decide +kernel
theorem dX12_costOf_44 : decode cX12_costOf 44 = .ok (.iload 7, 2) := by decide +kernel
theorem dX12_costOf_46 : decode cX12_costOf 46 = .ok (.ishl, 1) := by decide +kernel
theorem dX12_costOf_47 : decode cX12_costOf 47 = .ok (.iconst (-1), 1) := by decide +kernel
theorem dX12_costOf_48 : decode cX12_costOf 48 = .ok (.ixor, 1) := by decide +kernel
theorem dX12_costOf_49 : decode cX12_costOf 49 = .ok (.iand, 1) := by decide +kernel
theorem dX12_costOf_50 : decode cX12_costOf 50 = .ok (.istore_n 2, 1) := by decide +kernel
theorem dX12_costOf_51 : decode cX12_costOf 51 = .ok (.iload 5, 2) := by decide +kernel
theorem dX12_costOf_53 : decode cX12_costOf 53 = .ok (.aload_n 0, 1) := by decide +kernel
theorem dX12_costOf_54 : decode cX12_costOf 54 = .ok (.iload_n 1, 1) := by decide +kernel
theorem dX12_costOf_55 : decode cX12_costOf 55 = .ok (.iload 7, 2) := by decide +kernel
theorem dX12_costOf_57 : decode cX12_costOf 57 = .ok (.iload 4, 2) := by decide +kernel
theorem dX12_costOf_59 : decode cX12_costOf 59 = .ok (.iload_n 3, 1) := by decide +kernel
theorem dX12_costOf_60 : decode cX12_costOf 60 = .ok (.iload_n 2, 1) := by decide +kernel
theorem dX12_costOf_61 : decode cX12_costOf 61 = .ok (.invokevirtual 328, 3) := by decide +kernel
theorem dX12_costOf_64 : decode cX12_costOf 64 = .ok (.iadd, 1) := by decide +kernel
theorem dX12_costOf_65 : decode cX12_costOf 65 = .ok (.istore 5, 2) := by decide +kernel
theorem dX12_costOf_67 : decode cX12_costOf 67 = .ok (.iload_n 3, 1) := by decide +kernel
theorem dX12_costOf_68 : decode cX12_costOf 68 = .ok (.aload_n 0, 1) := by decide +kernel
theorem dX12_costOf_69 : decode cX12_costOf 69 = .ok (.getfield 97, 3) := by decide +kernel
theorem dX12_costOf_72 : decode cX12_costOf 72 = .ok (.bipush 8, 2) := by decide +kernel
theorem dX12_costOf_74 : decode cX12_costOf 74 = .ok (.iload_n 1, 1) := by decide +kernel
theorem dX12_costOf_75 : decode cX12_costOf 75 = .ok (.imul, 1) := by decide +kernel
theorem dX12_costOf_76 : decode cX12_costOf 76 = .ok (.iload 7, 2) := by decide +kernel
theorem dX12_costOf_78 : decode cX12_costOf 78 = .ok (.iadd, 1) := by decide +kernel
theorem dX12_costOf_79 : decode cX12_costOf 79 = .ok (.iaload, 1) := by decide +kernel
theorem dX12_costOf_80 : decode cX12_costOf 80 = .ok (.ior, 1) := by decide +kernel
theorem dX12_costOf_81 : decode cX12_costOf 81 = .ok (.istore_n 3, 1) := by decide +kernel
theorem dX12_costOf_82 : decode cX12_costOf 82 = .ok (.aload_n 0, 1) := by decide +kernel
theorem dX12_costOf_83 : decode cX12_costOf 83 = .ok (.getfield 94, 3) := by decide +kernel
theorem dX12_costOf_86 : decode cX12_costOf 86 = .ok (.bipush 8, 2) := by decide +kernel
theorem dX12_costOf_88 : decode cX12_costOf 88 = .ok (.iload_n 1, 1) := by decide +kernel
theorem dX12_costOf_89 : decode cX12_costOf 89 = .ok (.imul, 1) := by decide +kernel
theorem dX12_costOf_90 : decode cX12_costOf 90 = .ok (.iload 7, 2) := by decide +kernel
theorem dX12_costOf_92 : decode cX12_costOf 92 = .ok (.iadd, 1) := by decide +kernel
theorem dX12_costOf_93 : decode cX12_costOf 93 = .ok (.iaload, 1) := by decide +kernel
theorem dX12_costOf_94 : decode cX12_costOf 94 = .ok (.istore 4, 2) := by decide +kernel
theorem dX12_costOf_96 : decode cX12_costOf 96 = .ok (.iinc 6 1, 3) := by decide +kernel
theorem dX12_costOf_99 : decode cX12_costOf 99 = .ok (.goto (-77), 3) := by decide +kernel
theorem dX12_costOf_102 : decode cX12_costOf 102 = .ok (.iload 5, 2) := by decide +kernel
theorem dX12_costOf_104 : decode cX12_costOf 104 = .ok (.ireturn, 1) := by decide +kernel
theorem dX12_seeks_0 : decode cX12_seeks 0 = .ok (.aload_n 0, 1) := by decide +kernel
theorem dX12_seeks_1 : decode cX12_seeks 1 = .ok (.getfield 91, 3) := by decide +kernel
theorem dX12_seeks_4 : decode cX12_seeks 4 = .ok (.iload_n 1, 1) := by decide +kernel
theorem dX12_seeks_5 : decode cX12_seeks 5 = .ok (.iaload, 1) := by decide +kernel
theorem dX12_seeks_6 : decode cX12_seeks 6 = .ok (.istore_n 2, 1) := by decide +kernel
theorem dX12_seeks_7 : decode cX12_seeks 7 = .ok (.iconst (-1), 1) := by decide +kernel
theorem dX12_seeks_8 : decode cX12_seeks 8 = .ok (.istore_n 3, 1) := by decide +kernel
theorem dX12_seeks_9 : decode cX12_seeks 9 = .ok (.iconst 0, 1) := by decide +kernel
theorem dX12_seeks_10 : decode cX12_seeks 10 = .ok (.istore 4, 2) := by decide +kernel
theorem dX12_seeks_12 : decode cX12_seeks 12 = .ok (.iconst 0, 1) := by decide +kernel
theorem dX12_seeks_13 : decode cX12_seeks 13 = .ok (.istore 5, 2) := by decide +kernel
theorem dX12_seeks_15 : decode cX12_seeks 15 = .ok (.aload_n 0, 1) := by decide +kernel
theorem dX12_seeks_16 : decode cX12_seeks 16 = .ok (.getfield 205, 3) := by decide +kernel
theorem dX12_seeks_19 : decode cX12_seeks 19 = .ok (.iconst 0, 1) := by decide +kernel
theorem dX12_seeks_20 : decode cX12_seeks 20 = .ok (.iconst 0, 1) := by decide +kernel
theorem dX12_seeks_21 : decode cX12_seeks 21 = .ok (.iastore, 1) := by decide +kernel
theorem dX12_seeks_22 : decode cX12_seeks 22 = .ok (.aload_n 0, 1) := by decide +kernel
theorem dX12_seeks_23 : decode cX12_seeks 23 = .ok (.getfield 208, 3) := by decide +kernel
theorem dX12_seeks_26 : decode cX12_seeks 26 = .ok (.iconst 0, 1) := by decide +kernel
theorem dX12_seeks_27 : decode cX12_seeks 27 = .ok (.iconst 0, 1) := by decide +kernel
theorem dX12_seeks_28 : decode cX12_seeks 28 = .ok (.iastore, 1) := by decide +kernel
theorem dX12_seeks_29 : decode cX12_seeks 29 = .ok (.aload_n 0, 1) := by decide +kernel
theorem dX12_seeks_30 : decode cX12_seeks 30 = .ok (.getfield 199, 3) := by decide +kernel
theorem dX12_seeks_33 : decode cX12_seeks 33 = .ok (.iconst 0, 1) := by decide +kernel
theorem dX12_seeks_34 : decode cX12_seeks 34 = .ok (.iconst (-1), 1) := by decide +kernel
theorem dX12_seeks_35 : decode cX12_seeks 35 = .ok (.iastore, 1) := by decide +kernel
theorem dX12_seeks_36 : decode cX12_seeks 36 = .ok (.iload 5, 2) := by decide +kernel
theorem dX12_seeks_38 : decode cX12_seeks 38 = .ok (.ifCond .lt 334, 3) := by decide +kernel
theorem dX12_seeks_41 : decode cX12_seeks 41 = .ok (.iload 5, 2) := by decide +kernel
theorem dX12_seeks_43 : decode cX12_seeks 43 = .ok (.iload_n 2, 1) := by decide +kernel
theorem dX12_seeks_44 : decode cX12_seeks 44 = .ok (.if_icmp .ne 60, 3) := by decide +kernel
theorem dX12_seeks_47 : decode cX12_seeks 47 = .ok (.iload_n 3, 1) := by decide +kernel
theorem dX12_seeks_48 : decode cX12_seeks 48 = .ok (.iconst (-1), 1) := by decide +kernel
theorem dX12_seeks_49 : decode cX12_seeks 49 = .ok (.if_icmp .eq 13, 3) := by decide +kernel
theorem dX12_seeks_52 : decode cX12_seeks 52 = .ok (.aload_n 0, 1) := by decide +kernel
theorem dX12_seeks_53 : decode cX12_seeks 53 = .ok (.getfield 205, 3) := by decide +kernel
theorem dX12_seeks_56 : decode cX12_seeks 56 = .ok (.iload_n 2, 1) := by decide +kernel
theorem dX12_seeks_57 : decode cX12_seeks 57 = .ok (.iaload, 1) := by decide +kernel
theorem dX12_seeks_58 : decode cX12_seeks 58 = .ok (.iload_n 3, 1) := by decide +kernel
theorem dX12_seeks_59 : decode cX12_seeks 59 = .ok (.if_icmp .ge 39, 3) := by decide +kernel
theorem dX12_seeks_62 : decode cX12_seeks 62 = .ok (.aload_n 0, 1) := by decide +kernel
theorem dX12_seeks_63 : decode cX12_seeks 63 = .ok (.getfield 205, 3) := by decide +kernel
theorem dX12_seeks_66 : decode cX12_seeks 66 = .ok (.iload_n 2, 1) := by decide +kernel
theorem dX12_seeks_67 : decode cX12_seeks 67 = .ok (.iaload, 1) := by decide +kernel
theorem dX12_seeks_68 : decode cX12_seeks 68 = .ok (.istore_n 3, 1) := by decide +kernel
theorem dX12_seeks_69 : decode cX12_seeks 69 = .ok (.iconst 0, 1) := by decide +kernel
theorem dX12_seeks_70 : decode cX12_seeks 70 = .ok (.istore 6, 2) := by decide +kernel
theorem dX12_seeks_72 : decode cX12_seeks 72 = .ok (.iload 6, 2) := by decide +kernel
theorem dX12_seeks_74 : decode cX12_seeks 74 = .ok (.iload_n 2, 1) := by decide +kernel
theorem dX12_seeks_75 : decode cX12_seeks 75 = .ok (.if_icmp .ge 23, 3) := by decide +kernel
theorem dX12_seeks_78 : decode cX12_seeks 78 = .ok (.aload_n 0, 1) := by decide +kernel
theorem dX12_seeks_79 : decode cX12_seeks 79 = .ok (.getfield 202, 3) := by decide +kernel
theorem dX12_seeks_82 : decode cX12_seeks 82 = .ok (.iload 6, 2) := by decide +kernel
theorem dX12_seeks_84 : decode cX12_seeks 84 = .ok (.aload_n 0, 1) := by decide +kernel
theorem dX12_seeks_85 : decode cX12_seeks 85 = .ok (.getfield 199, 3) := by decide +kernel
theorem dX12_seeks_88 : decode cX12_seeks 88 = .ok (.iload 6, 2) := by decide +kernel
theorem dX12_seeks_90 : decode cX12_seeks 90 = .ok (.iaload, 1) := by decide +kernel
theorem dX12_seeks_91 : decode cX12_seeks 91 = .ok (.iastore, 1) := by decide +kernel
theorem dX12_seeks_92 : decode cX12_seeks 92 = .ok (.iinc 6 1, 3) := by decide +kernel
theorem dX12_seeks_95 : decode cX12_seeks 95 = .ok (.goto (-23), 3) := by decide +kernel
theorem dX12_seeks_98 : decode cX12_seeks 98 = .ok (.iinc 5 (-1), 3) := by decide +kernel
theorem dX12_seeks_101 : decode cX12_seeks 101 = .ok (.goto (-65), 3) := by decide +kernel
theorem dX12_seeks_104 : decode cX12_seeks 104 = .ok (.aload_n 0, 1) := by decide +kernel
theorem dX12_seeks_105 : decode cX12_seeks 105 = .ok (.getfield 199, 3) := by decide +kernel
theorem dX12_seeks_108 : decode cX12_seeks 108 = .ok (.iload 5, 2) := by decide +kernel
theorem dX12_seeks_110 : decode cX12_seeks 110 = .ok (.iaload, 1) := by decide +kernel
theorem dX12_seeks_111 : decode cX12_seeks 111 = .ok (.iconst (-1), 1) := by decide +kernel
theorem dX12_seeks_112 : decode cX12_seeks 112 = .ok (.if_icmp .eq 19, 3) := by decide +kernel
theorem dX12_seeks_115 : decode cX12_seeks 115 = .ok (.iload 4, 2) := by decide +kernel
theorem dX12_seeks_117 : decode cX12_seeks 117 = .ok (.iconst 1, 1) := by decide +kernel
theorem dX12_seeks_118 : decode cX12_seeks 118 = .ok (.aload_n 0, 1) := by decide +kernel
theorem dX12_seeks_119 : decode cX12_seeks 119 = .ok (.getfield 199, 3) := by decide +kernel
theorem dX12_seeks_122 : decode cX12_seeks 122 = .ok (.iload 5, 2) := by decide +kernel
theorem dX12_seeks_124 : decode cX12_seeks 124 = .ok (.iaload, 1) := by decide +kernel
theorem dX12_seeks_125 : decode cX12_seeks 125 = .ok (.ishl, 1) := by decide +kernel
theorem dX12_seeks_126 : decode cX12_seeks 126 = .ok (.iconst (-1), 1) := by decide +kernel
theorem dX12_seeks_127 : decode cX12_seeks 127 = .ok (.ixor, 1) := by decide +kernel
theorem dX12_seeks_128 : decode cX12_seeks 128 = .ok (.iand, 1) := by decide +kernel
theorem dX12_seeks_129 : decode cX12_seeks 129 = .ok (.istore 4, 2) := by decide +kernel
theorem dX12_seeks_131 : decode cX12_seeks 131 = .ok (.aload_n 0, 1) := by decide +kernel
theorem dX12_seeks_132 : decode cX12_seeks 132 = .ok (.getfield 199, 3) := by decide +kernel
theorem dX12_seeks_135 : decode cX12_seeks 135 = .ok (.iload 5, 2) := by decide +kernel
theorem dX12_seeks_137 : decode cX12_seeks 137 = .ok (.iaload, 1) := by decide +kernel
theorem dX12_seeks_138 : decode cX12_seeks 138 = .ok (.iconst 1, 1) := by decide +kernel
theorem dX12_seeks_139 : decode cX12_seeks 139 = .ok (.iadd, 1) := by decide +kernel
theorem dX12_seeks_140 : decode cX12_seeks 140 = .ok (.istore 6, 2) := by decide +kernel
theorem dX12_seeks_142 : decode cX12_seeks 142 = .ok (.iconst 0, 1) := by decide +kernel
theorem dX12_seeks_143 : decode cX12_seeks 143 = .ok (.istore 7, 2) := by decide +kernel
theorem dX12_seeks_145 : decode cX12_seeks 145 = .ok (.iload 6, 2) := by decide +kernel
theorem dX12_seeks_147 : decode cX12_seeks 147 = .ok (.iload_n 2, 1) := by decide +kernel
theorem dX12_seeks_148 : decode cX12_seeks 148 = .ok (.if_icmp .ge 138, 3) := by decide +kernel
theorem dX12_seeks_151 : decode cX12_seeks 151 = .ok (.iload 7, 2) := by decide +kernel
theorem dX12_seeks_153 : decode cX12_seeks 153 = .ok (.ifCond .ne 133, 3) := by decide +kernel
theorem dX12_seeks_156 : decode cX12_seeks 156 = .ok (.iload 4, 2) := by decide +kernel
theorem dX12_seeks_158 : decode cX12_seeks 158 = .ok (.iload 6, 2) := by decide +kernel
theorem dX12_seeks_160 : decode cX12_seeks 160 = .ok (.ishr, 1) := by decide +kernel
theorem dX12_seeks_161 : decode cX12_seeks 161 = .ok (.iconst 1, 1) := by decide +kernel
theorem dX12_seeks_162 : decode cX12_seeks 162 = .ok (.iand, 1) := by decide +kernel
theorem dX12_seeks_163 : decode cX12_seeks 163 = .ok (.ifCond .ne 112, 3) := by decide +kernel
theorem dX12_seeks_166 : decode cX12_seeks 166 = .ok (.iconst 1, 1) := by decide +kernel
theorem dX12_seeks_167 : decode cX12_seeks 167 = .ok (.iload_n 2, 1) := by decide +kernel
theorem dX12_seeks_168 : decode cX12_seeks 168 = .ok (.ishl, 1) := by decide +kernel
theorem dX12_seeks_169 : decode cX12_seeks 169 = .ok (.iconst 1, 1) := by decide +kernel
theorem dX12_seeks_170 : decode cX12_seeks 170 = .ok (.isub, 1) := by decide +kernel
theorem dX12_seeks_171 : decode cX12_seeks 171 = .ok (.iload 4, 2) := by decide +kernel
theorem dX12_seeks_173 : decode cX12_seeks 173 = .ok (.iconst (-1), 1) := by decide +kernel
theorem dX12_seeks_174 : decode cX12_seeks 174 = .ok (.ixor, 1) := by decide +kernel
theorem dX12_seeks_175 : decode cX12_seeks 175 = .ok (.iand, 1) := by decide +kernel
theorem dX12_seeks_176 : decode cX12_seeks 176 = .ok (.iconst 1, 1) := by decide +kernel
theorem dX12_seeks_177 : decode cX12_seeks 177 = .ok (.iload 6, 2) := by decide +kernel
theorem dX12_seeks_179 : decode cX12_seeks 179 = .ok (.ishl, 1) := by decide +kernel
theorem dX12_seeks_180 : decode cX12_seeks 180 = .ok (.iconst (-1), 1) := by decide +kernel
theorem dX12_seeks_181 : decode cX12_seeks 181 = .ok (.ixor, 1) := by decide +kernel
theorem dX12_seeks_182 : decode cX12_seeks 182 = .ok (.iand, 1) := by decide +kernel
theorem dX12_seeks_183 : decode cX12_seeks 183 = .ok (.istore 8, 2) := by decide +kernel
theorem dX12_seeks_185 : decode cX12_seeks 185 = .ok (.iload 5, 2) := by decide +kernel
theorem dX12_seeks_187 : decode cX12_seeks 187 = .ok (.ifCond .ne 7, 3) := by decide +kernel
theorem dX12_seeks_190 : decode cX12_seeks 190 = .ok (.iconst (-1), 1) := by decide +kernel
theorem dX12_seeks_191 : decode cX12_seeks 191 = .ok (.goto 22, 3) := by decide +kernel
theorem dX12_seeks_194 : decode cX12_seeks 194 = .ok (.aload_n 0, 1) := by decide +kernel
theorem dX12_seeks_195 : decode cX12_seeks 195 = .ok (.getfield 94, 3) := by decide +kernel
theorem dX12_seeks_198 : decode cX12_seeks 198 = .ok (.bipush 8, 2) := by decide +kernel
theorem dX12_seeks_200 : decode cX12_seeks 200 = .ok (.iload_n 1, 1) := by decide +kernel
theorem dX12_seeks_201 : decode cX12_seeks 201 = .ok (.imul, 1) := by decide +kernel
theorem dX12_seeks_202 : decode cX12_seeks 202 = .ok (.aload_n 0, 1) := by decide +kernel
theorem dX12_seeks_203 : decode cX12_seeks 203 = .ok (.getfield 199, 3) := by decide +kernel
theorem dX12_seeks_206 : decode cX12_seeks 206 = .ok (.iload 5, 2) := by decide +kernel
theorem dX12_seeks_208 : decode cX12_seeks 208 = .ok (.iconst 1, 1) := by decide +kernel
theorem dX12_seeks_209 : decode cX12_seeks 209 = .ok (.isub, 1) := by decide +kernel
theorem dX12_seeks_210 : decode cX12_seeks 210 = .ok (.iaload, 1) := by decide +kernel
theorem dX12_seeks_211 : decode cX12_seeks 211 = .ok (.iadd, 1) := by decide +kernel
theorem dX12_seeks_212 : decode cX12_seeks 212 = .ok (.iaload, 1) := by decide +kernel
theorem dX12_seeks_213 : decode cX12_seeks 213 = .ok (.istore 9, 2) := by decide +kernel
theorem dX12_seeks_215 : decode cX12_seeks 215 = .ok (.aload_n 0, 1) := by decide +kernel
theorem dX12_seeks_216 : decode cX12_seeks 216 = .ok (.getfield 205, 3) := by decide +kernel
theorem dX12_seeks_219 : decode cX12_seeks 219 = .ok (.iload 5, 2) := by decide +kernel
theorem dX12_seeks_221 : decode cX12_seeks 221 = .ok (.iconst 1, 1) := by decide +kernel
theorem dX12_seeks_222 : decode cX12_seeks 222 = .ok (.iadd, 1) := by decide +kernel
theorem dX12_seeks_223 : decode cX12_seeks 223 = .ok (.aload_n 0, 1) := by decide +kernel
theorem dX12_seeks_224 : decode cX12_seeks 224 = .ok (.getfield 205, 3) := by decide +kernel
theorem dX12_seeks_227 : decode cX12_seeks 227 = .ok (.iload 5, 2) := by decide +kernel
theorem dX12_seeks_229 : decode cX12_seeks 229 = .ok (.iaload, 1) := by decide +kernel
theorem dX12_seeks_230 : decode cX12_seeks 230 = .ok (.aload_n 0, 1) := by decide +kernel
theorem dX12_seeks_231 : decode cX12_seeks 231 = .ok (.iload_n 1, 1) := by decide +kernel
theorem dX12_seeks_232 : decode cX12_seeks 232 = .ok (.iload 6, 2) := by decide +kernel
theorem dX12_seeks_234 : decode cX12_seeks 234 = .ok (.iload 9, 2) := by decide +kernel
theorem dX12_seeks_236 : decode cX12_seeks 236 = .ok (.aload_n 0, 1) := by decide +kernel
theorem dX12_seeks_237 : decode cX12_seeks 237 = .ok (.getfield 208, 3) := by decide +kernel
theorem dX12_seeks_240 : decode cX12_seeks 240 = .ok (.iload 5, 2) := by decide +kernel
theorem dX12_seeks_242 : decode cX12_seeks 242 = .ok (.iaload, 1) := by decide +kernel
theorem dX12_seeks_243 : decode cX12_seeks 243 = .ok (.iload 8, 2) := by decide +kernel
theorem dX12_seeks_245 : decode cX12_seeks 245 = .ok (.invokevirtual 328, 3) := by decide +kernel
theorem dX12_seeks_248 : decode cX12_seeks 248 = .ok (.iadd, 1) := by decide +kernel
theorem dX12_seeks_249 : decode cX12_seeks 249 = .ok (.iastore, 1) := by decide +kernel
theorem dX12_seeks_250 : decode cX12_seeks 250 = .ok (.iload_n 3, 1) := by decide +kernel
theorem dX12_seeks_251 : decode cX12_seeks 251 = .ok (.iconst (-1), 1) := by decide +kernel
theorem dX12_seeks_252 : decode cX12_seeks 252 = .ok (.if_icmp .eq 16, 3) := by decide +kernel
theorem dX12_seeks_255 : decode cX12_seeks 255 = .ok (.aload_n 0, 1) := by decide +kernel
theorem dX12_seeks_256 : decode cX12_seeks 256 = .ok (.getfield 205, 3) := by decide +kernel
theorem dX12_seeks_259 : decode cX12_seeks 259 = .ok (.iload 5, 2) := by decide +kernel
theorem dX12_seeks_261 : decode cX12_seeks 261 = .ok (.iconst 1, 1) := by decide +kernel
theorem dX12_seeks_262 : decode cX12_seeks 262 = .ok (.iadd, 1) := by decide +kernel
theorem dX12_seeks_263 : decode cX12_seeks 263 = .ok (.iaload, 1) := by decide +kernel
theorem dX12_seeks_264 : decode cX12_seeks 264 = .ok (.iload_n 3, 1) := by decide +kernel
theorem dX12_seeks_265 : decode cX12_seeks 265 = .ok (.if_icmp .ge 7, 3) := by decide +kernel
theorem dX12_seeks_268 : decode cX12_seeks 268 = .ok (.iconst 1, 1) := by decide +kernel
theorem dX12_seeks_269 : decode cX12_seeks 269 = .ok (.goto 4, 3) := by decide +kernel
theorem dX12_seeks_272 : decode cX12_seeks 272 = .ok (.iconst 0, 1) := by decide +kernel
theorem dX12_seeks_273 : decode cX12_seeks 273 = .ok (.istore 7, 2) := by decide +kernel
theorem dX12_seeks_275 : decode cX12_seeks 275 = .ok (.iload 7, 2) := by decide +kernel
theorem dX12_seeks_277 : decode cX12_seeks 277 = .ok (.ifCond .ne (-132), 3) := by decide +kernel
theorem dX12_seeks_280 : decode cX12_seeks 280 = .ok (.iinc 6 1, 3) := by decide +kernel
theorem dX12_seeks_283 : decode cX12_seeks 283 = .ok (.goto (-138), 3) := by decide +kernel
theorem dX12_seeks_286 : decode cX12_seeks 286 = .ok (.iload 7, 2) := by decide +kernel
theorem dX12_seeks_288 : decode cX12_seeks 288 = .ok (.ifCond .ne 17, 3) := by decide +kernel
theorem dX12_seeks_291 : decode cX12_seeks 291 = .ok (.aload_n 0, 1) := by decide +kernel
theorem dX12_seeks_292 : decode cX12_seeks 292 = .ok (.getfield 199, 3) := by decide +kernel
theorem dX12_seeks_295 : decode cX12_seeks 295 = .ok (.iload 5, 2) := by decide +kernel
theorem dX12_seeks_297 : decode cX12_seeks 297 = .ok (.iconst (-1), 1) := by decide +kernel
theorem dX12_seeks_298 : decode cX12_seeks 298 = .ok (.iastore, 1) := by decide +kernel
theorem dX12_seeks_299 : decode cX12_seeks 299 = .ok (.iinc 5 (-1), 3) := by decide +kernel
theorem dX12_seeks_302 : decode cX12_seeks 302 = .ok (.goto (-266), 3) := by decide +kernel
theorem dX12_seeks_305 : decode cX12_seeks 305 = .ok (.aload_n 0, 1) := by decide +kernel
theorem dX12_seeks_306 : decode cX12_seeks 306 = .ok (.getfield 199, 3) := by decide +kernel
theorem dX12_seeks_309 : decode cX12_seeks 309 = .ok (.iload 5, 2) := by decide +kernel
theorem dX12_seeks_311 : decode cX12_seeks 311 = .ok (.iload 6, 2) := by decide +kernel
theorem dX12_seeks_313 : decode cX12_seeks 313 = .ok (.iastore, 1) := by decide +kernel
theorem dX12_seeks_314 : decode cX12_seeks 314 = .ok (.iload 4, 2) := by decide +kernel
theorem dX12_seeks_316 : decode cX12_seeks 316 = .ok (.iconst 1, 1) := by decide +kernel
theorem dX12_seeks_317 : decode cX12_seeks 317 = .ok (.iload 6, 2) := by decide +kernel
theorem dX12_seeks_319 : decode cX12_seeks 319 = .ok (.ishl, 1) := by decide +kernel
theorem dX12_seeks_320 : decode cX12_seeks 320 = .ok (.ior, 1) := by decide +kernel
theorem dX12_seeks_321 : decode cX12_seeks 321 = .ok (.istore 4, 2) := by decide +kernel
theorem dX12_seeks_323 : decode cX12_seeks 323 = .ok (.aload_n 0, 1) := by decide +kernel
theorem dX12_seeks_324 : decode cX12_seeks 324 = .ok (.getfield 208, 3) := by decide +kernel
theorem dX12_seeks_327 : decode cX12_seeks 327 = .ok (.iload 5, 2) := by decide +kernel
theorem dX12_seeks_329 : decode cX12_seeks 329 = .ok (.iconst 1, 1) := by decide +kernel
theorem dX12_seeks_330 : decode cX12_seeks 330 = .ok (.iadd, 1) := by decide +kernel
theorem dX12_seeks_331 : decode cX12_seeks 331 = .ok (.aload_n 0, 1) := by decide +kernel
theorem dX12_seeks_332 : decode cX12_seeks 332 = .ok (.getfield 208, 3) := by decide +kernel
theorem dX12_seeks_335 : decode cX12_seeks 335 = .ok (.iload 5, 2) := by decide +kernel
theorem dX12_seeks_337 : decode cX12_seeks 337 = .ok (.iaload, 1) := by decide +kernel
theorem dX12_seeks_338 : decode cX12_seeks 338 = .ok (.aload_n 0, 1) := by decide +kernel
theorem dX12_seeks_339 : decode cX12_seeks 339 = .ok (.getfield 97, 3) := by decide +kernel
theorem dX12_seeks_342 : decode cX12_seeks 342 = .ok (.bipush 8, 2) := by decide +kernel
theorem dX12_seeks_344 : decode cX12_seeks 344 = .ok (.iload_n 1, 1) := by decide +kernel
theorem dX12_seeks_345 : decode cX12_seeks 345 = .ok (.imul, 1) := by decide +kernel
theorem dX12_seeks_346 : decode cX12_seeks 346 = .ok (.iload 6, 2) := by decide +kernel
theorem dX12_seeks_348 : decode cX12_seeks 348 = .ok (.iadd, 1) := by decide +kernel
theorem dX12_seeks_349 : decode cX12_seeks 349 = .ok (.iaload, 1) := by decide +kernel
theorem dX12_seeks_350 : decode cX12_seeks 350 = .ok (.ior, 1) := by decide +kernel
theorem dX12_seeks_351 : decode cX12_seeks 351 = .ok (.iastore, 1) := by decide +kernel
theorem dX12_seeks_352 : decode cX12_seeks 352 = .ok (.iinc 5 1, 3) := by decide +kernel
theorem dX12_seeks_355 : decode cX12_seeks 355 = .ok (.iload 5, 2) := by decide +kernel
theorem dX12_seeks_357 : decode cX12_seeks 357 = .ok (.iload_n 2, 1) := by decide +kernel
theorem dX12_seeks_358 : decode cX12_seeks 358 = .ok (.if_icmp .ge 11, 3) := by decide +kernel
theorem dX12_seeks_361 : decode cX12_seeks 361 = .ok (.aload_n 0, 1) := by decide +kernel
theorem dX12_seeks_362 : decode cX12_seeks 362 = .ok (.getfield 199, 3) := by decide +kernel
theorem dX12_seeks_365 : decode cX12_seeks 365 = .ok (.iload 5, 2) := by decide +kernel
theorem dX12_seeks_367 : decode cX12_seeks 367 = .ok (.iconst (-1), 1) := by decide +kernel
theorem dX12_seeks_368 : decode cX12_seeks 368 = .ok (.iastore, 1) := by decide +kernel
theorem dX12_seeks_369 : decode cX12_seeks 369 = .ok (.goto (-333), 3) := by decide +kernel
theorem dX12_seeks_372 : decode cX12_seeks 372 = .ok (.iload_n 3, 1) := by decide +kernel
theorem dX12_seeks_373 : decode cX12_seeks 373 = .ok (.ireturn, 1) := by decide +kernel
theorem dX12_best_0 : decode cX12_best 0 = .ok (.aload_n 0, 1) := by decide +kernel
theorem dX12_best_1 : decode cX12_best 1 = .ok (.iload_n 1, 1) := by decide +kernel
theorem dX12_best_2 : decode cX12_best 2 = .ok (.invokevirtual 253, 3) := by decide +kernel
theorem dX12_best_5 : decode cX12_best 5 = .ok (.ifCond .ne 9, 3) := by decide +kernel
theorem dX12_best_8 : decode cX12_best 8 = .ok (.aload_n 0, 1) := by decide +kernel
theorem dX12_best_9 : decode cX12_best 9 = .ok (.iconst (-1), 1) := by decide +kernel
theorem dX12_best_10 : decode cX12_best 10 = .ok (.invokevirtual 263, 3) := by decide +kernel
theorem dX12_best_13 : decode cX12_best 13 = .ok (.ireturn, 1) := by decide +kernel
theorem dX12_best_14 : decode cX12_best 14 = .ok (.aload_n 0, 1) := by decide +kernel
theorem dX12_best_15 : decode cX12_best 15 = .ok (.getfield 91, 3) := by decide +kernel
theorem dX12_best_18 : decode cX12_best 18 = .ok (.iload_n 1, 1) := by decide +kernel
theorem dX12_best_19 : decode cX12_best 19 = .ok (.iaload, 1) := by decide +kernel
theorem dX12_best_20 : decode cX12_best 20 = .ok (.ifCond .ne 12, 3) := by decide +kernel
theorem dX12_best_23 : decode cX12_best 23 = .ok (.aload_n 0, 1) := by decide +kernel
theorem dX12_best_24 : decode cX12_best 24 = .ok (.bipush (-6), 2) := by decide +kernel
theorem dX12_best_26 : decode cX12_best 26 = .ok (.invokevirtual 263, 3) := by decide +kernel
theorem dX12_best_29 : decode cX12_best 29 = .ok (.goto 8, 3) := by decide +kernel
theorem dX12_best_32 : decode cX12_best 32 = .ok (.aload_n 0, 1) := by decide +kernel
theorem dX12_best_33 : decode cX12_best 33 = .ok (.iload_n 1, 1) := by decide +kernel
theorem dX12_best_34 : decode cX12_best 34 = .ok (.invokevirtual 332, 3) := by decide +kernel
theorem dX12_best_37 : decode cX12_best 37 = .ok (.ireturn, 1) := by decide +kernel
theorem dX12_bestScene_0 : decode cX12_bestScene 0 = .ok (.aload_n 0, 1) := by decide +kernel
theorem dX12_bestScene_1 : decode cX12_bestScene 1 = .ok (.iload_n 1, 1) := by decide +kernel
theorem dX12_bestScene_2 : decode cX12_bestScene 2 = .ok (.invokevirtual 253, 3) := by decide +kernel
theorem dX12_bestScene_5 : decode cX12_bestScene 5 = .ok (.ifCond .eq 17, 3) := by decide +kernel
theorem dX12_bestScene_8 : decode cX12_bestScene 8 = .ok (.iload_n 2, 1) := by decide +kernel
theorem dX12_bestScene_9 : decode cX12_bestScene 9 = .ok (.ifCond .lt 13, 3) := by decide +kernel
theorem dX12_bestScene_12 : decode cX12_bestScene 12 = .ok (.iload_n 2, 1) := by decide +kernel
theorem dX12_bestScene_13 : decode cX12_bestScene 13 = .ok (.aload_n 0, 1) := by decide +kernel
theorem dX12_bestScene_14 : decode cX12_bestScene 14 = .ok (.getfield 91, 3) := by decide +kernel
theorem dX12_bestScene_17 : decode cX12_bestScene 17 = .ok (.iload_n 1, 1) := by decide +kernel
theorem dX12_bestScene_18 : decode cX12_bestScene 18 = .ok (.iaload, 1) := by decide +kernel
theorem dX12_bestScene_19 : decode cX12_bestScene 19 = .ok (.if_icmp .lt 5, 3) := by decide +kernel
theorem dX12_bestScene_22 : decode cX12_bestScene 22 = .ok (.iconst (-1), 1) := by decide +kernel
theorem dX12_bestScene_23 : decode cX12_bestScene 23 = .ok (.ireturn, 1) := by decide +kernel
theorem dX12_bestScene_24 : decode cX12_bestScene 24 = .ok (.aload_n 0, 1) := by decide +kernel
theorem dX12_bestScene_25 : decode cX12_bestScene 25 = .ok (.iload_n 1, 1) := by decide +kernel
theorem dX12_bestScene_26 : decode cX12_bestScene 26 = .ok (.invokevirtual 332, 3) := by decide +kernel
theorem dX12_bestScene_29 : decode cX12_bestScene 29 = .ok (.pop, 1) := by decide +kernel
theorem dX12_bestScene_30 : decode cX12_bestScene 30 = .ok (.aload_n 0, 1) := by decide +kernel
theorem dX12_bestScene_31 : decode cX12_bestScene 31 = .ok (.getfield 202, 3) := by decide +kernel
theorem dX12_bestScene_34 : decode cX12_bestScene 34 = .ok (.iload_n 2, 1) := by decide +kernel
theorem dX12_bestScene_35 : decode cX12_bestScene 35 = .ok (.iaload, 1) := by decide +kernel
theorem dX12_bestScene_36 : decode cX12_bestScene 36 = .ok (.ireturn, 1) := by decide +kernel
theorem dX12_bound_0 : decode cX12_bound 0 = .ok (.aload_n 0, 1) := by decide +kernel
theorem dX12_bound_1 : decode cX12_bound 1 = .ok (.iload_n 1, 1) := by decide +kernel
theorem dX12_bound_2 : decode cX12_bound 2 = .ok (.invokevirtual 253, 3) := by decide +kernel
theorem dX12_bound_5 : decode cX12_bound 5 = .ok (.ifCond .ne 9, 3) := by decide +kernel
theorem dX12_bound_8 : decode cX12_bound 8 = .ok (.aload_n 0, 1) := by decide +kernel
theorem dX12_bound_9 : decode cX12_bound 9 = .ok (.iconst (-1), 1) := by decide +kernel
theorem dX12_bound_10 : decode cX12_bound 10 = .ok (.invokevirtual 263, 3) := by decide +kernel
theorem dX12_bound_13 : decode cX12_bound 13 = .ok (.ireturn, 1) := by decide +kernel
theorem dX12_bound_14 : decode cX12_bound 14 = .ok (.iconst 0, 1) := by decide +kernel
theorem dX12_bound_15 : decode cX12_bound 15 = .ok (.istore_n 2, 1) := by decide +kernel
theorem dX12_bound_16 : decode cX12_bound 16 = .ok (.iconst 0, 1) := by decide +kernel
theorem dX12_bound_17 : decode cX12_bound 17 = .ok (.istore_n 3, 1) := by decide +kernel
theorem dX12_bound_18 : decode cX12_bound 18 = .ok (.iconst 0, 1) := by decide +kernel
theorem dX12_bound_19 : decode cX12_bound 19 = .ok (.istore 4, 2) := by decide +kernel
theorem dX12_bound_21 : decode cX12_bound 21 = .ok (.iload 4, 2) := by decide +kernel
theorem dX12_bound_23 : decode cX12_bound 23 = .ok (.aload_n 0, 1) := by decide +kernel
theorem dX12_bound_24 : decode cX12_bound 24 = .ok (.getfield 91, 3) := by decide +kernel
theorem dX12_bound_27 : decode cX12_bound 27 = .ok (.iload_n 1, 1) := by decide +kernel
theorem dX12_bound_28 : decode cX12_bound 28 = .ok (.iaload, 1) := by decide +kernel
theorem dX12_bound_29 : decode cX12_bound 29 = .ok (.if_icmp .ge 78, 3) := by decide +kernel
theorem dX12_bound_32 : decode cX12_bound 32 = .ok (.bipush 8, 2) := by decide +kernel
theorem dX12_bound_34 : decode cX12_bound 34 = .ok (.iload_n 1, 1) := by decide +kernel
theorem dX12_bound_35 : decode cX12_bound 35 = .ok (.imul, 1) := by decide +kernel
theorem dX12_bound_36 : decode cX12_bound 36 = .ok (.iload 4, 2) := by decide +kernel
theorem dX12_bound_38 : decode cX12_bound 38 = .ok (.iadd, 1) := by decide +kernel
theorem dX12_bound_39 : decode cX12_bound 39 = .ok (.istore 5, 2) := by decide +kernel
theorem dX12_bound_41 : decode cX12_bound 41 = .ok (.iload_n 2, 1) := by decide +kernel
theorem dX12_bound_42 : decode cX12_bound 42 = .ok (.aload_n 0, 1) := by decide +kernel
theorem dX12_bound_43 : decode cX12_bound 43 = .ok (.getfield 100, 3) := by decide +kernel
theorem dX12_bound_46 : decode cX12_bound 46 = .ok (.iload 5, 2) := by decide +kernel
theorem dX12_bound_48 : decode cX12_bound 48 = .ok (.iaload, 1) := by decide +kernel
theorem dX12_bound_49 : decode cX12_bound 49 = .ok (.aload_n 0, 1) := by decide +kernel
theorem dX12_bound_50 : decode cX12_bound 50 = .ok (.getfield 315, 3) := by decide +kernel
theorem dX12_bound_53 : decode cX12_bound 53 = .ok (.aload_n 0, 1) := by decide +kernel
theorem dX12_bound_54 : decode cX12_bound 54 = .ok (.aload_n 0, 1) := by decide +kernel
theorem dX12_bound_55 : decode cX12_bound 55 = .ok (.getfield 97, 3) := by decide +kernel
theorem dX12_bound_58 : decode cX12_bound 58 = .ok (.iload 5, 2) := by decide +kernel
theorem dX12_bound_60 : decode cX12_bound 60 = .ok (.iaload, 1) := by decide +kernel
theorem dX12_bound_61 : decode cX12_bound 61 = .ok (.invokevirtual 325, 3) := by decide +kernel
theorem dX12_bound_64 : decode cX12_bound 64 = .ok (.iadd, 1) := by decide +kernel
theorem dX12_bound_65 : decode cX12_bound 65 = .ok (.imul, 1) := by decide +kernel
theorem dX12_bound_66 : decode cX12_bound 66 = .ok (.iadd, 1) := by decide +kernel
theorem dX12_bound_67 : decode cX12_bound 67 = .ok (.istore_n 2, 1) := by decide +kernel
theorem dX12_bound_68 : decode cX12_bound 68 = .ok (.iload_n 3, 1) := by decide +kernel
theorem dX12_bound_69 : decode cX12_bound 69 = .ok (.aload_n 0, 1) := by decide +kernel
theorem dX12_bound_70 : decode cX12_bound 70 = .ok (.getfield 94, 3) := by decide +kernel
theorem dX12_bound_73 : decode cX12_bound 73 = .ok (.iload 5, 2) := by decide +kernel
theorem dX12_bound_75 : decode cX12_bound 75 = .ok (.iaload, 1) := by decide +kernel
theorem dX12_bound_76 : decode cX12_bound 76 = .ok (.ishr, 1) := by decide +kernel
theorem dX12_bound_77 : decode cX12_bound 77 = .ok (.iconst 1, 1) := by decide +kernel
theorem dX12_bound_78 : decode cX12_bound 78 = .ok (.iand, 1) := by decide +kernel
theorem dX12_bound_79 : decode cX12_bound 79 = .ok (.ifCond .ne 10, 3) := by decide +kernel
theorem dX12_bound_82 : decode cX12_bound 82 = .ok (.iload_n 2, 1) := by decide +kernel
theorem dX12_bound_83 : decode cX12_bound 83 = .ok (.aload_n 0, 1) := by decide +kernel
theorem dX12_bound_84 : decode cX12_bound 84 = .ok (.getfield 318, 3) := by decide +kernel
theorem dX12_bound_87 : decode cX12_bound 87 = .ok (.iadd, 1) := by decide +kernel
theorem dX12_bound_88 : decode cX12_bound 88 = .ok (.istore_n 2, 1) := by decide +kernel
theorem dX12_bound_89 : decode cX12_bound 89 = .ok (.iload_n 3, 1) := by decide +kernel
theorem dX12_bound_90 : decode cX12_bound 90 = .ok (.iconst 1, 1) := by decide +kernel
theorem dX12_bound_91 : decode cX12_bound 91 = .ok (.aload_n 0, 1) := by decide +kernel
theorem dX12_bound_92 : decode cX12_bound 92 = .ok (.getfield 94, 3) := by decide +kernel
theorem dX12_bound_95 : decode cX12_bound 95 = .ok (.iload 5, 2) := by decide +kernel
theorem dX12_bound_97 : decode cX12_bound 97 = .ok (.iaload, 1) := by decide +kernel
theorem dX12_bound_98 : decode cX12_bound 98 = .ok (.ishl, 1) := by decide +kernel
theorem dX12_bound_99 : decode cX12_bound 99 = .ok (.ior, 1) := by decide +kernel
theorem dX12_bound_100 : decode cX12_bound 100 = .ok (.istore_n 3, 1) := by decide +kernel
theorem dX12_bound_101 : decode cX12_bound 101 = .ok (.iinc 4 1, 3) := by decide +kernel
theorem dX12_bound_104 : decode cX12_bound 104 = .ok (.goto (-83), 3) := by decide +kernel
theorem dX12_bound_107 : decode cX12_bound 107 = .ok (.iload_n 2, 1) := by decide +kernel
theorem dX12_bound_108 : decode cX12_bound 108 = .ok (.ireturn, 1) := by decide +kernel
theorem dX12_isOrder_0 : decode cX12_isOrder 0 = .ok (.aload_n 0, 1) := by decide +kernel
theorem dX12_isOrder_1 : decode cX12_isOrder 1 = .ok (.getfield 23, 3) := by decide +kernel
theorem dX12_isOrder_4 : decode cX12_isOrder 4 = .ok (.iload_n 2, 1) := by decide +kernel
theorem dX12_isOrder_5 : decode cX12_isOrder 5 = .ok (.iaload, 1) := by decide +kernel
theorem dX12_isOrder_6 : decode cX12_isOrder 6 = .ok (.aload_n 0, 1) := by decide +kernel
theorem dX12_isOrder_7 : decode cX12_isOrder 7 = .ok (.getfield 91, 3) := by decide +kernel
theorem dX12_isOrder_10 : decode cX12_isOrder 10 = .ok (.iload_n 1, 1) := by decide +kernel
theorem dX12_isOrder_11 : decode cX12_isOrder 11 = .ok (.iaload, 1) := by decide +kernel
theorem dX12_isOrder_12 : decode cX12_isOrder 12 = .ok (.if_icmp .eq 5, 3) := by decide +kernel
theorem dX12_isOrder_15 : decode cX12_isOrder 15 = .ok (.iconst 0, 1) := by decide +kernel
theorem dX12_isOrder_16 : decode cX12_isOrder 16 = .ok (.ireturn, 1) := by decide +kernel
theorem dX12_isOrder_17 : decode cX12_isOrder 17 = .ok (.iconst 0, 1) := by decide +kernel
theorem dX12_isOrder_18 : decode cX12_isOrder 18 = .ok (.istore_n 3, 1) := by decide +kernel
theorem dX12_isOrder_19 : decode cX12_isOrder 19 = .ok (.iconst 0, 1) := by decide +kernel
theorem dX12_isOrder_20 : decode cX12_isOrder 20 = .ok (.istore 4, 2) := by decide +kernel
theorem dX12_isOrder_22 : decode cX12_isOrder 22 = .ok (.iload 4, 2) := by decide +kernel
theorem dX12_isOrder_24 : decode cX12_isOrder 24 = .ok (.aload_n 0, 1) := by decide +kernel
theorem dX12_isOrder_25 : decode cX12_isOrder 25 = .ok (.getfield 23, 3) := by decide +kernel
theorem dX12_isOrder_28 : decode cX12_isOrder 28 = .ok (.iload_n 2, 1) := by decide +kernel
theorem dX12_isOrder_29 : decode cX12_isOrder 29 = .ok (.iaload, 1) := by decide +kernel
theorem dX12_isOrder_30 : decode cX12_isOrder 30 = .ok (.if_icmp .ge 68, 3) := by decide +kernel
theorem dX12_isOrder_33 : decode cX12_isOrder 33 = .ok (.aload_n 0, 1) := by decide +kernel
theorem dX12_isOrder_34 : decode cX12_isOrder 34 = .ok (.getfield 29, 3) := by decide +kernel
theorem dX12_isOrder_37 : decode cX12_isOrder 37 = .ok (.bipush 60, 2) := by decide +kernel
theorem dX12_isOrder_39 : decode cX12_isOrder 39 = .ok (.iload_n 2, 1) := by decide +kernel
theorem dX12_isOrder_40 : decode cX12_isOrder 40 = .ok (.imul, 1) := by decide +kernel
theorem dX12_isOrder_41 : decode cX12_isOrder 41 = .ok (.iload 4, 2) := by decide +kernel
theorem dX12_isOrder_43 : decode cX12_isOrder 43 = .ok (.iadd, 1) := by decide +kernel
theorem dX12_isOrder_44 : decode cX12_isOrder 44 = .ok (.laload, 1) := by decide +kernel
theorem dX12_isOrder_45 : decode cX12_isOrder 45 = .ok (.l2i, 1) := by decide +kernel
theorem dX12_isOrder_46 : decode cX12_isOrder 46 = .ok (.istore 5, 2) := by decide +kernel
theorem dX12_isOrder_48 : decode cX12_isOrder 48 = .ok (.iload 5, 2) := by decide +kernel
theorem dX12_isOrder_50 : decode cX12_isOrder 50 = .ok (.ifCond .lt 24, 3) := by decide +kernel
theorem dX12_isOrder_53 : decode cX12_isOrder 53 = .ok (.iload 5, 2) := by decide +kernel
theorem dX12_isOrder_55 : decode cX12_isOrder 55 = .ok (.aload_n 0, 1) := by decide +kernel
theorem dX12_isOrder_56 : decode cX12_isOrder 56 = .ok (.getfield 91, 3) := by decide +kernel
theorem dX12_isOrder_59 : decode cX12_isOrder 59 = .ok (.iload_n 1, 1) := by decide +kernel
theorem dX12_isOrder_60 : decode cX12_isOrder 60 = .ok (.iaload, 1) := by decide +kernel
theorem dX12_isOrder_61 : decode cX12_isOrder 61 = .ok (.if_icmp .ge 13, 3) := by decide +kernel
theorem dX12_isOrder_64 : decode cX12_isOrder 64 = .ok (.iload_n 3, 1) := by decide +kernel
theorem dX12_isOrder_65 : decode cX12_isOrder 65 = .ok (.iload 5, 2) := by decide +kernel
theorem dX12_isOrder_67 : decode cX12_isOrder 67 = .ok (.ishr, 1) := by decide +kernel
theorem dX12_isOrder_68 : decode cX12_isOrder 68 = .ok (.iconst 1, 1) := by decide +kernel
theorem dX12_isOrder_69 : decode cX12_isOrder 69 = .ok (.iand, 1) := by decide +kernel
theorem dX12_isOrder_70 : decode cX12_isOrder 70 = .ok (.iconst 1, 1) := by decide +kernel
theorem dX12_isOrder_71 : decode cX12_isOrder 71 = .ok (.if_icmp .ne 5, 3) := by decide +kernel
theorem dX12_isOrder_74 : decode cX12_isOrder 74 = .ok (.iconst 0, 1) := by decide +kernel
theorem dX12_isOrder_75 : decode cX12_isOrder 75 = .ok (.ireturn, 1) := by decide +kernel
theorem dX12_isOrder_76 : decode cX12_isOrder 76 = .ok (.iload_n 3, 1) := by decide +kernel
theorem dX12_isOrder_77 : decode cX12_isOrder 77 = .ok (.iconst 1, 1) := by decide +kernel
theorem dX12_isOrder_78 : decode cX12_isOrder 78 = .ok (.iload 5, 2) := by decide +kernel
theorem dX12_isOrder_80 : decode cX12_isOrder 80 = .ok (.ishl, 1) := by decide +kernel
theorem dX12_isOrder_81 : decode cX12_isOrder 81 = .ok (.ior, 1) := by decide +kernel
theorem dX12_isOrder_82 : decode cX12_isOrder 82 = .ok (.istore_n 3, 1) := by decide +kernel
theorem dX12_isOrder_83 : decode cX12_isOrder 83 = .ok (.aload_n 0, 1) := by decide +kernel
theorem dX12_isOrder_84 : decode cX12_isOrder 84 = .ok (.getfield 199, 3) := by decide +kernel
theorem dX12_isOrder_87 : decode cX12_isOrder 87 = .ok (.iload 4, 2) := by decide +kernel
theorem dX12_isOrder_89 : decode cX12_isOrder 89 = .ok (.iload 5, 2) := by decide +kernel
theorem dX12_isOrder_91 : decode cX12_isOrder 91 = .ok (.iastore, 1) := by decide +kernel
theorem dX12_isOrder_92 : decode cX12_isOrder 92 = .ok (.iinc 4 1, 3) := by decide +kernel
theorem dX12_isOrder_95 : decode cX12_isOrder 95 = .ok (.goto (-73), 3) := by decide +kernel
theorem dX12_isOrder_98 : decode cX12_isOrder 98 = .ok (.iconst 1, 1) := by decide +kernel
theorem dX12_isOrder_99 : decode cX12_isOrder 99 = .ok (.ireturn, 1) := by decide +kernel
theorem dX12_judge_0 : decode cX12_judge 0 = .ok (.aload_n 0, 1) := by decide +kernel
theorem dX12_judge_1 : decode cX12_judge 1 = .ok (.iload_n 1, 1) := by decide +kernel
theorem dX12_judge_2 : decode cX12_judge 2 = .ok (.invokevirtual 253, 3) := by decide +kernel
theorem dX12_judge_5 : decode cX12_judge 5 = .ok (.ifCond .ne 9, 3) := by decide +kernel
theorem dX12_judge_8 : decode cX12_judge 8 = .ok (.aload_n 0, 1) := by decide +kernel
theorem dX12_judge_9 : decode cX12_judge 9 = .ok (.iconst (-1), 1) := by decide +kernel
theorem dX12_judge_10 : decode cX12_judge 10 = .ok (.invokevirtual 263, 3) := by decide +kernel
theorem dX12_judge_13 : decode cX12_judge 13 = .ok (.ireturn, 1) := by decide +kernel
theorem dX12_judge_14 : decode cX12_judge 14 = .ok (.aload_n 0, 1) := by decide +kernel
theorem dX12_judge_15 : decode cX12_judge 15 = .ok (.iload_n 2, 1) := by decide +kernel
theorem dX12_judge_16 : decode cX12_judge 16 = .ok (.invokevirtual 280, 3) := by decide +kernel
theorem dX12_judge_19 : decode cX12_judge 19 = .ok (.istore_n 3, 1) := by decide +kernel
theorem dX12_judge_20 : decode cX12_judge 20 = .ok (.iload_n 3, 1) := by decide +kernel
theorem dX12_judge_21 : decode cX12_judge 21 = .ok (.ifCond .eq 9, 3) := by decide +kernel
theorem dX12_judge_24 : decode cX12_judge 24 = .ok (.aload_n 0, 1) := by decide +kernel
theorem dX12_judge_25 : decode cX12_judge 25 = .ok (.iload_n 3, 1) := by decide +kernel
theorem dX12_judge_26 : decode cX12_judge 26 = .ok (.invokevirtual 263, 3) := by decide +kernel
theorem dX12_judge_29 : decode cX12_judge 29 = .ok (.ireturn, 1) := by decide +kernel
theorem dX12_judge_30 : decode cX12_judge 30 = .ok (.aload_n 0, 1) := by decide +kernel
theorem dX12_judge_31 : decode cX12_judge 31 = .ok (.iload_n 1, 1) := by decide +kernel
theorem dX12_judge_32 : decode cX12_judge 32 = .ok (.iload_n 2, 1) := by decide +kernel
theorem dX12_judge_33 : decode cX12_judge 33 = .ok (.invokevirtual 335, 3) := by decide +kernel
theorem dX12_judge_36 : decode cX12_judge 36 = .ok (.ifCond .eq 11, 3) := by decide +kernel
theorem dX12_judge_39 : decode cX12_judge 39 = .ok (.aload_n 0, 1) := by decide +kernel
theorem dX12_judge_40 : decode cX12_judge 40 = .ok (.iload_n 1, 1) := by decide +kernel
theorem dX12_judge_41 : decode cX12_judge 41 = .ok (.invokevirtual 338, 3) := by decide +kernel
theorem dX12_judge_44 : decode cX12_judge 44 = .ok (.goto 9, 3) := by decide +kernel
theorem dX12_judge_47 : decode cX12_judge 47 = .ok (.aload_n 0, 1) := by decide +kernel
theorem dX12_judge_48 : decode cX12_judge 48 = .ok (.bipush (-6), 2) := by decide +kernel
theorem dX12_judge_50 : decode cX12_judge 50 = .ok (.invokevirtual 263, 3) := by decide +kernel
theorem dX12_judge_53 : decode cX12_judge 53 = .ok (.ireturn, 1) := by decide +kernel
theorem dX12_begin_0 : decode cX12_begin 0 = .ok (.aload_n 0, 1) := by decide +kernel
theorem dX12_begin_1 : decode cX12_begin 1 = .ok (.iload_n 1, 1) := by decide +kernel
theorem dX12_begin_2 : decode cX12_begin 2 = .ok (.invokevirtual 253, 3) := by decide +kernel
theorem dX12_begin_5 : decode cX12_begin 5 = .ok (.ifCond .ne 9, 3) := by decide +kernel
theorem dX12_begin_8 : decode cX12_begin 8 = .ok (.aload_n 0, 1) := by decide +kernel
theorem dX12_begin_9 : decode cX12_begin 9 = .ok (.iconst (-1), 1) := by decide +kernel
theorem dX12_begin_10 : decode cX12_begin 10 = .ok (.invokevirtual 263, 3) := by decide +kernel
theorem dX12_begin_13 : decode cX12_begin 13 = .ok (.ireturn, 1) := by decide +kernel
theorem dX12_begin_14 : decode cX12_begin 14 = .ok (.aload_n 0, 1) := by decide +kernel
theorem dX12_begin_15 : decode cX12_begin 15 = .ok (.iload_n 2, 1) := by decide +kernel
theorem dX12_begin_16 : decode cX12_begin 16 = .ok (.invokevirtual 280, 3) := by decide +kernel
theorem dX12_begin_19 : decode cX12_begin 19 = .ok (.istore_n 3, 1) := by decide +kernel
theorem dX12_begin_20 : decode cX12_begin 20 = .ok (.iload_n 3, 1) := by decide +kernel
theorem dX12_begin_21 : decode cX12_begin 21 = .ok (.ifCond .eq 9, 3) := by decide +kernel
theorem dX12_begin_24 : decode cX12_begin 24 = .ok (.aload_n 0, 1) := by decide +kernel
theorem dX12_begin_25 : decode cX12_begin 25 = .ok (.iload_n 3, 1) := by decide +kernel
theorem dX12_begin_26 : decode cX12_begin 26 = .ok (.invokevirtual 263, 3) := by decide +kernel
theorem dX12_begin_29 : decode cX12_begin 29 = .ok (.ireturn, 1) := by decide +kernel
theorem dX12_begin_30 : decode cX12_begin 30 = .ok (.aload_n 0, 1) := by decide +kernel
theorem dX12_begin_31 : decode cX12_begin 31 = .ok (.getfield 106, 3) := by decide +kernel
theorem dX12_begin_34 : decode cX12_begin 34 = .ok (.iload_n 1, 1) := by decide +kernel
theorem dX12_begin_35 : decode cX12_begin 35 = .ok (.baload, 1) := by decide +kernel
theorem dX12_begin_36 : decode cX12_begin 36 = .ok (.ifCond .ne 21, 3) := by decide +kernel
theorem dX12_begin_39 : decode cX12_begin 39 = .ok (.aload_n 0, 1) := by decide +kernel
theorem dX12_begin_40 : decode cX12_begin 40 = .ok (.getfield 91, 3) := by decide +kernel
theorem dX12_begin_43 : decode cX12_begin 43 = .ok (.iload_n 1, 1) := by decide +kernel
theorem dX12_begin_44 : decode cX12_begin 44 = .ok (.iaload, 1) := by decide +kernel
theorem dX12_begin_45 : decode cX12_begin 45 = .ok (.ifCond .eq 12, 3) := by decide +kernel
theorem dX12_begin_48 : decode cX12_begin 48 = .ok (.aload_n 0, 1) := by decide +kernel
theorem dX12_begin_49 : decode cX12_begin 49 = .ok (.iload_n 1, 1) := by decide +kernel
theorem dX12_begin_50 : decode cX12_begin 50 = .ok (.iload_n 2, 1) := by decide +kernel
theorem dX12_begin_51 : decode cX12_begin 51 = .ok (.invokevirtual 335, 3) := by decide +kernel
theorem dX12_begin_54 : decode cX12_begin 54 = .ok (.ifCond .ne 10, 3) := by decide +kernel
theorem dX12_begin_57 : decode cX12_begin 57 = .ok (.aload_n 0, 1) := by decide +kernel
theorem dX12_begin_58 : decode cX12_begin 58 = .ok (.bipush (-6), 2) := by decide +kernel
theorem dX12_begin_60 : decode cX12_begin 60 = .ok (.invokevirtual 263, 3) := by decide +kernel
theorem dX12_begin_63 : decode cX12_begin 63 = .ok (.ireturn, 1) := by decide +kernel
theorem dX12_begin_64 : decode cX12_begin 64 = .ok (.aload_n 0, 1) := by decide +kernel
theorem dX12_begin_65 : decode cX12_begin 65 = .ok (.getfield 106, 3) := by decide +kernel
theorem dX12_begin_68 : decode cX12_begin 68 = .ok (.iload_n 1, 1) := by decide +kernel
theorem dX12_begin_69 : decode cX12_begin 69 = .ok (.iconst 1, 1) := by decide +kernel
theorem dX12_begin_70 : decode cX12_begin 70 = .ok (.bastore, 1) := by decide +kernel
theorem dX12_begin_71 : decode cX12_begin 71 = .ok (.iconst 0, 1) := by decide +kernel
theorem dX12_begin_72 : decode cX12_begin 72 = .ok (.istore 4, 2) := by decide +kernel
theorem dX12_begin_74 : decode cX12_begin 74 = .ok (.iload 4, 2) := by decide +kernel
theorem dX12_begin_76 : decode cX12_begin 76 = .ok (.aload_n 0, 1) := by decide +kernel
theorem dX12_begin_77 : decode cX12_begin 77 = .ok (.getfield 91, 3) := by decide +kernel
theorem dX12_begin_80 : decode cX12_begin 80 = .ok (.iload_n 1, 1) := by decide +kernel
theorem dX12_begin_81 : decode cX12_begin 81 = .ok (.iaload, 1) := by decide +kernel
theorem dX12_begin_82 : decode cX12_begin 82 = .ok (.if_icmp .ge 52, 3) := by decide +kernel
theorem dX12_begin_85 : decode cX12_begin 85 = .ok (.aload_n 0, 1) := by decide +kernel
theorem dX12_begin_86 : decode cX12_begin 86 = .ok (.getfield 109, 3) := by decide +kernel
theorem dX12_begin_89 : decode cX12_begin 89 = .ok (.bipush 8, 2) := by decide +kernel
theorem dX12_begin_91 : decode cX12_begin 91 = .ok (.iload_n 1, 1) := by decide +kernel
theorem dX12_begin_92 : decode cX12_begin 92 = .ok (.imul, 1) := by decide +kernel
theorem dX12_begin_93 : decode cX12_begin 93 = .ok (.iload 4, 2) := by decide +kernel
theorem dX12_begin_95 : decode cX12_begin 95 = .ok (.iadd, 1) := by decide +kernel
theorem dX12_begin_96 : decode cX12_begin 96 = .ok (.aload_n 0, 1) := by decide +kernel
theorem dX12_begin_97 : decode cX12_begin 97 = .ok (.getfield 199, 3) := by decide +kernel
theorem dX12_begin_100 : decode cX12_begin 100 = .ok (.iload 4, 2) := by decide +kernel
theorem dX12_begin_102 : decode cX12_begin 102 = .ok (.iaload, 1) := by decide +kernel
theorem dX12_begin_103 : decode cX12_begin 103 = .ok (.iastore, 1) := by decide +kernel
theorem dX12_begin_104 : decode cX12_begin 104 = .ok (.aload_n 0, 1) := by decide +kernel
theorem dX12_begin_105 : decode cX12_begin 105 = .ok (.getfield 112, 3) := by decide +kernel
theorem dX12_begin_108 : decode cX12_begin 108 = .ok (.bipush 8, 2) := by decide +kernel
theorem dX12_begin_110 : decode cX12_begin 110 = .ok (.iload_n 1, 1) := by decide +kernel
theorem dX12_begin_111 : decode cX12_begin 111 = .ok (.imul, 1) := by decide +kernel
theorem dX12_begin_112 : decode cX12_begin 112 = .ok (.iload 4, 2) := by decide +kernel
theorem dX12_begin_114 : decode cX12_begin 114 = .ok (.iadd, 1) := by decide +kernel
theorem dX12_begin_115 : decode cX12_begin 115 = .ok (.aload_n 0, 1) := by decide +kernel
theorem dX12_begin_116 : decode cX12_begin 116 = .ok (.getfield 100, 3) := by decide +kernel
theorem dX12_begin_119 : decode cX12_begin 119 = .ok (.bipush 8, 2) := by decide +kernel
theorem dX12_begin_121 : decode cX12_begin 121 = .ok (.iload_n 1, 1) := by decide +kernel
theorem dX12_begin_122 : decode cX12_begin 122 = .ok (.imul, 1) := by decide +kernel
theorem dX12_begin_123 : decode cX12_begin 123 = .ok (.iload 4, 2) := by decide +kernel
theorem dX12_begin_125 : decode cX12_begin 125 = .ok (.iadd, 1) := by decide +kernel
theorem dX12_begin_126 : decode cX12_begin 126 = .ok (.iaload, 1) := by decide +kernel
theorem dX12_begin_127 : decode cX12_begin 127 = .ok (.iastore, 1) := by decide +kernel
theorem dX12_begin_128 : decode cX12_begin 128 = .ok (.iinc 4 1, 3) := by decide +kernel
theorem dX12_begin_131 : decode cX12_begin 131 = .ok (.goto (-57), 3) := by decide +kernel
theorem dX12_begin_134 : decode cX12_begin 134 = .ok (.aload_n 0, 1) := by decide +kernel
theorem dX12_begin_135 : decode cX12_begin 135 = .ok (.iload_n 1, 1) := by decide +kernel
theorem dX12_begin_136 : decode cX12_begin 136 = .ok (.invokevirtual 338, 3) := by decide +kernel
theorem dX12_begin_139 : decode cX12_begin 139 = .ok (.ireturn, 1) := by decide +kernel
theorem dX12_retake_0 : decode cX12_retake 0 = .ok (.aload_n 0, 1) := by decide +kernel
theorem dX12_retake_1 : decode cX12_retake 1 = .ok (.iload_n 1, 1) := by decide +kernel
theorem dX12_retake_2 : decode cX12_retake 2 = .ok (.iload_n 2, 1) := by decide +kernel
theorem dX12_retake_3 : decode cX12_retake 3 = .ok (.invokevirtual 312, 3) := by decide +kernel
theorem dX12_retake_6 : decode cX12_retake 6 = .ok (.ifCond .ne 9, 3) := by decide +kernel
theorem dX12_retake_9 : decode cX12_retake 9 = .ok (.aload_n 0, 1) := by decide +kernel
theorem dX12_retake_10 : decode cX12_retake 10 = .ok (.iconst (-1), 1) := by decide +kernel
theorem dX12_retake_11 : decode cX12_retake 11 = .ok (.invokevirtual 263, 3) := by decide +kernel
theorem dX12_retake_14 : decode cX12_retake 14 = .ok (.ireturn, 1) := by decide +kernel
theorem dX12_retake_15 : decode cX12_retake 15 = .ok (.aload_n 0, 1) := by decide +kernel
theorem dX12_retake_16 : decode cX12_retake 16 = .ok (.getfield 106, 3) := by decide +kernel
theorem dX12_retake_19 : decode cX12_retake 19 = .ok (.iload_n 1, 1) := by decide +kernel
theorem dX12_retake_20 : decode cX12_retake 20 = .ok (.baload, 1) := by decide +kernel
theorem dX12_retake_21 : decode cX12_retake 21 = .ok (.ifCond .ne 10, 3) := by decide +kernel
theorem dX12_retake_24 : decode cX12_retake 24 = .ok (.aload_n 0, 1) := by decide +kernel
theorem dX12_retake_25 : decode cX12_retake 25 = .ok (.bipush (-6), 2) := by decide +kernel
theorem dX12_retake_27 : decode cX12_retake 27 = .ok (.invokevirtual 263, 3) := by decide +kernel
theorem dX12_retake_30 : decode cX12_retake 30 = .ok (.ireturn, 1) := by decide +kernel
theorem dX12_retake_31 : decode cX12_retake 31 = .ok (.aload_n 0, 1) := by decide +kernel
theorem dX12_retake_32 : decode cX12_retake 32 = .ok (.getfield 112, 3) := by decide +kernel
theorem dX12_retake_35 : decode cX12_retake 35 = .ok (.bipush 8, 2) := by decide +kernel
theorem dX12_retake_37 : decode cX12_retake 37 = .ok (.iload_n 1, 1) := by decide +kernel
theorem dX12_retake_38 : decode cX12_retake 38 = .ok (.imul, 1) := by decide +kernel
theorem dX12_retake_39 : decode cX12_retake 39 = .ok (.iload_n 2, 1) := by decide +kernel
theorem dX12_retake_40 : decode cX12_retake 40 = .ok (.iadd, 1) := by decide +kernel
theorem dX12_retake_41 : decode cX12_retake 41 = .ok (.iaload, 1) := by decide +kernel
theorem dX12_retake_42 : decode cX12_retake 42 = .ok (.bipush 9, 2) := by decide +kernel
theorem dX12_retake_44 : decode cX12_retake 44 = .ok (.if_icmp .ne 10, 3) := by decide +kernel
theorem dX12_retake_47 : decode cX12_retake 47 = .ok (.aload_n 0, 1) := by decide +kernel
theorem dX12_retake_48 : decode cX12_retake 48 = .ok (.bipush (-7), 2) := by decide +kernel
theorem dX12_retake_50 : decode cX12_retake 50 = .ok (.invokevirtual 263, 3) := by decide +kernel
theorem dX12_retake_53 : decode cX12_retake 53 = .ok (.ireturn, 1) := by decide +kernel
theorem dX12_retake_54 : decode cX12_retake 54 = .ok (.aload_n 0, 1) := by decide +kernel
theorem dX12_retake_55 : decode cX12_retake 55 = .ok (.getfield 112, 3) := by decide +kernel
theorem dX12_retake_58 : decode cX12_retake 58 = .ok (.bipush 8, 2) := by decide +kernel
theorem dX12_retake_60 : decode cX12_retake 60 = .ok (.iload_n 1, 1) := by decide +kernel
theorem dX12_retake_61 : decode cX12_retake 61 = .ok (.imul, 1) := by decide +kernel
theorem dX12_retake_62 : decode cX12_retake 62 = .ok (.iload_n 2, 1) := by decide +kernel
theorem dX12_retake_63 : decode cX12_retake 63 = .ok (.iadd, 1) := by decide +kernel
theorem dX12_retake_64 : decode cX12_retake 64 = .ok (.dup2, 1) := by decide +kernel
theorem dX12_retake_65 : decode cX12_retake 65 = .ok (.iaload, 1) := by decide +kernel
theorem dX12_retake_66 : decode cX12_retake 66 = .ok (.iconst 1, 1) := by decide +kernel
theorem dX12_retake_67 : decode cX12_retake 67 = .ok (.iadd, 1) := by decide +kernel
theorem dX12_retake_68 : decode cX12_retake 68 = .ok (.dup_x2, 1) := by decide +kernel
theorem dX12_retake_69 : decode cX12_retake 69 = .ok (.iastore, 1) := by decide +kernel
theorem dX12_retake_70 : decode cX12_retake 70 = .ok (.ireturn, 1) := by decide +kernel
theorem dX12_canShoot_0 : decode cX12_canShoot 0 = .ok (.iconst 0, 1) := by decide +kernel
theorem dX12_canShoot_1 : decode cX12_canShoot 1 = .ok (.istore_n 2, 1) := by decide +kernel
theorem dX12_canShoot_2 : decode cX12_canShoot 2 = .ok (.iload_n 2, 1) := by decide +kernel
theorem dX12_canShoot_3 : decode cX12_canShoot 3 = .ok (.aload_n 0, 1) := by decide +kernel
theorem dX12_canShoot_4 : decode cX12_canShoot 4 = .ok (.getfield 247, 3) := by decide +kernel
theorem dX12_canShoot_7 : decode cX12_canShoot 7 = .ok (.if_icmp .ge 49, 3) := by decide +kernel
theorem dX12_canShoot_10 : decode cX12_canShoot 10 = .ok (.aload_n 0, 1) := by decide +kernel
theorem dX12_canShoot_11 : decode cX12_canShoot 11 = .ok (.getfield 97, 3) := by decide +kernel
theorem dX12_canShoot_14 : decode cX12_canShoot 14 = .ok (.iload_n 1, 1) := by decide +kernel
theorem dX12_canShoot_15 : decode cX12_canShoot 15 = .ok (.iaload, 1) := by decide +kernel
theorem dX12_canShoot_16 : decode cX12_canShoot 16 = .ok (.iload_n 2, 1) := by decide +kernel
theorem dX12_canShoot_17 : decode cX12_canShoot 17 = .ok (.ishr, 1) := by decide +kernel
theorem dX12_canShoot_18 : decode cX12_canShoot 18 = .ok (.iconst 1, 1) := by decide +kernel
theorem dX12_canShoot_19 : decode cX12_canShoot 19 = .ok (.iand, 1) := by decide +kernel
theorem dX12_canShoot_20 : decode cX12_canShoot 20 = .ok (.iconst 1, 1) := by decide +kernel
theorem dX12_canShoot_21 : decode cX12_canShoot 21 = .ok (.if_icmp .ne 29, 3) := by decide +kernel
theorem dX12_canShoot_24 : decode cX12_canShoot 24 = .ok (.aload_n 0, 1) := by decide +kernel
theorem dX12_canShoot_25 : decode cX12_canShoot 25 = .ok (.getfield 341, 3) := by decide +kernel
theorem dX12_canShoot_28 : decode cX12_canShoot 28 = .ok (.iload_n 2, 1) := by decide +kernel
theorem dX12_canShoot_29 : decode cX12_canShoot 29 = .ok (.ishr, 1) := by decide +kernel
theorem dX12_canShoot_30 : decode cX12_canShoot 30 = .ok (.iconst 1, 1) := by decide +kernel
theorem dX12_canShoot_31 : decode cX12_canShoot 31 = .ok (.iand, 1) := by decide +kernel
theorem dX12_canShoot_32 : decode cX12_canShoot 32 = .ok (.iconst 1, 1) := by decide +kernel
theorem dX12_canShoot_33 : decode cX12_canShoot 33 = .ok (.if_icmp .eq 15, 3) := by decide +kernel
theorem dX12_canShoot_36 : decode cX12_canShoot 36 = .ok (.aload_n 0, 1) := by decide +kernel
theorem dX12_canShoot_37 : decode cX12_canShoot 37 = .ok (.iload_n 2, 1) := by decide +kernel
theorem dX12_canShoot_38 : decode cX12_canShoot 38 = .ok (.aload_n 0, 1) := by decide +kernel
theorem dX12_canShoot_39 : decode cX12_canShoot 39 = .ok (.getfield 286, 3) := by decide +kernel
theorem dX12_canShoot_42 : decode cX12_canShoot 42 = .ok (.invokevirtual 344, 3) := by decide +kernel
theorem dX12_canShoot_45 : decode cX12_canShoot 45 = .ok (.ifCond .ne 5, 3) := by decide +kernel
theorem dX12_canShoot_48 : decode cX12_canShoot 48 = .ok (.iconst 0, 1) := by decide +kernel
theorem dX12_canShoot_49 : decode cX12_canShoot 49 = .ok (.ireturn, 1) := by decide +kernel
theorem dX12_canShoot_50 : decode cX12_canShoot 50 = .ok (.iinc 2 1, 3) := by decide +kernel
theorem dX12_canShoot_53 : decode cX12_canShoot 53 = .ok (.goto (-51), 3) := by decide +kernel
theorem dX12_canShoot_56 : decode cX12_canShoot 56 = .ok (.iconst 1, 1) := by decide +kernel
theorem dX12_canShoot_57 : decode cX12_canShoot 57 = .ok (.ireturn, 1) := by decide +kernel
theorem dX12_leftOf_0 : decode cX12_leftOf 0 = .ok (.iconst 0, 1) := by decide +kernel
theorem dX12_leftOf_1 : decode cX12_leftOf 1 = .ok (.istore_n 2, 1) := by decide +kernel
theorem dX12_leftOf_2 : decode cX12_leftOf 2 = .ok (.iconst 0, 1) := by decide +kernel
theorem dX12_leftOf_3 : decode cX12_leftOf 3 = .ok (.istore_n 3, 1) := by decide +kernel
theorem dX12_leftOf_4 : decode cX12_leftOf 4 = .ok (.iload_n 3, 1) := by decide +kernel
theorem dX12_leftOf_5 : decode cX12_leftOf 5 = .ok (.aload_n 0, 1) := by decide +kernel
theorem dX12_leftOf_6 : decode cX12_leftOf 6 = .ok (.getfield 91, 3) := by decide +kernel
theorem dX12_leftOf_9 : decode cX12_leftOf 9 = .ok (.iload_n 1, 1) := by decide +kernel
theorem dX12_leftOf_10 : decode cX12_leftOf 10 = .ok (.iaload, 1) := by decide +kernel
theorem dX12_leftOf_11 : decode cX12_leftOf 11 = .ok (.if_icmp .ge 23, 3) := by decide +kernel
theorem dX12_leftOf_14 : decode cX12_leftOf 14 = .ok (.iload_n 2, 1) := by decide +kernel
theorem dX12_leftOf_15 : decode cX12_leftOf 15 = .ok (.aload_n 0, 1) := by decide +kernel
theorem dX12_leftOf_16 : decode cX12_leftOf 16 = .ok (.getfield 112, 3) := by decide +kernel
theorem dX12_leftOf_19 : decode cX12_leftOf 19 = .ok (.bipush 8, 2) := by decide +kernel
theorem dX12_leftOf_21 : decode cX12_leftOf 21 = .ok (.iload_n 1, 1) := by decide +kernel
theorem dX12_leftOf_22 : decode cX12_leftOf 22 = .ok (.imul, 1) := by decide +kernel
theorem dX12_leftOf_23 : decode cX12_leftOf 23 = .ok (.iload_n 3, 1) := by decide +kernel
theorem dX12_leftOf_24 : decode cX12_leftOf 24 = .ok (.iadd, 1) := by decide +kernel
theorem dX12_leftOf_25 : decode cX12_leftOf 25 = .ok (.iaload, 1) := by decide +kernel
theorem dX12_leftOf_26 : decode cX12_leftOf 26 = .ok (.iadd, 1) := by decide +kernel
theorem dX12_leftOf_27 : decode cX12_leftOf 27 = .ok (.istore_n 2, 1) := by decide +kernel
theorem dX12_leftOf_28 : decode cX12_leftOf 28 = .ok (.iinc 3 1, 3) := by decide +kernel
theorem dX12_leftOf_31 : decode cX12_leftOf 31 = .ok (.goto (-27), 3) := by decide +kernel
theorem dX12_leftOf_34 : decode cX12_leftOf 34 = .ok (.iload_n 2, 1) := by decide +kernel
theorem dX12_leftOf_35 : decode cX12_leftOf 35 = .ok (.ireturn, 1) := by decide +kernel
theorem dX12_shoots_0 : decode cX12_shoots 0 = .ok (.iconst 0, 1) := by decide +kernel
theorem dX12_shoots_1 : decode cX12_shoots 1 = .ok (.istore_n 2, 1) := by decide +kernel
theorem dX12_shoots_2 : decode cX12_shoots 2 = .ok (.iload_n 2, 1) := by decide +kernel
theorem dX12_shoots_3 : decode cX12_shoots 3 = .ok (.aload_n 0, 1) := by decide +kernel
theorem dX12_shoots_4 : decode cX12_shoots 4 = .ok (.getfield 91, 3) := by decide +kernel
theorem dX12_shoots_7 : decode cX12_shoots 7 = .ok (.iload_n 1, 1) := by decide +kernel
theorem dX12_shoots_8 : decode cX12_shoots 8 = .ok (.iaload, 1) := by decide +kernel
theorem dX12_shoots_9 : decode cX12_shoots 9 = .ok (.if_icmp .ge 148, 3) := by decide +kernel
theorem dX12_shoots_12 : decode cX12_shoots 12 = .ok (.bipush 8, 2) := by decide +kernel
theorem dX12_shoots_14 : decode cX12_shoots 14 = .ok (.iload_n 1, 1) := by decide +kernel
theorem dX12_shoots_15 : decode cX12_shoots 15 = .ok (.imul, 1) := by decide +kernel
theorem dX12_shoots_16 : decode cX12_shoots 16 = .ok (.aload_n 0, 1) := by decide +kernel
theorem dX12_shoots_17 : decode cX12_shoots 17 = .ok (.getfield 109, 3) := by decide +kernel
theorem dX12_shoots_20 : decode cX12_shoots 20 = .ok (.bipush 8, 2) := by decide +kernel
theorem dX12_shoots_22 : decode cX12_shoots 22 = .ok (.iload_n 1, 1) := by decide +kernel
theorem dX12_shoots_23 : decode cX12_shoots 23 = .ok (.imul, 1) := by decide +kernel
theorem dX12_shoots_24 : decode cX12_shoots 24 = .ok (.iload_n 2, 1) := by decide +kernel
theorem dX12_shoots_25 : decode cX12_shoots 25 = .ok (.iadd, 1) := by decide +kernel
theorem dX12_shoots_26 : decode cX12_shoots 26 = .ok (.iaload, 1) := by decide +kernel
theorem dX12_shoots_27 : decode cX12_shoots 27 = .ok (.iadd, 1) := by decide +kernel
theorem dX12_shoots_28 : decode cX12_shoots 28 = .ok (.istore_n 3, 1) := by decide +kernel
theorem dX12_shoots_29 : decode cX12_shoots 29 = .ok (.aload_n 0, 1) := by decide +kernel
theorem dX12_shoots_30 : decode cX12_shoots 30 = .ok (.getfield 112, 3) := by decide +kernel
theorem dX12_shoots_33 : decode cX12_shoots 33 = .ok (.iload_n 3, 1) := by decide +kernel
theorem dX12_shoots_34 : decode cX12_shoots 34 = .ok (.iaload, 1) := by decide +kernel
theorem dX12_shoots_35 : decode cX12_shoots 35 = .ok (.ifCond .eq 116, 3) := by decide +kernel
theorem dX12_shoots_38 : decode cX12_shoots 38 = .ok (.aload_n 0, 1) := by decide +kernel
theorem dX12_shoots_39 : decode cX12_shoots 39 = .ok (.iload_n 3, 1) := by decide +kernel
theorem dX12_shoots_40 : decode cX12_shoots 40 = .ok (.invokevirtual 347, 3) := by decide +kernel
theorem dX12_shoots_43 : decode cX12_shoots 43 = .ok (.ifCond .ne 6, 3) := by decide +kernel
theorem dX12_shoots_46 : decode cX12_shoots 46 = .ok (.goto 105, 3) := by decide +kernel
theorem dX12_shoots_49 : decode cX12_shoots 49 = .ok (.aload_n 0, 1) := by decide +kernel
theorem dX12_shoots_50 : decode cX12_shoots 50 = .ok (.getfield 94, 3) := by decide +kernel
theorem dX12_shoots_53 : decode cX12_shoots 53 = .ok (.iload_n 3, 1) := by decide +kernel
theorem dX12_shoots_54 : decode cX12_shoots 54 = .ok (.iaload, 1) := by decide +kernel
theorem dX12_shoots_55 : decode cX12_shoots 55 = .ok (.aload_n 0, 1) := by decide +kernel
theorem dX12_shoots_56 : decode cX12_shoots 56 = .ok (.getfield 115, 3) := by decide +kernel
theorem dX12_shoots_59 : decode cX12_shoots 59 = .ok (.iload_n 1, 1) := by decide +kernel
theorem dX12_shoots_60 : decode cX12_shoots 60 = .ok (.iaload, 1) := by decide +kernel
theorem dX12_shoots_61 : decode cX12_shoots 61 = .ok (.if_icmp .eq 41, 3) := by decide +kernel
theorem dX12_shoots_64 : decode cX12_shoots 64 = .ok (.aload_n 0, 1) := by decide +kernel
theorem dX12_shoots_65 : decode cX12_shoots 65 = .ok (.getfield 115, 3) := by decide +kernel
theorem dX12_shoots_68 : decode cX12_shoots 68 = .ok (.iload_n 1, 1) := by decide +kernel
theorem dX12_shoots_69 : decode cX12_shoots 69 = .ok (.aload_n 0, 1) := by decide +kernel
theorem dX12_shoots_70 : decode cX12_shoots 70 = .ok (.getfield 94, 3) := by decide +kernel
theorem dX12_shoots_73 : decode cX12_shoots 73 = .ok (.iload_n 3, 1) := by decide +kernel
theorem dX12_shoots_74 : decode cX12_shoots 74 = .ok (.iaload, 1) := by decide +kernel
theorem dX12_shoots_75 : decode cX12_shoots 75 = .ok (.iastore, 1) := by decide +kernel
theorem dX12_shoots_76 : decode cX12_shoots 76 = .ok (.aload_n 0, 1) := by decide +kernel
theorem dX12_shoots_77 : decode cX12_shoots 77 = .ok (.dup, 1) := by decide +kernel
theorem dX12_shoots_78 : decode cX12_shoots 78 = .ok (.getfield 309, 3) := by decide +kernel
theorem dX12_shoots_81 : decode cX12_shoots 81 = .ok (.aload_n 0, 1) := by decide +kernel
theorem dX12_shoots_82 : decode cX12_shoots 82 = .ok (.getfield 318, 3) := by decide +kernel
theorem dX12_shoots_85 : decode cX12_shoots 85 = .ok (.isub, 1) := by decide +kernel
theorem dX12_shoots_86 : decode cX12_shoots 86 = .ok (.putfield 309, 3) := by decide +kernel
theorem dX12_shoots_89 : decode cX12_shoots 89 = .ok (.aload_n 0, 1) := by decide +kernel
theorem dX12_shoots_90 : decode cX12_shoots 90 = .ok (.getfield 124, 3) := by decide +kernel
theorem dX12_shoots_93 : decode cX12_shoots 93 = .ok (.iload_n 1, 1) := by decide +kernel
theorem dX12_shoots_94 : decode cX12_shoots 94 = .ok (.dup2, 1) := by decide +kernel
theorem dX12_shoots_95 : decode cX12_shoots 95 = .ok (.iaload, 1) := by decide +kernel
theorem dX12_shoots_96 : decode cX12_shoots 96 = .ok (.iconst 1, 1) := by decide +kernel
theorem dX12_shoots_97 : decode cX12_shoots 97 = .ok (.iadd, 1) := by decide +kernel
theorem dX12_shoots_98 : decode cX12_shoots 98 = .ok (.iastore, 1) := by decide +kernel
theorem dX12_shoots_99 : decode cX12_shoots 99 = .ok (.goto 51, 3) := by decide +kernel
theorem dX12_shoots_102 : decode cX12_shoots 102 = .ok (.aload_n 0, 1) := by decide +kernel
theorem dX12_shoots_103 : decode cX12_shoots 103 = .ok (.dup, 1) := by decide +kernel
theorem dX12_shoots_104 : decode cX12_shoots 104 = .ok (.getfield 309, 3) := by decide +kernel
theorem dX12_shoots_107 : decode cX12_shoots 107 = .ok (.aload_n 0, 1) := by decide +kernel
theorem dX12_shoots_108 : decode cX12_shoots 108 = .ok (.getfield 315, 3) := by decide +kernel
theorem dX12_shoots_111 : decode cX12_shoots 111 = .ok (.isub, 1) := by decide +kernel
theorem dX12_shoots_112 : decode cX12_shoots 112 = .ok (.putfield 309, 3) := by decide +kernel
theorem dX12_shoots_115 : decode cX12_shoots 115 = .ok (.aload_n 0, 1) := by decide +kernel
theorem dX12_shoots_116 : decode cX12_shoots 116 = .ok (.getfield 112, 3) := by decide +kernel
theorem dX12_shoots_119 : decode cX12_shoots 119 = .ok (.iload_n 3, 1) := by decide +kernel
theorem dX12_shoots_120 : decode cX12_shoots 120 = .ok (.dup2, 1) := by decide +kernel
theorem dX12_shoots_121 : decode cX12_shoots 121 = .ok (.iaload, 1) := by decide +kernel
theorem dX12_shoots_122 : decode cX12_shoots 122 = .ok (.iconst 1, 1) := by decide +kernel
theorem dX12_shoots_123 : decode cX12_shoots 123 = .ok (.isub, 1) := by decide +kernel
theorem dX12_shoots_124 : decode cX12_shoots 124 = .ok (.iastore, 1) := by decide +kernel
theorem dX12_shoots_125 : decode cX12_shoots 125 = .ok (.aload_n 0, 1) := by decide +kernel
theorem dX12_shoots_126 : decode cX12_shoots 126 = .ok (.getfield 121, 3) := by decide +kernel
theorem dX12_shoots_129 : decode cX12_shoots 129 = .ok (.iload_n 1, 1) := by decide +kernel
theorem dX12_shoots_130 : decode cX12_shoots 130 = .ok (.dup2, 1) := by decide +kernel
theorem dX12_shoots_131 : decode cX12_shoots 131 = .ok (.iaload, 1) := by decide +kernel
theorem dX12_shoots_132 : decode cX12_shoots 132 = .ok (.iconst 1, 1) := by decide +kernel
theorem dX12_shoots_133 : decode cX12_shoots 133 = .ok (.iadd, 1) := by decide +kernel
theorem dX12_shoots_134 : decode cX12_shoots 134 = .ok (.iastore, 1) := by decide +kernel
theorem dX12_shoots_135 : decode cX12_shoots 135 = .ok (.aload_n 0, 1) := by decide +kernel
theorem dX12_shoots_136 : decode cX12_shoots 136 = .ok (.dup, 1) := by decide +kernel
theorem dX12_shoots_137 : decode cX12_shoots 137 = .ok (.getfield 341, 3) := by decide +kernel
theorem dX12_shoots_140 : decode cX12_shoots 140 = .ok (.aload_n 0, 1) := by decide +kernel
theorem dX12_shoots_141 : decode cX12_shoots 141 = .ok (.getfield 97, 3) := by decide +kernel
theorem dX12_shoots_144 : decode cX12_shoots 144 = .ok (.iload_n 3, 1) := by decide +kernel
theorem dX12_shoots_145 : decode cX12_shoots 145 = .ok (.iaload, 1) := by decide +kernel
theorem dX12_shoots_146 : decode cX12_shoots 146 = .ok (.ior, 1) := by decide +kernel
theorem dX12_shoots_147 : decode cX12_shoots 147 = .ok (.putfield 341, 3) := by decide +kernel
theorem dX12_shoots_150 : decode cX12_shoots 150 = .ok (.return_, 1) := by decide +kernel
theorem dX12_shoots_151 : decode cX12_shoots 151 = .ok (.iinc 2 1, 3) := by decide +kernel
theorem dX12_shoots_154 : decode cX12_shoots 154 = .ok (.goto (-152), 3) := by decide +kernel
theorem dX12_shoots_157 : decode cX12_shoots 157 = .ok (.aload_n 0, 1) := by decide +kernel
theorem dX12_shoots_158 : decode cX12_shoots 158 = .ok (.getfield 118, 3) := by decide +kernel
theorem dX12_shoots_161 : decode cX12_shoots 161 = .ok (.iload_n 1, 1) := by decide +kernel
theorem dX12_shoots_162 : decode cX12_shoots 162 = .ok (.dup2, 1) := by decide +kernel
theorem dX12_shoots_163 : decode cX12_shoots 163 = .ok (.iaload, 1) := by decide +kernel
theorem dX12_shoots_164 : decode cX12_shoots 164 = .ok (.iconst 1, 1) := by decide +kernel
theorem dX12_shoots_165 : decode cX12_shoots 165 = .ok (.iadd, 1) := by decide +kernel
theorem dX12_shoots_166 : decode cX12_shoots 166 = .ok (.iastore, 1) := by decide +kernel
theorem dX12_shoots_167 : decode cX12_shoots 167 = .ok (.return_, 1) := by decide +kernel
