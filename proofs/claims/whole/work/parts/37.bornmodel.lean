theorem dX12_init_0 : decode cX12_init 0 = .ok (.aload_n 0, 1) := by decide +kernel
theorem dX12_init_1 : decode cX12_init 1 = .ok (.invokespecial 1, 3) := by decide +kernel
theorem dX12_init_4 : decode cX12_init 4 = .ok (.aload_n 0, 1) := by decide +kernel
theorem dX12_init_5 : decode cX12_init 5 = .ok (.bipush 96, 2) := by decide +kernel
theorem dX12_init_7 : decode cX12_init 7 = .ok (.newarray .boolean, 2) := by decide +kernel
theorem dX12_init_9 : decode cX12_init 9 = .ok (.putfield 7, 3) := by decide +kernel
theorem dX12_init_12 : decode cX12_init 12 = .ok (.aload_n 0, 1) := by decide +kernel
theorem dX12_init_13 : decode cX12_init 13 = .ok (.bipush 96, 2) := by decide +kernel
theorem dX12_init_15 : decode cX12_init 15 = .ok (.newarray .int, 2) := by decide +kernel
theorem dX12_init_17 : decode cX12_init 17 = .ok (.putfield 13, 3) := by decide +kernel
theorem dX12_init_20 : decode cX12_init 20 = .ok (.aload_n 0, 1) := by decide +kernel
theorem dX12_init_21 : decode cX12_init 21 = .ok (.bipush 96, 2) := by decide +kernel
theorem dX12_init_23 : decode cX12_init 23 = .ok (.newarray .int, 2) := by decide +kernel
theorem dX12_init_25 : decode cX12_init 25 = .ok (.putfield 17, 3) := by decide +kernel
theorem dX12_init_28 : decode cX12_init 28 = .ok (.aload_n 0, 1) := by decide +kernel
theorem dX12_init_29 : decode cX12_init 29 = .ok (.bipush 16, 2) := by decide +kernel
theorem dX12_init_31 : decode cX12_init 31 = .ok (.newarray .int, 2) := by decide +kernel
theorem dX12_init_33 : decode cX12_init 33 = .ok (.putfield 20, 3) := by decide +kernel
theorem dX12_init_36 : decode cX12_init 36 = .ok (.aload_n 0, 1) := by decide +kernel
theorem dX12_init_37 : decode cX12_init 37 = .ok (.bipush 16, 2) := by decide +kernel
theorem dX12_init_39 : decode cX12_init 39 = .ok (.newarray .int, 2) := by decide +kernel
theorem dX12_init_41 : decode cX12_init 41 = .ok (.putfield 23, 3) := by decide +kernel
theorem dX12_init_44 : decode cX12_init 44 = .ok (.aload_n 0, 1) := by decide +kernel
theorem dX12_init_45 : decode cX12_init 45 = .ok (.bipush 16, 2) := by decide +kernel
theorem dX12_init_47 : decode cX12_init 47 = .ok (.newarray .int, 2) := by decide +kernel
theorem dX12_init_49 : decode cX12_init 49 = .ok (.putfield 26, 3) := by decide +kernel
theorem dX12_init_52 : decode cX12_init 52 = .ok (.aload_n 0, 1) := by decide +kernel
theorem dX12_init_53 : decode cX12_init 53 = .ok (.iconst 4, 1) := by decide +kernel
theorem dX12_init_54 : decode cX12_init 54 = .ok (.newarray .int, 2) := by decide +kernel
theorem dX12_init_56 : decode cX12_init 56 = .ok (.putfield 29, 3) := by decide +kernel
theorem dX12_init_59 : decode cX12_init 59 = .ok (.aload_n 0, 1) := by decide +kernel
theorem dX12_init_60 : decode cX12_init 60 = .ok (.bipush 10, 2) := by decide +kernel
theorem dX12_init_62 : decode cX12_init 62 = .ok (.newarray .int, 2) := by decide +kernel
theorem dX12_init_64 : decode cX12_init 64 = .ok (.putfield 32, 3) := by decide +kernel
theorem dX12_init_67 : decode cX12_init 67 = .ok (.aload_n 0, 1) := by decide +kernel
theorem dX12_init_68 : decode cX12_init 68 = .ok (.bipush 40, 2) := by decide +kernel
theorem dX12_init_70 : decode cX12_init 70 = .ok (.newarray .int, 2) := by decide +kernel
theorem dX12_init_72 : decode cX12_init 72 = .ok (.putfield 35, 3) := by decide +kernel
theorem dX12_init_75 : decode cX12_init 75 = .ok (.aload_n 0, 1) := by decide +kernel
theorem dX12_init_76 : decode cX12_init 76 = .ok (.sipush 220, 3) := by decide +kernel
theorem dX12_init_79 : decode cX12_init 79 = .ok (.newarray .byte, 2) := by decide +kernel
theorem dX12_init_81 : decode cX12_init 81 = .ok (.putfield 38, 3) := by decide +kernel
theorem dX12_init_84 : decode cX12_init 84 = .ok (.aload_n 0, 1) := by decide +kernel
theorem dX12_init_85 : decode cX12_init 85 = .ok (.bipush 32, 2) := by decide +kernel
theorem dX12_init_87 : decode cX12_init 87 = .ok (.newarray .int, 2) := by decide +kernel
theorem dX12_init_89 : decode cX12_init 89 = .ok (.putfield 42, 3) := by decide +kernel
theorem dX12_init_92 : decode cX12_init 92 = .ok (.aload_n 0, 1) := by decide +kernel
theorem dX12_init_93 : decode cX12_init 93 = .ok (.bipush 32, 2) := by decide +kernel
theorem dX12_init_95 : decode cX12_init 95 = .ok (.newarray .int, 2) := by decide +kernel
theorem dX12_init_97 : decode cX12_init 97 = .ok (.putfield 45, 3) := by decide +kernel
theorem dX12_init_100 : decode cX12_init 100 = .ok (.aload_n 0, 1) := by decide +kernel
theorem dX12_init_101 : decode cX12_init 101 = .ok (.bipush 32, 2) := by decide +kernel
theorem dX12_init_103 : decode cX12_init 103 = .ok (.newarray .int, 2) := by decide +kernel
theorem dX12_init_105 : decode cX12_init 105 = .ok (.putfield 48, 3) := by decide +kernel
theorem dX12_init_108 : decode cX12_init 108 = .ok (.aload_n 0, 1) := by decide +kernel
theorem dX12_init_109 : decode cX12_init 109 = .ok (.bipush 32, 2) := by decide +kernel
theorem dX12_init_111 : decode cX12_init 111 = .ok (.newarray .int, 2) := by decide +kernel
theorem dX12_init_113 : decode cX12_init 113 = .ok (.putfield 51, 3) := by decide +kernel
theorem dX12_init_116 : decode cX12_init 116 = .ok (.aload_n 0, 1) := by decide +kernel
theorem dX12_init_117 : decode cX12_init 117 = .ok (.bipush 32, 2) := by decide +kernel
theorem dX12_init_119 : decode cX12_init 119 = .ok (.newarray .int, 2) := by decide +kernel
theorem dX12_init_121 : decode cX12_init 121 = .ok (.putfield 54, 3) := by decide +kernel
theorem dX12_init_124 : decode cX12_init 124 = .ok (.aload_n 0, 1) := by decide +kernel
theorem dX12_init_125 : decode cX12_init 125 = .ok (.bipush 32, 2) := by decide +kernel
theorem dX12_init_127 : decode cX12_init 127 = .ok (.newarray .int, 2) := by decide +kernel
theorem dX12_init_129 : decode cX12_init 129 = .ok (.putfield 57, 3) := by decide +kernel
theorem dX12_init_132 : decode cX12_init 132 = .ok (.aload_n 0, 1) := by decide +kernel
theorem dX12_init_133 : decode cX12_init 133 = .ok (.bipush 32, 2) := by decide +kernel
theorem dX12_init_135 : decode cX12_init 135 = .ok (.newarray .int, 2) := by decide +kernel
theorem dX12_init_137 : decode cX12_init 137 = .ok (.putfield 60, 3) := by decide +kernel
theorem dX12_init_140 : decode cX12_init 140 = .ok (.aload_n 0, 1) := by decide +kernel
theorem dX12_init_141 : decode cX12_init 141 = .ok (.bipush 32, 2) := by decide +kernel
theorem dX12_init_143 : decode cX12_init 143 = .ok (.newarray .int, 2) := by decide +kernel
theorem dX12_init_145 : decode cX12_init 145 = .ok (.putfield 63, 3) := by decide +kernel
theorem dX12_init_148 : decode cX12_init 148 = .ok (.aload_n 0, 1) := by decide +kernel
theorem dX12_init_149 : decode cX12_init 149 = .ok (.bipush 32, 2) := by decide +kernel
theorem dX12_init_151 : decode cX12_init 151 = .ok (.newarray .int, 2) := by decide +kernel
theorem dX12_init_153 : decode cX12_init 153 = .ok (.putfield 66, 3) := by decide +kernel
theorem dX12_init_156 : decode cX12_init 156 = .ok (.aload_n 0, 1) := by decide +kernel
theorem dX12_init_157 : decode cX12_init 157 = .ok (.bipush 32, 2) := by decide +kernel
theorem dX12_init_159 : decode cX12_init 159 = .ok (.newarray .int, 2) := by decide +kernel
theorem dX12_init_161 : decode cX12_init 161 = .ok (.putfield 69, 3) := by decide +kernel
theorem dX12_init_164 : decode cX12_init 164 = .ok (.aload_n 0, 1) := by decide +kernel
theorem dX12_init_165 : decode cX12_init 165 = .ok (.sipush 220, 3) := by decide +kernel
theorem dX12_init_168 : decode cX12_init 168 = .ok (.newarray .int, 2) := by decide +kernel
theorem dX12_init_170 : decode cX12_init 170 = .ok (.putfield 72, 3) := by decide +kernel
theorem dX12_init_173 : decode cX12_init 173 = .ok (.aload_n 0, 1) := by decide +kernel
theorem dX12_init_174 : decode cX12_init 174 = .ok (.sipush 220, 3) := by decide +kernel
theorem dX12_init_177 : decode cX12_init 177 = .ok (.newarray .int, 2) := by decide +kernel
theorem dX12_init_179 : decode cX12_init 179 = .ok (.putfield 75, 3) := by decide +kernel
theorem dX12_init_182 : decode cX12_init 182 = .ok (.aload_n 0, 1) := by decide +kernel
theorem dX12_init_183 : decode cX12_init 183 = .ok (.bipush 14, 2) := by decide +kernel
theorem dX12_init_185 : decode cX12_init 185 = .ok (.newarray .int, 2) := by decide +kernel
theorem dX12_init_187 : decode cX12_init 187 = .ok (.putfield 78, 3) := by decide +kernel
theorem dX12_init_190 : decode cX12_init 190 = .ok (.aload_n 0, 1) := by decide +kernel
theorem dX12_init_191 : decode cX12_init 191 = .ok (.bipush 14, 2) := by decide +kernel
theorem dX12_init_193 : decode cX12_init 193 = .ok (.newarray .int, 2) := by decide +kernel
theorem dX12_init_195 : decode cX12_init 195 = .ok (.putfield 81, 3) := by decide +kernel
theorem dX12_init_198 : decode cX12_init 198 = .ok (.aload_n 0, 1) := by decide +kernel
theorem dX12_init_199 : decode cX12_init 199 = .ok (.bipush 14, 2) := by decide +kernel
theorem dX12_init_201 : decode cX12_init 201 = .ok (.newarray .int, 2) := by decide +kernel
theorem dX12_init_203 : decode cX12_init 203 = .ok (.putfield 84, 3) := by decide +kernel
theorem dX12_init_206 : decode cX12_init 206 = .ok (.aload_n 0, 1) := by decide +kernel
theorem dX12_init_207 : decode cX12_init 207 = .ok (.bipush 14, 2) := by decide +kernel
theorem dX12_init_209 : decode cX12_init 209 = .ok (.newarray .int, 2) := by decide +kernel
theorem dX12_init_211 : decode cX12_init 211 = .ok (.putfield 87, 3) := by decide +kernel
theorem dX12_init_214 : decode cX12_init 214 = .ok (.aload_n 0, 1) := by decide +kernel
theorem dX12_init_215 : decode cX12_init 215 = .ok (.sipush 220, 3) := by decide +kernel
theorem dX12_init_218 : decode cX12_init 218 = .ok (.newarray .int, 2) := by decide +kernel
theorem dX12_init_220 : decode cX12_init 220 = .ok (.putfield 90, 3) := by decide +kernel
theorem dX12_init_223 : decode cX12_init 223 = .ok (.aload_n 0, 1) := by decide +kernel
theorem dX12_init_224 : decode cX12_init 224 = .ok (.bipush 14, 2) := by decide +kernel
theorem dX12_init_226 : decode cX12_init 226 = .ok (.newarray .int, 2) := by decide +kernel
theorem dX12_init_228 : decode cX12_init 228 = .ok (.putfield 93, 3) := by decide +kernel
theorem dX12_init_231 : decode cX12_init 231 = .ok (.aload_n 0, 1) := by decide +kernel
theorem dX12_init_232 : decode cX12_init 232 = .ok (.bipush 14, 2) := by decide +kernel
theorem dX12_init_234 : decode cX12_init 234 = .ok (.newarray .int, 2) := by decide +kernel
theorem dX12_init_236 : decode cX12_init 236 = .ok (.putfield 96, 3) := by decide +kernel
theorem dX12_init_239 : decode cX12_init 239 = .ok (.aload_n 0, 1) := by decide +kernel
theorem dX12_init_240 : decode cX12_init 240 = .ok (.bipush 14, 2) := by decide +kernel
theorem dX12_init_242 : decode cX12_init 242 = .ok (.newarray .int, 2) := by decide +kernel
theorem dX12_init_244 : decode cX12_init 244 = .ok (.putfield 99, 3) := by decide +kernel
theorem dX12_init_247 : decode cX12_init 247 = .ok (.aload_n 0, 1) := by decide +kernel
theorem dX12_init_248 : decode cX12_init 248 = .ok (.bipush 14, 2) := by decide +kernel
theorem dX12_init_250 : decode cX12_init 250 = .ok (.newarray .int, 2) := by decide +kernel
theorem dX12_init_252 : decode cX12_init 252 = .ok (.putfield 102, 3) := by decide +kernel
theorem dX12_init_255 : decode cX12_init 255 = .ok (.aload_n 0, 1) := by decide +kernel
theorem dX12_init_256 : decode cX12_init 256 = .ok (.sipush 220, 3) := by decide +kernel
theorem dX12_init_259 : decode cX12_init 259 = .ok (.newarray .int, 2) := by decide +kernel
theorem dX12_init_261 : decode cX12_init 261 = .ok (.putfield 105, 3) := by decide +kernel
theorem dX12_init_264 : decode cX12_init 264 = .ok (.aload_n 0, 1) := by decide +kernel
theorem dX12_init_265 : decode cX12_init 265 = .ok (.bipush 12, 2) := by decide +kernel
theorem dX12_init_267 : decode cX12_init 267 = .ok (.newarray .int, 2) := by decide +kernel
theorem dX12_init_269 : decode cX12_init 269 = .ok (.putfield 108, 3) := by decide +kernel
theorem dX12_init_272 : decode cX12_init 272 = .ok (.aload_n 0, 1) := by decide +kernel
theorem dX12_init_273 : decode cX12_init 273 = .ok (.sipush 512, 3) := by decide +kernel
theorem dX12_init_276 : decode cX12_init 276 = .ok (.newarray .int, 2) := by decide +kernel
theorem dX12_init_278 : decode cX12_init 278 = .ok (.putfield 111, 3) := by decide +kernel
theorem dX12_init_281 : decode cX12_init 281 = .ok (.aload_n 0, 1) := by decide +kernel
theorem dX12_init_282 : decode cX12_init 282 = .ok (.sipush 512, 3) := by decide +kernel
theorem dX12_init_285 : decode cX12_init 285 = .ok (.newarray .boolean, 2) := by decide +kernel
theorem dX12_init_287 : decode cX12_init 287 = .ok (.putfield 114, 3) := by decide +kernel
theorem dX12_init_290 : decode cX12_init 290 = .ok (.aload_n 0, 1) := by decide +kernel
theorem dX12_init_291 : decode cX12_init 291 = .ok (.bipush 96, 2) := by decide +kernel
theorem dX12_init_293 : decode cX12_init 293 = .ok (.newarray .int, 2) := by decide +kernel
theorem dX12_init_295 : decode cX12_init 295 = .ok (.putfield 117, 3) := by decide +kernel
theorem dX12_init_298 : decode cX12_init 298 = .ok (.aload_n 0, 1) := by decide +kernel
theorem dX12_init_299 : decode cX12_init 299 = .ok (.sipush 384, 3) := by decide +kernel
theorem dX12_init_302 : decode cX12_init 302 = .ok (.newarray .int, 2) := by decide +kernel
theorem dX12_init_304 : decode cX12_init 304 = .ok (.putfield 120, 3) := by decide +kernel
theorem dX12_init_307 : decode cX12_init 307 = .ok (.aload_n 0, 1) := by decide +kernel
theorem dX12_init_308 : decode cX12_init 308 = .ok (.bipush 32, 2) := by decide +kernel
theorem dX12_init_310 : decode cX12_init 310 = .ok (.newarray .int, 2) := by decide +kernel
theorem dX12_init_312 : decode cX12_init 312 = .ok (.putfield 123, 3) := by decide +kernel
theorem dX12_init_315 : decode cX12_init 315 = .ok (.aload_n 0, 1) := by decide +kernel
theorem dX12_init_316 : decode cX12_init 316 = .ok (.bipush 16, 2) := by decide +kernel
theorem dX12_init_318 : decode cX12_init 318 = .ok (.newarray .int, 2) := by decide +kernel
theorem dX12_init_320 : decode cX12_init 320 = .ok (.putfield 126, 3) := by decide +kernel
theorem dX12_init_323 : decode cX12_init 323 = .ok (.aload_n 0, 1) := by decide +kernel
theorem dX12_init_324 : decode cX12_init 324 = .ok (.bipush 8, 2) := by decide +kernel
theorem dX12_init_326 : decode cX12_init 326 = .ok (.newarray .int, 2) := by decide +kernel
theorem dX12_init_328 : decode cX12_init 328 = .ok (.putfield 129, 3) := by decide +kernel
theorem dX12_init_331 : decode cX12_init 331 = .ok (.aload_n 0, 1) := by decide +kernel
theorem dX12_init_332 : decode cX12_init 332 = .ok (.bipush 8, 2) := by decide +kernel
theorem dX12_init_334 : decode cX12_init 334 = .ok (.newarray .int, 2) := by decide +kernel
theorem dX12_init_336 : decode cX12_init 336 = .ok (.putfield 132, 3) := by decide +kernel
theorem dX12_init_339 : decode cX12_init 339 = .ok (.aload_n 0, 1) := by decide +kernel
theorem dX12_init_340 : decode cX12_init 340 = .ok (.bipush 8, 2) := by decide +kernel
theorem dX12_init_342 : decode cX12_init 342 = .ok (.newarray .int, 2) := by decide +kernel
theorem dX12_init_344 : decode cX12_init 344 = .ok (.putfield 135, 3) := by decide +kernel
theorem dX12_init_347 : decode cX12_init 347 = .ok (.aload_n 0, 1) := by decide +kernel
theorem dX12_init_348 : decode cX12_init 348 = .ok (.sipush 2304, 3) := by decide +kernel
theorem dX12_init_351 : decode cX12_init 351 = .ok (.newarray .int, 2) := by decide +kernel
theorem dX12_init_353 : decode cX12_init 353 = .ok (.putfield 138, 3) := by decide +kernel
theorem dX12_init_356 : decode cX12_init 356 = .ok (.aload_n 0, 1) := by decide +kernel
theorem dX12_init_357 : decode cX12_init 357 = .ok (.bipush 32, 2) := by decide +kernel
theorem dX12_init_359 : decode cX12_init 359 = .ok (.newarray .int, 2) := by decide +kernel
theorem dX12_init_361 : decode cX12_init 361 = .ok (.putfield 141, 3) := by decide +kernel
theorem dX12_init_364 : decode cX12_init 364 = .ok (.aload_n 0, 1) := by decide +kernel
theorem dX12_init_365 : decode cX12_init 365 = .ok (.sipush 640, 3) := by decide +kernel
theorem dX12_init_368 : decode cX12_init 368 = .ok (.newarray .int, 2) := by decide +kernel
theorem dX12_init_370 : decode cX12_init 370 = .ok (.putfield 144, 3) := by decide +kernel
theorem dX12_init_373 : decode cX12_init 373 = .ok (.aload_n 0, 1) := by decide +kernel
theorem dX12_init_374 : decode cX12_init 374 = .ok (.bipush 40, 2) := by decide +kernel
theorem dX12_init_376 : decode cX12_init 376 = .ok (.newarray .int, 2) := by decide +kernel
theorem dX12_init_378 : decode cX12_init 378 = .ok (.putfield 147, 3) := by decide +kernel
theorem dX12_init_381 : decode cX12_init 381 = .ok (.aload_n 0, 1) := by decide +kernel
theorem dX12_init_382 : decode cX12_init 382 = .ok (.sipush 240, 3) := by decide +kernel
theorem dX12_init_385 : decode cX12_init 385 = .ok (.newarray .int, 2) := by decide +kernel
theorem dX12_init_387 : decode cX12_init 387 = .ok (.putfield 150, 3) := by decide +kernel
theorem dX12_init_390 : decode cX12_init 390 = .ok (.aload_n 0, 1) := by decide +kernel
theorem dX12_init_391 : decode cX12_init 391 = .ok (.bipush 20, 2) := by decide +kernel
theorem dX12_init_393 : decode cX12_init 393 = .ok (.newarray .int, 2) := by decide +kernel
theorem dX12_init_395 : decode cX12_init 395 = .ok (.putfield 153, 3) := by decide +kernel
theorem dX12_init_398 : decode cX12_init 398 = .ok (.aload_n 0, 1) := by decide +kernel
theorem dX12_init_399 : decode cX12_init 399 = .ok (.bipush 20, 2) := by decide +kernel
theorem dX12_init_401 : decode cX12_init 401 = .ok (.newarray .int, 2) := by decide +kernel
theorem dX12_init_403 : decode cX12_init 403 = .ok (.putfield 156, 3) := by decide +kernel
theorem dX12_init_406 : decode cX12_init 406 = .ok (.aload_n 0, 1) := by decide +kernel
theorem dX12_init_407 : decode cX12_init 407 = .ok (.bipush 10, 2) := by decide +kernel
theorem dX12_init_409 : decode cX12_init 409 = .ok (.newarray .int, 2) := by decide +kernel
theorem dX12_init_411 : decode cX12_init 411 = .ok (.putfield 159, 3) := by decide +kernel
theorem dX12_init_414 : decode cX12_init 414 = .ok (.aload_n 0, 1) := by decide +kernel
theorem dX12_init_415 : decode cX12_init 415 = .ok (.bipush 16, 2) := by decide +kernel
theorem dX12_init_417 : decode cX12_init 417 = .ok (.newarray .int, 2) := by decide +kernel
theorem dX12_init_419 : decode cX12_init 419 = .ok (.putfield 162, 3) := by decide +kernel
theorem dX12_init_422 : decode cX12_init 422 = .ok (.aload_n 0, 1) := by decide +kernel
theorem dX12_init_423 : decode cX12_init 423 = .ok (.bipush 32, 2) := by decide +kernel
theorem dX12_init_425 : decode cX12_init 425 = .ok (.newarray .int, 2) := by decide +kernel
theorem dX12_init_427 : decode cX12_init 427 = .ok (.putfield 165, 3) := by decide +kernel
theorem dX12_init_430 : decode cX12_init 430 = .ok (.aload_n 0, 1) := by decide +kernel
theorem dX12_init_431 : decode cX12_init 431 = .ok (.bipush 96, 2) := by decide +kernel
theorem dX12_init_433 : decode cX12_init 433 = .ok (.newarray .int, 2) := by decide +kernel
theorem dX12_init_435 : decode cX12_init 435 = .ok (.putfield 168, 3) := by decide +kernel
theorem dX12_init_438 : decode cX12_init 438 = .ok (.aload_n 0, 1) := by decide +kernel
theorem dX12_init_439 : decode cX12_init 439 = .ok (.bipush 96, 2) := by decide +kernel
theorem dX12_init_441 : decode cX12_init 441 = .ok (.newarray .boolean, 2) := by decide +kernel
theorem dX12_init_443 : decode cX12_init 443 = .ok (.putfield 171, 3) := by decide +kernel
theorem dX12_init_446 : decode cX12_init 446 = .ok (.aload_n 0, 1) := by decide +kernel
theorem dX12_init_447 : decode cX12_init 447 = .ok (.bipush 96, 2) := by decide +kernel
theorem dX12_init_449 : decode cX12_init 449 = .ok (.newarray .int, 2) := by decide +kernel
theorem dX12_init_451 : decode cX12_init 451 = .ok (.putfield 174, 3) := by decide +kernel
theorem dX12_init_454 : decode cX12_init 454 = .ok (.aload_n 0, 1) := by decide +kernel
theorem dX12_init_455 : decode cX12_init 455 = .ok (.bipush 96, 2) := by decide +kernel
theorem dX12_init_457 : decode cX12_init 457 = .ok (.newarray .int, 2) := by decide +kernel
theorem dX12_init_459 : decode cX12_init 459 = .ok (.putfield 177, 3) := by decide +kernel
theorem dX12_init_462 : decode cX12_init 462 = .ok (.aload_n 0, 1) := by decide +kernel
theorem dX12_init_463 : decode cX12_init 463 = .ok (.bipush 16, 2) := by decide +kernel
theorem dX12_init_465 : decode cX12_init 465 = .ok (.newarray .int, 2) := by decide +kernel
theorem dX12_init_467 : decode cX12_init 467 = .ok (.putfield 180, 3) := by decide +kernel
theorem dX12_init_470 : decode cX12_init 470 = .ok (.aload_n 0, 1) := by decide +kernel
theorem dX12_init_471 : decode cX12_init 471 = .ok (.bipush 16, 2) := by decide +kernel
theorem dX12_init_473 : decode cX12_init 473 = .ok (.newarray .int, 2) := by decide +kernel
theorem dX12_init_475 : decode cX12_init 475 = .ok (.putfield 183, 3) := by decide +kernel
theorem dX12_init_478 : decode cX12_init 478 = .ok (.aload_n 0, 1) := by decide +kernel
theorem dX12_init_479 : decode cX12_init 479 = .ok (.bipush 16, 2) := by decide +kernel
theorem dX12_init_481 : decode cX12_init 481 = .ok (.newarray .int, 2) := by decide +kernel
theorem dX12_init_483 : decode cX12_init 483 = .ok (.putfield 186, 3) := by decide +kernel
theorem dX12_init_486 : decode cX12_init 486 = .ok (.aload_n 0, 1) := by decide +kernel
theorem dX12_init_487 : decode cX12_init 487 = .ok (.iconst 4, 1) := by decide +kernel
theorem dX12_init_488 : decode cX12_init 488 = .ok (.newarray .int, 2) := by decide +kernel
theorem dX12_init_490 : decode cX12_init 490 = .ok (.putfield 189, 3) := by decide +kernel
theorem dX12_init_493 : decode cX12_init 493 = .ok (.aload_n 0, 1) := by decide +kernel
theorem dX12_init_494 : decode cX12_init 494 = .ok (.bipush 10, 2) := by decide +kernel
theorem dX12_init_496 : decode cX12_init 496 = .ok (.newarray .int, 2) := by decide +kernel
theorem dX12_init_498 : decode cX12_init 498 = .ok (.putfield 192, 3) := by decide +kernel
theorem dX12_init_501 : decode cX12_init 501 = .ok (.aload_n 0, 1) := by decide +kernel
theorem dX12_init_502 : decode cX12_init 502 = .ok (.bipush 40, 2) := by decide +kernel
theorem dX12_init_504 : decode cX12_init 504 = .ok (.newarray .int, 2) := by decide +kernel
theorem dX12_init_506 : decode cX12_init 506 = .ok (.putfield 195, 3) := by decide +kernel
theorem dX12_init_509 : decode cX12_init 509 = .ok (.aload_n 0, 1) := by decide +kernel
theorem dX12_init_510 : decode cX12_init 510 = .ok (.bipush 10, 2) := by decide +kernel
theorem dX12_init_512 : decode cX12_init 512 = .ok (.newarray .int, 2) := by decide +kernel
theorem dX12_init_514 : decode cX12_init 514 = .ok (.putfield 198, 3) := by decide +kernel
theorem dX12_init_517 : decode cX12_init 517 = .ok (.aload_n 0, 1) := by decide +kernel
theorem dX12_init_518 : decode cX12_init 518 = .ok (.bipush 16, 2) := by decide +kernel
theorem dX12_init_520 : decode cX12_init 520 = .ok (.newarray .int, 2) := by decide +kernel
theorem dX12_init_522 : decode cX12_init 522 = .ok (.putfield 201, 3) := by decide +kernel
theorem dX12_init_525 : decode cX12_init 525 = .ok (.aload_n 0, 1) := by decide +kernel
theorem dX12_init_526 : decode cX12_init 526 = .ok (.bipush 32, 2) := by decide +kernel
theorem dX12_init_528 : decode cX12_init 528 = .ok (.newarray .int, 2) := by decide +kernel
theorem dX12_init_530 : decode cX12_init 530 = .ok (.putfield 204, 3) := by decide +kernel
theorem dX12_init_533 : decode cX12_init 533 = .ok (.aload_n 0, 1) := by decide +kernel
theorem dX12_init_534 : decode cX12_init 534 = .ok (.iconst 1, 1) := by decide +kernel
theorem dX12_init_535 : decode cX12_init 535 = .ok (.putfield 207, 3) := by decide +kernel
theorem dX12_init_538 : decode cX12_init 538 = .ok (.iconst 0, 1) := by decide +kernel
theorem dX12_init_539 : decode cX12_init 539 = .ok (.istore_n 1, 1) := by decide +kernel
theorem dX12_init_540 : decode cX12_init 540 = .ok (.iload_n 1, 1) := by decide +kernel
theorem dX12_init_541 : decode cX12_init 541 = .ok (.bipush 16, 2) := by decide +kernel
theorem dX12_init_543 : decode cX12_init 543 = .ok (.if_icmp .ge 16, 3) := by decide +kernel
theorem dX12_init_546 : decode cX12_init 546 = .ok (.aload_n 0, 1) := by decide +kernel
theorem dX12_init_547 : decode cX12_init 547 = .ok (.getfield 20, 3) := by decide +kernel
theorem dX12_init_550 : decode cX12_init 550 = .ok (.iload_n 1, 1) := by decide +kernel
theorem dX12_init_551 : decode cX12_init 551 = .ok (.iconst (-1), 1) := by decide +kernel
theorem dX12_init_552 : decode cX12_init 552 = .ok (.iastore, 1) := by decide +kernel
theorem dX12_init_553 : decode cX12_init 553 = .ok (.iinc 1 1, 3) := by decide +kernel
theorem dX12_init_556 : decode cX12_init 556 = .ok (.goto (-16), 3) := by decide +kernel
theorem dX12_init_559 : decode cX12_init 559 = .ok (.return_, 1) := by decide +kernel
def cm_X12_init_207 (μ : ro_Mem) : ro_Mem := ro_set (ro_set (ro_set (ro_set (ro_set (ro_set (ro_set (ro_set (ro_set (ro_set (ro_set (ro_set (ro_set (ro_set (ro_set (ro_set (ro_set (ro_set (ro_arr (ro_set (ro_arr (ro_set (ro_arr (ro_set (ro_arr (ro_set (ro_arr (ro_set (ro_arr (ro_set (ro_arr (ro_set (ro_arr (ro_set (ro_arr (ro_set (ro_arr (ro_set (ro_arr (ro_set (ro_arr (ro_set (ro_arr (ro_set (ro_arr (ro_set (ro_arr (ro_set (ro_arr (ro_set (ro_arr (ro_set (ro_arr (ro_set (ro_arr (ro_set (ro_arr (ro_set (ro_arr (ro_set (ro_arr (ro_set (ro_arr (ro_set (ro_arr (ro_set (ro_arr (ro_set (ro_arr (ro_set (ro_arr (ro_set (ro_arr (ro_set (ro_arr (ro_set (ro_arr (ro_set (ro_arr (ro_set (ro_arr (ro_set (ro_arr (ro_set (ro_arr (ro_set (ro_arr (ro_set (ro_arr (ro_set (ro_arr (ro_set (ro_arr (ro_set (ro_arr (ro_set (ro_arr (ro_set (ro_arr (ro_set (ro_arr (ro_set (ro_arr (ro_set (ro_arr (ro_set (ro_arr (ro_set (ro_arr (ro_set (ro_arr (ro_set (ro_arr (ro_set (ro_arr (ro_set (ro_arr (ro_set (ro_arr (ro_set (ro_arr (ro_set (ro_arr (ro_set (ro_arr (ro_set (ro_arr (ro_set (ro_arr (ro_set (ro_arr (ro_set (ro_arr (ro_set (ro_arr (ro_set (ro_arr (ro_set (ro_arr (ro_set (ro_arr (ro_set (ro_arr (ro_set (ro_arr (ro_set (ro_arr (μ) 208 (fun _ => 0)) 207 3 (nI (208 + 1))) 209 (fun _ => 0)) 207 4 (nI (209 + 1))) 210 (fun _ => 0)) 207 5 (nI (210 + 1))) 211 (fun _ => 0)) 207 6 (nI (211 + 1))) 212 (fun _ => 0)) 207 7 (nI (212 + 1))) 213 (fun _ => 0)) 207 8 (nI (213 + 1))) 214 (fun _ => 0)) 207 9 (nI (214 + 1))) 215 (fun _ => 0)) 207 10 (nI (215 + 1))) 216 (fun _ => 0)) 207 11 (nI (216 + 1))) 217 (fun _ => 0)) 207 12 (nI (217 + 1))) 218 (fun _ => 0)) 207 24 (nI (218 + 1))) 219 (fun _ => 0)) 207 25 (nI (219 + 1))) 220 (fun _ => 0)) 207 26 (nI (220 + 1))) 221 (fun _ => 0)) 207 27 (nI (221 + 1))) 222 (fun _ => 0)) 207 28 (nI (222 + 1))) 223 (fun _ => 0)) 207 29 (nI (223 + 1))) 224 (fun _ => 0)) 207 30 (nI (224 + 1))) 225 (fun _ => 0)) 207 31 (nI (225 + 1))) 226 (fun _ => 0)) 207 32 (nI (226 + 1))) 227 (fun _ => 0)) 207 33 (nI (227 + 1))) 228 (fun _ => 0)) 207 39 (nI (228 + 1))) 229 (fun _ => 0)) 207 40 (nI (229 + 1))) 230 (fun _ => 0)) 207 41 (nI (230 + 1))) 231 (fun _ => 0)) 207 42 (nI (231 + 1))) 232 (fun _ => 0)) 207 43 (nI (232 + 1))) 233 (fun _ => 0)) 207 44 (nI (233 + 1))) 234 (fun _ => 0)) 207 45 (nI (234 + 1))) 235 (fun _ => 0)) 207 46 (nI (235 + 1))) 236 (fun _ => 0)) 207 47 (nI (236 + 1))) 237 (fun _ => 0)) 207 48 (nI (237 + 1))) 238 (fun _ => 0)) 207 49 (nI (238 + 1))) 239 (fun _ => 0)) 207 50 (nI (239 + 1))) 240 (fun _ => 0)) 207 51 (nI (240 + 1))) 241 (fun _ => 0)) 207 53 (nI (241 + 1))) 242 (fun _ => 0)) 207 54 (nI (242 + 1))) 243 (fun _ => 0)) 207 55 (nI (243 + 1))) 244 (fun _ => 0)) 207 56 (nI (244 + 1))) 245 (fun _ => 0)) 207 57 (nI (245 + 1))) 246 (fun _ => 0)) 207 58 (nI (246 + 1))) 247 (fun _ => 0)) 207 59 (nI (247 + 1))) 248 (fun _ => 0)) 207 60 (nI (248 + 1))) 249 (fun _ => 0)) 207 61 (nI (249 + 1))) 250 (fun _ => 0)) 207 62 (nI (250 + 1))) 251 (fun _ => 0)) 207 64 (nI (251 + 1))) 252 (fun _ => 0)) 207 65 (nI (252 + 1))) 253 (fun _ => 0)) 207 66 (nI (253 + 1))) 254 (fun _ => 0)) 207 67 (nI (254 + 1))) 255 (fun _ => 0)) 207 68 (nI (255 + 1))) 256 (fun _ => 0)) 207 69 (nI (256 + 1))) 257 (fun _ => 0)) 207 72 (nI (257 + 1))) 258 (fun _ => 0)) 207 73 (nI (258 + 1))) 259 (fun _ => 0)) 207 74 (nI (259 + 1))) 260 (fun _ => 0)) 207 75 (nI (260 + 1))) 261 (fun _ => 0)) 207 82 (nI (261 + 1))) 262 (fun _ => 0)) 207 83 (nI (262 + 1))) 263 (fun _ => 0)) 207 84 (nI (263 + 1))) 264 (fun _ => 0)) 207 85 (nI (264 + 1))) 265 (fun _ => 0)) 207 86 (nI (265 + 1))) 266 (fun _ => 0)) 207 87 (nI (266 + 1))) 267 (fun _ => 0)) 207 88 (nI (267 + 1))) 268 (fun _ => 0)) 207 89 (nI (268 + 1))) 269 (fun _ => 0)) 207 90 (nI (269 + 1))) 270 (fun _ => 0)) 207 91 (nI (270 + 1))) 271 (fun _ => 0)) 207 92 (nI (271 + 1))) 272 (fun _ => 0)) 207 93 (nI (272 + 1))) 207 0 1) 211 (0 : Int32).toNatClampNeg (-1)) 211 (1 : Int32).toNatClampNeg (-1)) 211 (2 : Int32).toNatClampNeg (-1)) 211 (3 : Int32).toNatClampNeg (-1)) 211 (4 : Int32).toNatClampNeg (-1)) 211 (5 : Int32).toNatClampNeg (-1)) 211 (6 : Int32).toNatClampNeg (-1)) 211 (7 : Int32).toNatClampNeg (-1)) 211 (8 : Int32).toNatClampNeg (-1)) 211 (9 : Int32).toNatClampNeg (-1)) 211 (10 : Int32).toNatClampNeg (-1)) 211 (11 : Int32).toNatClampNeg (-1)) 211 (12 : Int32).toNatClampNeg (-1)) 211 (13 : Int32).toNatClampNeg (-1)) 211 (14 : Int32).toNatClampNeg (-1)) 211 (15 : Int32).toNatClampNeg (-1)
set_option maxRecDepth 100000 in
theorem cy_X12_init_207 (l : Launch) (G : ro_G) (μ : ro_Mem) : ry_MY l G yX12_init cX12_init 2 0 65 7408 [.ref (ro_ad G 207)] 208 μ 273 (cm_X12_init_207 μ) := by
  refine ry_MY.of (by decide +kernel) (Nat.le_of_ble_eq_true rfl) (fun K hG hl hK hR hin => ?_)
  subst hG
  subst hl
  unfold cm_X12_init_207 at hR
  refine ry_aload_n hK 0 rfl dX12_init_0 rfl ?_
  refine ry_obj hK ob_X12_1 ko_in ko_cd (Nat.le_of_ble_eq_true rfl) dX12_init_1 ?_
  refine ry_aload_n hK 0 rfl dX12_init_4 rfl ?_
  refine ry_bipush (v := 96) hK dX12_init_5 (by decide) ?_
  refine ry_newa (at0 := .boolean) hK sh_208 ka_boolean (Or.inr (Or.inl ⟨rfl, rfl⟩)) (by decide) (by decide) (by decide) (by decide) (by decide) dX12_init_7 ?_
  refine ry_put (x := nI (208 + 1)) hK hin fl_X12_7 (fun q h => by cases h; rfl) sh_207 (by decide) (ry_fvr ⟨_, rfl⟩ (by decide)) rfl rfl dX12_init_9 ?_
  refine ry_aload_n hK 0 rfl dX12_init_12 rfl ?_
  refine ry_bipush (v := 96) hK dX12_init_13 (by decide) ?_
  refine ry_newa (at0 := .int) hK sh_209 ka_int (Or.inl ⟨rfl, rfl⟩) (by decide) (by decide) (by decide) (by decide) (by decide) dX12_init_15 ?_
  refine ry_put (x := nI (209 + 1)) hK hin fl_X12_13 (fun q h => by cases h; rfl) sh_207 (by decide) (ry_fvr ⟨_, rfl⟩ (by decide)) rfl rfl dX12_init_17 ?_
  refine ry_aload_n hK 0 rfl dX12_init_20 rfl ?_
  refine ry_bipush (v := 96) hK dX12_init_21 (by decide) ?_
  refine ry_newa (at0 := .int) hK sh_210 ka_int (Or.inl ⟨rfl, rfl⟩) (by decide) (by decide) (by decide) (by decide) (by decide) dX12_init_23 ?_
  refine ry_put (x := nI (210 + 1)) hK hin fl_X12_17 (fun q h => by cases h; rfl) sh_207 (by decide) (ry_fvr ⟨_, rfl⟩ (by decide)) rfl rfl dX12_init_25 ?_
  refine ry_aload_n hK 0 rfl dX12_init_28 rfl ?_
  refine ry_bipush (v := 16) hK dX12_init_29 (by decide) ?_
  refine ry_newa (at0 := .int) hK sh_211 ka_int (Or.inl ⟨rfl, rfl⟩) (by decide) (by decide) (by decide) (by decide) (by decide) dX12_init_31 ?_
  refine ry_put (x := nI (211 + 1)) hK hin fl_X12_20 (fun q h => by cases h; rfl) sh_207 (by decide) (ry_fvr ⟨_, rfl⟩ (by decide)) rfl rfl dX12_init_33 ?_
  refine ry_aload_n hK 0 rfl dX12_init_36 rfl ?_
  refine ry_bipush (v := 16) hK dX12_init_37 (by decide) ?_
  refine ry_newa (at0 := .int) hK sh_212 ka_int (Or.inl ⟨rfl, rfl⟩) (by decide) (by decide) (by decide) (by decide) (by decide) dX12_init_39 ?_
  refine ry_put (x := nI (212 + 1)) hK hin fl_X12_23 (fun q h => by cases h; rfl) sh_207 (by decide) (ry_fvr ⟨_, rfl⟩ (by decide)) rfl rfl dX12_init_41 ?_
  refine ry_aload_n hK 0 rfl dX12_init_44 rfl ?_
  refine ry_bipush (v := 16) hK dX12_init_45 (by decide) ?_
  refine ry_newa (at0 := .int) hK sh_213 ka_int (Or.inl ⟨rfl, rfl⟩) (by decide) (by decide) (by decide) (by decide) (by decide) dX12_init_47 ?_
  refine ry_put (x := nI (213 + 1)) hK hin fl_X12_26 (fun q h => by cases h; rfl) sh_207 (by decide) (ry_fvr ⟨_, rfl⟩ (by decide)) rfl rfl dX12_init_49 ?_
  refine ry_aload_n hK 0 rfl dX12_init_52 rfl ?_
  refine ry_iconst (v := 4) hK dX12_init_53 (by decide) ?_
  refine ry_newa (at0 := .int) hK sh_214 ka_int (Or.inl ⟨rfl, rfl⟩) (by decide) (by decide) (by decide) (by decide) (by decide) dX12_init_54 ?_
  refine ry_put (x := nI (214 + 1)) hK hin fl_X12_29 (fun q h => by cases h; rfl) sh_207 (by decide) (ry_fvr ⟨_, rfl⟩ (by decide)) rfl rfl dX12_init_56 ?_
  refine ry_aload_n hK 0 rfl dX12_init_59 rfl ?_
  refine ry_bipush (v := 10) hK dX12_init_60 (by decide) ?_
  refine ry_newa (at0 := .int) hK sh_215 ka_int (Or.inl ⟨rfl, rfl⟩) (by decide) (by decide) (by decide) (by decide) (by decide) dX12_init_62 ?_
  refine ry_put (x := nI (215 + 1)) hK hin fl_X12_32 (fun q h => by cases h; rfl) sh_207 (by decide) (ry_fvr ⟨_, rfl⟩ (by decide)) rfl rfl dX12_init_64 ?_
  refine ry_aload_n hK 0 rfl dX12_init_67 rfl ?_
  refine ry_bipush (v := 40) hK dX12_init_68 (by decide) ?_
  refine ry_newa (at0 := .int) hK sh_216 ka_int (Or.inl ⟨rfl, rfl⟩) (by decide) (by decide) (by decide) (by decide) (by decide) dX12_init_70 ?_
  refine ry_put (x := nI (216 + 1)) hK hin fl_X12_35 (fun q h => by cases h; rfl) sh_207 (by decide) (ry_fvr ⟨_, rfl⟩ (by decide)) rfl rfl dX12_init_72 ?_
  refine ry_aload_n hK 0 rfl dX12_init_75 rfl ?_
  refine ry_sipush (v := 220) hK dX12_init_76 (by decide) ?_
  refine ry_newa (at0 := .byte) hK sh_217 ka_byte (Or.inr (Or.inr ⟨rfl, rfl⟩)) (by decide) (by decide) (by decide) (by decide) (by decide) dX12_init_79 ?_
  refine ry_put (x := nI (217 + 1)) hK hin fl_X12_38 (fun q h => by cases h; rfl) sh_207 (by decide) (ry_fvr ⟨_, rfl⟩ (by decide)) rfl rfl dX12_init_81 ?_
  refine ry_aload_n hK 0 rfl dX12_init_84 rfl ?_
  refine ry_bipush (v := 32) hK dX12_init_85 (by decide) ?_
  refine ry_newa (at0 := .int) hK sh_218 ka_int (Or.inl ⟨rfl, rfl⟩) (by decide) (by decide) (by decide) (by decide) (by decide) dX12_init_87 ?_
  refine ry_put (x := nI (218 + 1)) hK hin fl_X12_42 (fun q h => by cases h; rfl) sh_207 (by decide) (ry_fvr ⟨_, rfl⟩ (by decide)) rfl rfl dX12_init_89 ?_
  refine ry_aload_n hK 0 rfl dX12_init_92 rfl ?_
  refine ry_bipush (v := 32) hK dX12_init_93 (by decide) ?_
  refine ry_newa (at0 := .int) hK sh_219 ka_int (Or.inl ⟨rfl, rfl⟩) (by decide) (by decide) (by decide) (by decide) (by decide) dX12_init_95 ?_
  refine ry_put (x := nI (219 + 1)) hK hin fl_X12_45 (fun q h => by cases h; rfl) sh_207 (by decide) (ry_fvr ⟨_, rfl⟩ (by decide)) rfl rfl dX12_init_97 ?_
  refine ry_aload_n hK 0 rfl dX12_init_100 rfl ?_
  refine ry_bipush (v := 32) hK dX12_init_101 (by decide) ?_
  refine ry_newa (at0 := .int) hK sh_220 ka_int (Or.inl ⟨rfl, rfl⟩) (by decide) (by decide) (by decide) (by decide) (by decide) dX12_init_103 ?_
  refine ry_put (x := nI (220 + 1)) hK hin fl_X12_48 (fun q h => by cases h; rfl) sh_207 (by decide) (ry_fvr ⟨_, rfl⟩ (by decide)) rfl rfl dX12_init_105 ?_
  refine ry_aload_n hK 0 rfl dX12_init_108 rfl ?_
  refine ry_bipush (v := 32) hK dX12_init_109 (by decide) ?_
  refine ry_newa (at0 := .int) hK sh_221 ka_int (Or.inl ⟨rfl, rfl⟩) (by decide) (by decide) (by decide) (by decide) (by decide) dX12_init_111 ?_
  refine ry_put (x := nI (221 + 1)) hK hin fl_X12_51 (fun q h => by cases h; rfl) sh_207 (by decide) (ry_fvr ⟨_, rfl⟩ (by decide)) rfl rfl dX12_init_113 ?_
  refine ry_aload_n hK 0 rfl dX12_init_116 rfl ?_
  refine ry_bipush (v := 32) hK dX12_init_117 (by decide) ?_
  refine ry_newa (at0 := .int) hK sh_222 ka_int (Or.inl ⟨rfl, rfl⟩) (by decide) (by decide) (by decide) (by decide) (by decide) dX12_init_119 ?_
  refine ry_put (x := nI (222 + 1)) hK hin fl_X12_54 (fun q h => by cases h; rfl) sh_207 (by decide) (ry_fvr ⟨_, rfl⟩ (by decide)) rfl rfl dX12_init_121 ?_
  refine ry_aload_n hK 0 rfl dX12_init_124 rfl ?_
  refine ry_bipush (v := 32) hK dX12_init_125 (by decide) ?_
  refine ry_newa (at0 := .int) hK sh_223 ka_int (Or.inl ⟨rfl, rfl⟩) (by decide) (by decide) (by decide) (by decide) (by decide) dX12_init_127 ?_
  refine ry_put (x := nI (223 + 1)) hK hin fl_X12_57 (fun q h => by cases h; rfl) sh_207 (by decide) (ry_fvr ⟨_, rfl⟩ (by decide)) rfl rfl dX12_init_129 ?_
  refine ry_aload_n hK 0 rfl dX12_init_132 rfl ?_
  refine ry_bipush (v := 32) hK dX12_init_133 (by decide) ?_
  refine ry_newa (at0 := .int) hK sh_224 ka_int (Or.inl ⟨rfl, rfl⟩) (by decide) (by decide) (by decide) (by decide) (by decide) dX12_init_135 ?_
  refine ry_put (x := nI (224 + 1)) hK hin fl_X12_60 (fun q h => by cases h; rfl) sh_207 (by decide) (ry_fvr ⟨_, rfl⟩ (by decide)) rfl rfl dX12_init_137 ?_
  refine ry_aload_n hK 0 rfl dX12_init_140 rfl ?_
  refine ry_bipush (v := 32) hK dX12_init_141 (by decide) ?_
  refine ry_newa (at0 := .int) hK sh_225 ka_int (Or.inl ⟨rfl, rfl⟩) (by decide) (by decide) (by decide) (by decide) (by decide) dX12_init_143 ?_
  refine ry_put (x := nI (225 + 1)) hK hin fl_X12_63 (fun q h => by cases h; rfl) sh_207 (by decide) (ry_fvr ⟨_, rfl⟩ (by decide)) rfl rfl dX12_init_145 ?_
  refine ry_aload_n hK 0 rfl dX12_init_148 rfl ?_
  refine ry_bipush (v := 32) hK dX12_init_149 (by decide) ?_
  refine ry_newa (at0 := .int) hK sh_226 ka_int (Or.inl ⟨rfl, rfl⟩) (by decide) (by decide) (by decide) (by decide) (by decide) dX12_init_151 ?_
  refine ry_put (x := nI (226 + 1)) hK hin fl_X12_66 (fun q h => by cases h; rfl) sh_207 (by decide) (ry_fvr ⟨_, rfl⟩ (by decide)) rfl rfl dX12_init_153 ?_
  refine ry_aload_n hK 0 rfl dX12_init_156 rfl ?_
  refine ry_bipush (v := 32) hK dX12_init_157 (by decide) ?_
  refine ry_newa (at0 := .int) hK sh_227 ka_int (Or.inl ⟨rfl, rfl⟩) (by decide) (by decide) (by decide) (by decide) (by decide) dX12_init_159 ?_
  refine ry_put (x := nI (227 + 1)) hK hin fl_X12_69 (fun q h => by cases h; rfl) sh_207 (by decide) (ry_fvr ⟨_, rfl⟩ (by decide)) rfl rfl dX12_init_161 ?_
  refine ry_aload_n hK 0 rfl dX12_init_164 rfl ?_
  refine ry_sipush (v := 220) hK dX12_init_165 (by decide) ?_
  refine ry_newa (at0 := .int) hK sh_228 ka_int (Or.inl ⟨rfl, rfl⟩) (by decide) (by decide) (by decide) (by decide) (by decide) dX12_init_168 ?_
  refine ry_put (x := nI (228 + 1)) hK hin fl_X12_72 (fun q h => by cases h; rfl) sh_207 (by decide) (ry_fvr ⟨_, rfl⟩ (by decide)) rfl rfl dX12_init_170 ?_
  refine ry_aload_n hK 0 rfl dX12_init_173 rfl ?_
  refine ry_sipush (v := 220) hK dX12_init_174 (by decide) ?_
  refine ry_newa (at0 := .int) hK sh_229 ka_int (Or.inl ⟨rfl, rfl⟩) (by decide) (by decide) (by decide) (by decide) (by decide) dX12_init_177 ?_
  refine ry_put (x := nI (229 + 1)) hK hin fl_X12_75 (fun q h => by cases h; rfl) sh_207 (by decide) (ry_fvr ⟨_, rfl⟩ (by decide)) rfl rfl dX12_init_179 ?_
  refine ry_aload_n hK 0 rfl dX12_init_182 rfl ?_
  refine ry_bipush (v := 14) hK dX12_init_183 (by decide) ?_
  refine ry_newa (at0 := .int) hK sh_230 ka_int (Or.inl ⟨rfl, rfl⟩) (by decide) (by decide) (by decide) (by decide) (by decide) dX12_init_185 ?_
  refine ry_put (x := nI (230 + 1)) hK hin fl_X12_78 (fun q h => by cases h; rfl) sh_207 (by decide) (ry_fvr ⟨_, rfl⟩ (by decide)) rfl rfl dX12_init_187 ?_
  refine ry_aload_n hK 0 rfl dX12_init_190 rfl ?_
  refine ry_bipush (v := 14) hK dX12_init_191 (by decide) ?_
  refine ry_newa (at0 := .int) hK sh_231 ka_int (Or.inl ⟨rfl, rfl⟩) (by decide) (by decide) (by decide) (by decide) (by decide) dX12_init_193 ?_
  refine ry_put (x := nI (231 + 1)) hK hin fl_X12_81 (fun q h => by cases h; rfl) sh_207 (by decide) (ry_fvr ⟨_, rfl⟩ (by decide)) rfl rfl dX12_init_195 ?_
  refine ry_aload_n hK 0 rfl dX12_init_198 rfl ?_
  refine ry_bipush (v := 14) hK dX12_init_199 (by decide) ?_
  refine ry_newa (at0 := .int) hK sh_232 ka_int (Or.inl ⟨rfl, rfl⟩) (by decide) (by decide) (by decide) (by decide) (by decide) dX12_init_201 ?_
  refine ry_put (x := nI (232 + 1)) hK hin fl_X12_84 (fun q h => by cases h; rfl) sh_207 (by decide) (ry_fvr ⟨_, rfl⟩ (by decide)) rfl rfl dX12_init_203 ?_
  refine ry_aload_n hK 0 rfl dX12_init_206 rfl ?_
  refine ry_bipush (v := 14) hK dX12_init_207 (by decide) ?_
  refine ry_newa (at0 := .int) hK sh_233 ka_int (Or.inl ⟨rfl, rfl⟩) (by decide) (by decide) (by decide) (by decide) (by decide) dX12_init_209 ?_
  refine ry_put (x := nI (233 + 1)) hK hin fl_X12_87 (fun q h => by cases h; rfl) sh_207 (by decide) (ry_fvr ⟨_, rfl⟩ (by decide)) rfl rfl dX12_init_211 ?_
  refine ry_aload_n hK 0 rfl dX12_init_214 rfl ?_
  refine ry_sipush (v := 220) hK dX12_init_215 (by decide) ?_
  refine ry_newa (at0 := .int) hK sh_234 ka_int (Or.inl ⟨rfl, rfl⟩) (by decide) (by decide) (by decide) (by decide) (by decide) dX12_init_218 ?_
  refine ry_put (x := nI (234 + 1)) hK hin fl_X12_90 (fun q h => by cases h; rfl) sh_207 (by decide) (ry_fvr ⟨_, rfl⟩ (by decide)) rfl rfl dX12_init_220 ?_
  refine ry_aload_n hK 0 rfl dX12_init_223 rfl ?_
  refine ry_bipush (v := 14) hK dX12_init_224 (by decide) ?_
  refine ry_newa (at0 := .int) hK sh_235 ka_int (Or.inl ⟨rfl, rfl⟩) (by decide) (by decide) (by decide) (by decide) (by decide) dX12_init_226 ?_
  refine ry_put (x := nI (235 + 1)) hK hin fl_X12_93 (fun q h => by cases h; rfl) sh_207 (by decide) (ry_fvr ⟨_, rfl⟩ (by decide)) rfl rfl dX12_init_228 ?_
  refine ry_aload_n hK 0 rfl dX12_init_231 rfl ?_
  refine ry_bipush (v := 14) hK dX12_init_232 (by decide) ?_
  refine ry_newa (at0 := .int) hK sh_236 ka_int (Or.inl ⟨rfl, rfl⟩) (by decide) (by decide) (by decide) (by decide) (by decide) dX12_init_234 ?_
  refine ry_put (x := nI (236 + 1)) hK hin fl_X12_96 (fun q h => by cases h; rfl) sh_207 (by decide) (ry_fvr ⟨_, rfl⟩ (by decide)) rfl rfl dX12_init_236 ?_
  refine ry_aload_n hK 0 rfl dX12_init_239 rfl ?_
  refine ry_bipush (v := 14) hK dX12_init_240 (by decide) ?_
  refine ry_newa (at0 := .int) hK sh_237 ka_int (Or.inl ⟨rfl, rfl⟩) (by decide) (by decide) (by decide) (by decide) (by decide) dX12_init_242 ?_
  refine ry_put (x := nI (237 + 1)) hK hin fl_X12_99 (fun q h => by cases h; rfl) sh_207 (by decide) (ry_fvr ⟨_, rfl⟩ (by decide)) rfl rfl dX12_init_244 ?_
  refine ry_aload_n hK 0 rfl dX12_init_247 rfl ?_
  refine ry_bipush (v := 14) hK dX12_init_248 (by decide) ?_
  refine ry_newa (at0 := .int) hK sh_238 ka_int (Or.inl ⟨rfl, rfl⟩) (by decide) (by decide) (by decide) (by decide) (by decide) dX12_init_250 ?_
  refine ry_put (x := nI (238 + 1)) hK hin fl_X12_102 (fun q h => by cases h; rfl) sh_207 (by decide) (ry_fvr ⟨_, rfl⟩ (by decide)) rfl rfl dX12_init_252 ?_
  refine ry_aload_n hK 0 rfl dX12_init_255 rfl ?_
  refine ry_sipush (v := 220) hK dX12_init_256 (by decide) ?_
  refine ry_newa (at0 := .int) hK sh_239 ka_int (Or.inl ⟨rfl, rfl⟩) (by decide) (by decide) (by decide) (by decide) (by decide) dX12_init_259 ?_
  refine ry_put (x := nI (239 + 1)) hK hin fl_X12_105 (fun q h => by cases h; rfl) sh_207 (by decide) (ry_fvr ⟨_, rfl⟩ (by decide)) rfl rfl dX12_init_261 ?_
  refine ry_aload_n hK 0 rfl dX12_init_264 rfl ?_
  refine ry_bipush (v := 12) hK dX12_init_265 (by decide) ?_
  refine ry_newa (at0 := .int) hK sh_240 ka_int (Or.inl ⟨rfl, rfl⟩) (by decide) (by decide) (by decide) (by decide) (by decide) dX12_init_267 ?_
  refine ry_put (x := nI (240 + 1)) hK hin fl_X12_108 (fun q h => by cases h; rfl) sh_207 (by decide) (ry_fvr ⟨_, rfl⟩ (by decide)) rfl rfl dX12_init_269 ?_
  refine ry_aload_n hK 0 rfl dX12_init_272 rfl ?_
  refine ry_sipush (v := 512) hK dX12_init_273 (by decide) ?_
  refine ry_newa (at0 := .int) hK sh_241 ka_int (Or.inl ⟨rfl, rfl⟩) (by decide) (by decide) (by decide) (by decide) (by decide) dX12_init_276 ?_
  refine ry_put (x := nI (241 + 1)) hK hin fl_X12_111 (fun q h => by cases h; rfl) sh_207 (by decide) (ry_fvr ⟨_, rfl⟩ (by decide)) rfl rfl dX12_init_278 ?_
  refine ry_aload_n hK 0 rfl dX12_init_281 rfl ?_
  refine ry_sipush (v := 512) hK dX12_init_282 (by decide) ?_
  refine ry_newa (at0 := .boolean) hK sh_242 ka_boolean (Or.inr (Or.inl ⟨rfl, rfl⟩)) (by decide) (by decide) (by decide) (by decide) (by decide) dX12_init_285 ?_
  refine ry_put (x := nI (242 + 1)) hK hin fl_X12_114 (fun q h => by cases h; rfl) sh_207 (by decide) (ry_fvr ⟨_, rfl⟩ (by decide)) rfl rfl dX12_init_287 ?_
  refine ry_aload_n hK 0 rfl dX12_init_290 rfl ?_
  refine ry_bipush (v := 96) hK dX12_init_291 (by decide) ?_
  refine ry_newa (at0 := .int) hK sh_243 ka_int (Or.inl ⟨rfl, rfl⟩) (by decide) (by decide) (by decide) (by decide) (by decide) dX12_init_293 ?_
  refine ry_put (x := nI (243 + 1)) hK hin fl_X12_117 (fun q h => by cases h; rfl) sh_207 (by decide) (ry_fvr ⟨_, rfl⟩ (by decide)) rfl rfl dX12_init_295 ?_
  refine ry_aload_n hK 0 rfl dX12_init_298 rfl ?_
  refine ry_sipush (v := 384) hK dX12_init_299 (by decide) ?_
  refine ry_newa (at0 := .int) hK sh_244 ka_int (Or.inl ⟨rfl, rfl⟩) (by decide) (by decide) (by decide) (by decide) (by decide) dX12_init_302 ?_
  refine ry_put (x := nI (244 + 1)) hK hin fl_X12_120 (fun q h => by cases h; rfl) sh_207 (by decide) (ry_fvr ⟨_, rfl⟩ (by decide)) rfl rfl dX12_init_304 ?_
  refine ry_aload_n hK 0 rfl dX12_init_307 rfl ?_
  refine ry_bipush (v := 32) hK dX12_init_308 (by decide) ?_
  refine ry_newa (at0 := .int) hK sh_245 ka_int (Or.inl ⟨rfl, rfl⟩) (by decide) (by decide) (by decide) (by decide) (by decide) dX12_init_310 ?_
  refine ry_put (x := nI (245 + 1)) hK hin fl_X12_123 (fun q h => by cases h; rfl) sh_207 (by decide) (ry_fvr ⟨_, rfl⟩ (by decide)) rfl rfl dX12_init_312 ?_
  refine ry_aload_n hK 0 rfl dX12_init_315 rfl ?_
  refine ry_bipush (v := 16) hK dX12_init_316 (by decide) ?_
  refine ry_newa (at0 := .int) hK sh_246 ka_int (Or.inl ⟨rfl, rfl⟩) (by decide) (by decide) (by decide) (by decide) (by decide) dX12_init_318 ?_
  refine ry_put (x := nI (246 + 1)) hK hin fl_X12_126 (fun q h => by cases h; rfl) sh_207 (by decide) (ry_fvr ⟨_, rfl⟩ (by decide)) rfl rfl dX12_init_320 ?_
  refine ry_aload_n hK 0 rfl dX12_init_323 rfl ?_
  refine ry_bipush (v := 8) hK dX12_init_324 (by decide) ?_
  refine ry_newa (at0 := .int) hK sh_247 ka_int (Or.inl ⟨rfl, rfl⟩) (by decide) (by decide) (by decide) (by decide) (by decide) dX12_init_326 ?_
  refine ry_put (x := nI (247 + 1)) hK hin fl_X12_129 (fun q h => by cases h; rfl) sh_207 (by decide) (ry_fvr ⟨_, rfl⟩ (by decide)) rfl rfl dX12_init_328 ?_
  refine ry_aload_n hK 0 rfl dX12_init_331 rfl ?_
  refine ry_bipush (v := 8) hK dX12_init_332 (by decide) ?_
  refine ry_newa (at0 := .int) hK sh_248 ka_int (Or.inl ⟨rfl, rfl⟩) (by decide) (by decide) (by decide) (by decide) (by decide) dX12_init_334 ?_
  refine ry_put (x := nI (248 + 1)) hK hin fl_X12_132 (fun q h => by cases h; rfl) sh_207 (by decide) (ry_fvr ⟨_, rfl⟩ (by decide)) rfl rfl dX12_init_336 ?_
  refine ry_aload_n hK 0 rfl dX12_init_339 rfl ?_
  refine ry_bipush (v := 8) hK dX12_init_340 (by decide) ?_
  refine ry_newa (at0 := .int) hK sh_249 ka_int (Or.inl ⟨rfl, rfl⟩) (by decide) (by decide) (by decide) (by decide) (by decide) dX12_init_342 ?_
  refine ry_put (x := nI (249 + 1)) hK hin fl_X12_135 (fun q h => by cases h; rfl) sh_207 (by decide) (ry_fvr ⟨_, rfl⟩ (by decide)) rfl rfl dX12_init_344 ?_
  refine ry_aload_n hK 0 rfl dX12_init_347 rfl ?_
  refine ry_sipush (v := 2304) hK dX12_init_348 (by decide) ?_
  refine ry_newa (at0 := .int) hK sh_250 ka_int (Or.inl ⟨rfl, rfl⟩) (by decide) (by decide) (by decide) (by decide) (by decide) dX12_init_351 ?_
  refine ry_put (x := nI (250 + 1)) hK hin fl_X12_138 (fun q h => by cases h; rfl) sh_207 (by decide) (ry_fvr ⟨_, rfl⟩ (by decide)) rfl rfl dX12_init_353 ?_
  refine ry_aload_n hK 0 rfl dX12_init_356 rfl ?_
  refine ry_bipush (v := 32) hK dX12_init_357 (by decide) ?_
  refine ry_newa (at0 := .int) hK sh_251 ka_int (Or.inl ⟨rfl, rfl⟩) (by decide) (by decide) (by decide) (by decide) (by decide) dX12_init_359 ?_
  refine ry_put (x := nI (251 + 1)) hK hin fl_X12_141 (fun q h => by cases h; rfl) sh_207 (by decide) (ry_fvr ⟨_, rfl⟩ (by decide)) rfl rfl dX12_init_361 ?_
  refine ry_aload_n hK 0 rfl dX12_init_364 rfl ?_
  refine ry_sipush (v := 640) hK dX12_init_365 (by decide) ?_
  refine ry_newa (at0 := .int) hK sh_252 ka_int (Or.inl ⟨rfl, rfl⟩) (by decide) (by decide) (by decide) (by decide) (by decide) dX12_init_368 ?_
  refine ry_put (x := nI (252 + 1)) hK hin fl_X12_144 (fun q h => by cases h; rfl) sh_207 (by decide) (ry_fvr ⟨_, rfl⟩ (by decide)) rfl rfl dX12_init_370 ?_
  refine ry_aload_n hK 0 rfl dX12_init_373 rfl ?_
  refine ry_bipush (v := 40) hK dX12_init_374 (by decide) ?_
  refine ry_newa (at0 := .int) hK sh_253 ka_int (Or.inl ⟨rfl, rfl⟩) (by decide) (by decide) (by decide) (by decide) (by decide) dX12_init_376 ?_
  refine ry_put (x := nI (253 + 1)) hK hin fl_X12_147 (fun q h => by cases h; rfl) sh_207 (by decide) (ry_fvr ⟨_, rfl⟩ (by decide)) rfl rfl dX12_init_378 ?_
  refine ry_aload_n hK 0 rfl dX12_init_381 rfl ?_
  refine ry_sipush (v := 240) hK dX12_init_382 (by decide) ?_
  refine ry_newa (at0 := .int) hK sh_254 ka_int (Or.inl ⟨rfl, rfl⟩) (by decide) (by decide) (by decide) (by decide) (by decide) dX12_init_385 ?_
  refine ry_put (x := nI (254 + 1)) hK hin fl_X12_150 (fun q h => by cases h; rfl) sh_207 (by decide) (ry_fvr ⟨_, rfl⟩ (by decide)) rfl rfl dX12_init_387 ?_
  refine ry_aload_n hK 0 rfl dX12_init_390 rfl ?_
  refine ry_bipush (v := 20) hK dX12_init_391 (by decide) ?_
  refine ry_newa (at0 := .int) hK sh_255 ka_int (Or.inl ⟨rfl, rfl⟩) (by decide) (by decide) (by decide) (by decide) (by decide) dX12_init_393 ?_
  refine ry_put (x := nI (255 + 1)) hK hin fl_X12_153 (fun q h => by cases h; rfl) sh_207 (by decide) (ry_fvr ⟨_, rfl⟩ (by decide)) rfl rfl dX12_init_395 ?_
  refine ry_aload_n hK 0 rfl dX12_init_398 rfl ?_
  refine ry_bipush (v := 20) hK dX12_init_399 (by decide) ?_
  refine ry_newa (at0 := .int) hK sh_256 ka_int (Or.inl ⟨rfl, rfl⟩) (by decide) (by decide) (by decide) (by decide) (by decide) dX12_init_401 ?_
  refine ry_put (x := nI (256 + 1)) hK hin fl_X12_156 (fun q h => by cases h; rfl) sh_207 (by decide) (ry_fvr ⟨_, rfl⟩ (by decide)) rfl rfl dX12_init_403 ?_
  refine ry_aload_n hK 0 rfl dX12_init_406 rfl ?_
  refine ry_bipush (v := 10) hK dX12_init_407 (by decide) ?_
  refine ry_newa (at0 := .int) hK sh_257 ka_int (Or.inl ⟨rfl, rfl⟩) (by decide) (by decide) (by decide) (by decide) (by decide) dX12_init_409 ?_
  refine ry_put (x := nI (257 + 1)) hK hin fl_X12_159 (fun q h => by cases h; rfl) sh_207 (by decide) (ry_fvr ⟨_, rfl⟩ (by decide)) rfl rfl dX12_init_411 ?_
  refine ry_aload_n hK 0 rfl dX12_init_414 rfl ?_
  refine ry_bipush (v := 16) hK dX12_init_415 (by decide) ?_
  refine ry_newa (at0 := .int) hK sh_258 ka_int (Or.inl ⟨rfl, rfl⟩) (by decide) (by decide) (by decide) (by decide) (by decide) dX12_init_417 ?_
  refine ry_put (x := nI (258 + 1)) hK hin fl_X12_162 (fun q h => by cases h; rfl) sh_207 (by decide) (ry_fvr ⟨_, rfl⟩ (by decide)) rfl rfl dX12_init_419 ?_
  refine ry_aload_n hK 0 rfl dX12_init_422 rfl ?_
  refine ry_bipush (v := 32) hK dX12_init_423 (by decide) ?_
  refine ry_newa (at0 := .int) hK sh_259 ka_int (Or.inl ⟨rfl, rfl⟩) (by decide) (by decide) (by decide) (by decide) (by decide) dX12_init_425 ?_
  refine ry_put (x := nI (259 + 1)) hK hin fl_X12_165 (fun q h => by cases h; rfl) sh_207 (by decide) (ry_fvr ⟨_, rfl⟩ (by decide)) rfl rfl dX12_init_427 ?_
  refine ry_aload_n hK 0 rfl dX12_init_430 rfl ?_
  refine ry_bipush (v := 96) hK dX12_init_431 (by decide) ?_
  refine ry_newa (at0 := .int) hK sh_260 ka_int (Or.inl ⟨rfl, rfl⟩) (by decide) (by decide) (by decide) (by decide) (by decide) dX12_init_433 ?_
  refine ry_put (x := nI (260 + 1)) hK hin fl_X12_168 (fun q h => by cases h; rfl) sh_207 (by decide) (ry_fvr ⟨_, rfl⟩ (by decide)) rfl rfl dX12_init_435 ?_
  refine ry_aload_n hK 0 rfl dX12_init_438 rfl ?_
  refine ry_bipush (v := 96) hK dX12_init_439 (by decide) ?_
  refine ry_newa (at0 := .boolean) hK sh_261 ka_boolean (Or.inr (Or.inl ⟨rfl, rfl⟩)) (by decide) (by decide) (by decide) (by decide) (by decide) dX12_init_441 ?_
  refine ry_put (x := nI (261 + 1)) hK hin fl_X12_171 (fun q h => by cases h; rfl) sh_207 (by decide) (ry_fvr ⟨_, rfl⟩ (by decide)) rfl rfl dX12_init_443 ?_
  refine ry_aload_n hK 0 rfl dX12_init_446 rfl ?_
  refine ry_bipush (v := 96) hK dX12_init_447 (by decide) ?_
  refine ry_newa (at0 := .int) hK sh_262 ka_int (Or.inl ⟨rfl, rfl⟩) (by decide) (by decide) (by decide) (by decide) (by decide) dX12_init_449 ?_
  refine ry_put (x := nI (262 + 1)) hK hin fl_X12_174 (fun q h => by cases h; rfl) sh_207 (by decide) (ry_fvr ⟨_, rfl⟩ (by decide)) rfl rfl dX12_init_451 ?_
  refine ry_aload_n hK 0 rfl dX12_init_454 rfl ?_
  refine ry_bipush (v := 96) hK dX12_init_455 (by decide) ?_
  refine ry_newa (at0 := .int) hK sh_263 ka_int (Or.inl ⟨rfl, rfl⟩) (by decide) (by decide) (by decide) (by decide) (by decide) dX12_init_457 ?_
  refine ry_put (x := nI (263 + 1)) hK hin fl_X12_177 (fun q h => by cases h; rfl) sh_207 (by decide) (ry_fvr ⟨_, rfl⟩ (by decide)) rfl rfl dX12_init_459 ?_
  refine ry_aload_n hK 0 rfl dX12_init_462 rfl ?_
  refine ry_bipush (v := 16) hK dX12_init_463 (by decide) ?_
  refine ry_newa (at0 := .int) hK sh_264 ka_int (Or.inl ⟨rfl, rfl⟩) (by decide) (by decide) (by decide) (by decide) (by decide) dX12_init_465 ?_
  refine ry_put (x := nI (264 + 1)) hK hin fl_X12_180 (fun q h => by cases h; rfl) sh_207 (by decide) (ry_fvr ⟨_, rfl⟩ (by decide)) rfl rfl dX12_init_467 ?_
  refine ry_aload_n hK 0 rfl dX12_init_470 rfl ?_
  refine ry_bipush (v := 16) hK dX12_init_471 (by decide) ?_
  refine ry_newa (at0 := .int) hK sh_265 ka_int (Or.inl ⟨rfl, rfl⟩) (by decide) (by decide) (by decide) (by decide) (by decide) dX12_init_473 ?_
  refine ry_put (x := nI (265 + 1)) hK hin fl_X12_183 (fun q h => by cases h; rfl) sh_207 (by decide) (ry_fvr ⟨_, rfl⟩ (by decide)) rfl rfl dX12_init_475 ?_
  refine ry_aload_n hK 0 rfl dX12_init_478 rfl ?_
  refine ry_bipush (v := 16) hK dX12_init_479 (by decide) ?_
  refine ry_newa (at0 := .int) hK sh_266 ka_int (Or.inl ⟨rfl, rfl⟩) (by decide) (by decide) (by decide) (by decide) (by decide) dX12_init_481 ?_
  refine ry_put (x := nI (266 + 1)) hK hin fl_X12_186 (fun q h => by cases h; rfl) sh_207 (by decide) (ry_fvr ⟨_, rfl⟩ (by decide)) rfl rfl dX12_init_483 ?_
  refine ry_aload_n hK 0 rfl dX12_init_486 rfl ?_
  refine ry_iconst (v := 4) hK dX12_init_487 (by decide) ?_
  refine ry_newa (at0 := .int) hK sh_267 ka_int (Or.inl ⟨rfl, rfl⟩) (by decide) (by decide) (by decide) (by decide) (by decide) dX12_init_488 ?_
  refine ry_put (x := nI (267 + 1)) hK hin fl_X12_189 (fun q h => by cases h; rfl) sh_207 (by decide) (ry_fvr ⟨_, rfl⟩ (by decide)) rfl rfl dX12_init_490 ?_
  refine ry_aload_n hK 0 rfl dX12_init_493 rfl ?_
  refine ry_bipush (v := 10) hK dX12_init_494 (by decide) ?_
  refine ry_newa (at0 := .int) hK sh_268 ka_int (Or.inl ⟨rfl, rfl⟩) (by decide) (by decide) (by decide) (by decide) (by decide) dX12_init_496 ?_
  refine ry_put (x := nI (268 + 1)) hK hin fl_X12_192 (fun q h => by cases h; rfl) sh_207 (by decide) (ry_fvr ⟨_, rfl⟩ (by decide)) rfl rfl dX12_init_498 ?_
  refine ry_aload_n hK 0 rfl dX12_init_501 rfl ?_
  refine ry_bipush (v := 40) hK dX12_init_502 (by decide) ?_
  refine ry_newa (at0 := .int) hK sh_269 ka_int (Or.inl ⟨rfl, rfl⟩) (by decide) (by decide) (by decide) (by decide) (by decide) dX12_init_504 ?_
  refine ry_put (x := nI (269 + 1)) hK hin fl_X12_195 (fun q h => by cases h; rfl) sh_207 (by decide) (ry_fvr ⟨_, rfl⟩ (by decide)) rfl rfl dX12_init_506 ?_
  refine ry_aload_n hK 0 rfl dX12_init_509 rfl ?_
  refine ry_bipush (v := 10) hK dX12_init_510 (by decide) ?_
  refine ry_newa (at0 := .int) hK sh_270 ka_int (Or.inl ⟨rfl, rfl⟩) (by decide) (by decide) (by decide) (by decide) (by decide) dX12_init_512 ?_
  refine ry_put (x := nI (270 + 1)) hK hin fl_X12_198 (fun q h => by cases h; rfl) sh_207 (by decide) (ry_fvr ⟨_, rfl⟩ (by decide)) rfl rfl dX12_init_514 ?_
  refine ry_aload_n hK 0 rfl dX12_init_517 rfl ?_
  refine ry_bipush (v := 16) hK dX12_init_518 (by decide) ?_
  refine ry_newa (at0 := .int) hK sh_271 ka_int (Or.inl ⟨rfl, rfl⟩) (by decide) (by decide) (by decide) (by decide) (by decide) dX12_init_520 ?_
  refine ry_put (x := nI (271 + 1)) hK hin fl_X12_201 (fun q h => by cases h; rfl) sh_207 (by decide) (ry_fvr ⟨_, rfl⟩ (by decide)) rfl rfl dX12_init_522 ?_
  refine ry_aload_n hK 0 rfl dX12_init_525 rfl ?_
  refine ry_bipush (v := 32) hK dX12_init_526 (by decide) ?_
  refine ry_newa (at0 := .int) hK sh_272 ka_int (Or.inl ⟨rfl, rfl⟩) (by decide) (by decide) (by decide) (by decide) (by decide) dX12_init_528 ?_
  refine ry_put (x := nI (272 + 1)) hK hin fl_X12_204 (fun q h => by cases h; rfl) sh_207 (by decide) (ry_fvr ⟨_, rfl⟩ (by decide)) rfl rfl dX12_init_530 ?_
  refine ry_aload_n hK 0 rfl dX12_init_533 rfl ?_
  refine ry_iconst (v := 1) hK dX12_init_534 (by decide) ?_
  refine ry_put (x := 1) hK hin fl_X12_207 (fun q h => by cases h; rfl) sh_207 (by decide) (ry_fvi rfl) rfl rfl dX12_init_535 ?_
  refine ry_iconst (v := 0) hK dX12_init_538 (by decide) ?_
  refine ry_istore_n (L' := [(1, .int 0), (0, .ref (ro_ad (kG K) 207))]) hK dX12_init_539 rfl (by decide) rfl ?_
  refine ry_iload_n hK 0 rfl dX12_init_540 rfl ?_
  refine ry_bipush (v := 16) hK dX12_init_541 (by decide) ?_
  refine ry_icmp_ge hK 559 dX12_init_543 (by decide) (fun q => absurd q (by decide)) (fun _ => ?_)
  refine ry_aload_n hK 1 rfl dX12_init_546 rfl ?_
  refine ry_get hK fl_X12_20 sh_207 (by decide) (ry_fvg (r := 211) ⟨_, rfl⟩ rfl (by decide)) dX12_init_547 ?_
  refine ry_iload_n hK 0 rfl dX12_init_550 rfl ?_
  refine ry_iconst (v := (-1)) hK dX12_init_551 (by decide) ?_
  refine ry_iast hK sh_211 (by decide) (by decide) dX12_init_552 ?_
  refine ry_iinc (v := 1) (L' := [(1, .int 1), (0, .ref (ro_ad (kG K) 207))]) hK 0 rfl dX12_init_553 (by decide) (by decide) rfl ?_
  refine ry_goto hK 540 dX12_init_556 (by decide) ?_
  refine ry_iload_n hK 0 rfl dX12_init_540 rfl ?_
  refine ry_bipush (v := 16) hK dX12_init_541 (by decide) ?_
  refine ry_icmp_ge hK 559 dX12_init_543 (by decide) (fun q => absurd q (by decide)) (fun _ => ?_)
  refine ry_aload_n hK 1 rfl dX12_init_546 rfl ?_
  refine ry_get hK fl_X12_20 sh_207 (by decide) (ry_fvg (r := 211) ⟨_, rfl⟩ rfl (by decide)) dX12_init_547 ?_
  refine ry_iload_n hK 0 rfl dX12_init_550 rfl ?_
  refine ry_iconst (v := (-1)) hK dX12_init_551 (by decide) ?_
  refine ry_iast hK sh_211 (by decide) (by decide) dX12_init_552 ?_
  refine ry_iinc (v := 2) (L' := [(1, .int 2), (0, .ref (ro_ad (kG K) 207))]) hK 0 rfl dX12_init_553 (by decide) (by decide) rfl ?_
  refine ry_goto hK 540 dX12_init_556 (by decide) ?_
  refine ry_iload_n hK 0 rfl dX12_init_540 rfl ?_
  refine ry_bipush (v := 16) hK dX12_init_541 (by decide) ?_
  refine ry_icmp_ge hK 559 dX12_init_543 (by decide) (fun q => absurd q (by decide)) (fun _ => ?_)
  refine ry_aload_n hK 1 rfl dX12_init_546 rfl ?_
  refine ry_get hK fl_X12_20 sh_207 (by decide) (ry_fvg (r := 211) ⟨_, rfl⟩ rfl (by decide)) dX12_init_547 ?_
  refine ry_iload_n hK 0 rfl dX12_init_550 rfl ?_
  refine ry_iconst (v := (-1)) hK dX12_init_551 (by decide) ?_
  refine ry_iast hK sh_211 (by decide) (by decide) dX12_init_552 ?_
  refine ry_iinc (v := 3) (L' := [(1, .int 3), (0, .ref (ro_ad (kG K) 207))]) hK 0 rfl dX12_init_553 (by decide) (by decide) rfl ?_
  refine ry_goto hK 540 dX12_init_556 (by decide) ?_
  refine ry_iload_n hK 0 rfl dX12_init_540 rfl ?_
  refine ry_bipush (v := 16) hK dX12_init_541 (by decide) ?_
  refine ry_icmp_ge hK 559 dX12_init_543 (by decide) (fun q => absurd q (by decide)) (fun _ => ?_)
  refine ry_aload_n hK 1 rfl dX12_init_546 rfl ?_
  refine ry_get hK fl_X12_20 sh_207 (by decide) (ry_fvg (r := 211) ⟨_, rfl⟩ rfl (by decide)) dX12_init_547 ?_
  refine ry_iload_n hK 0 rfl dX12_init_550 rfl ?_
  refine ry_iconst (v := (-1)) hK dX12_init_551 (by decide) ?_
  refine ry_iast hK sh_211 (by decide) (by decide) dX12_init_552 ?_
  refine ry_iinc (v := 4) (L' := [(1, .int 4), (0, .ref (ro_ad (kG K) 207))]) hK 0 rfl dX12_init_553 (by decide) (by decide) rfl ?_
  refine ry_goto hK 540 dX12_init_556 (by decide) ?_
  refine ry_iload_n hK 0 rfl dX12_init_540 rfl ?_
  refine ry_bipush (v := 16) hK dX12_init_541 (by decide) ?_
  refine ry_icmp_ge hK 559 dX12_init_543 (by decide) (fun q => absurd q (by decide)) (fun _ => ?_)
  refine ry_aload_n hK 1 rfl dX12_init_546 rfl ?_
  refine ry_get hK fl_X12_20 sh_207 (by decide) (ry_fvg (r := 211) ⟨_, rfl⟩ rfl (by decide)) dX12_init_547 ?_
  refine ry_iload_n hK 0 rfl dX12_init_550 rfl ?_
  refine ry_iconst (v := (-1)) hK dX12_init_551 (by decide) ?_
  refine ry_iast hK sh_211 (by decide) (by decide) dX12_init_552 ?_
  refine ry_iinc (v := 5) (L' := [(1, .int 5), (0, .ref (ro_ad (kG K) 207))]) hK 0 rfl dX12_init_553 (by decide) (by decide) rfl ?_
  refine ry_goto hK 540 dX12_init_556 (by decide) ?_
  refine ry_iload_n hK 0 rfl dX12_init_540 rfl ?_
  refine ry_bipush (v := 16) hK dX12_init_541 (by decide) ?_
  refine ry_icmp_ge hK 559 dX12_init_543 (by decide) (fun q => absurd q (by decide)) (fun _ => ?_)
  refine ry_aload_n hK 1 rfl dX12_init_546 rfl ?_
  refine ry_get hK fl_X12_20 sh_207 (by decide) (ry_fvg (r := 211) ⟨_, rfl⟩ rfl (by decide)) dX12_init_547 ?_
  refine ry_iload_n hK 0 rfl dX12_init_550 rfl ?_
  refine ry_iconst (v := (-1)) hK dX12_init_551 (by decide) ?_
  refine ry_iast hK sh_211 (by decide) (by decide) dX12_init_552 ?_
  refine ry_iinc (v := 6) (L' := [(1, .int 6), (0, .ref (ro_ad (kG K) 207))]) hK 0 rfl dX12_init_553 (by decide) (by decide) rfl ?_
  refine ry_goto hK 540 dX12_init_556 (by decide) ?_
  refine ry_iload_n hK 0 rfl dX12_init_540 rfl ?_
  refine ry_bipush (v := 16) hK dX12_init_541 (by decide) ?_
  refine ry_icmp_ge hK 559 dX12_init_543 (by decide) (fun q => absurd q (by decide)) (fun _ => ?_)
  refine ry_aload_n hK 1 rfl dX12_init_546 rfl ?_
  refine ry_get hK fl_X12_20 sh_207 (by decide) (ry_fvg (r := 211) ⟨_, rfl⟩ rfl (by decide)) dX12_init_547 ?_
  refine ry_iload_n hK 0 rfl dX12_init_550 rfl ?_
  refine ry_iconst (v := (-1)) hK dX12_init_551 (by decide) ?_
  refine ry_iast hK sh_211 (by decide) (by decide) dX12_init_552 ?_
  refine ry_iinc (v := 7) (L' := [(1, .int 7), (0, .ref (ro_ad (kG K) 207))]) hK 0 rfl dX12_init_553 (by decide) (by decide) rfl ?_
  refine ry_goto hK 540 dX12_init_556 (by decide) ?_
  refine ry_iload_n hK 0 rfl dX12_init_540 rfl ?_
  refine ry_bipush (v := 16) hK dX12_init_541 (by decide) ?_
  refine ry_icmp_ge hK 559 dX12_init_543 (by decide) (fun q => absurd q (by decide)) (fun _ => ?_)
  refine ry_aload_n hK 1 rfl dX12_init_546 rfl ?_
  refine ry_get hK fl_X12_20 sh_207 (by decide) (ry_fvg (r := 211) ⟨_, rfl⟩ rfl (by decide)) dX12_init_547 ?_
  refine ry_iload_n hK 0 rfl dX12_init_550 rfl ?_
  refine ry_iconst (v := (-1)) hK dX12_init_551 (by decide) ?_
  refine ry_iast hK sh_211 (by decide) (by decide) dX12_init_552 ?_
  refine ry_iinc (v := 8) (L' := [(1, .int 8), (0, .ref (ro_ad (kG K) 207))]) hK 0 rfl dX12_init_553 (by decide) (by decide) rfl ?_
  refine ry_goto hK 540 dX12_init_556 (by decide) ?_
  refine ry_iload_n hK 0 rfl dX12_init_540 rfl ?_
  refine ry_bipush (v := 16) hK dX12_init_541 (by decide) ?_
  refine ry_icmp_ge hK 559 dX12_init_543 (by decide) (fun q => absurd q (by decide)) (fun _ => ?_)
  refine ry_aload_n hK 1 rfl dX12_init_546 rfl ?_
  refine ry_get hK fl_X12_20 sh_207 (by decide) (ry_fvg (r := 211) ⟨_, rfl⟩ rfl (by decide)) dX12_init_547 ?_
  refine ry_iload_n hK 0 rfl dX12_init_550 rfl ?_
  refine ry_iconst (v := (-1)) hK dX12_init_551 (by decide) ?_
  refine ry_iast hK sh_211 (by decide) (by decide) dX12_init_552 ?_
  refine ry_iinc (v := 9) (L' := [(1, .int 9), (0, .ref (ro_ad (kG K) 207))]) hK 0 rfl dX12_init_553 (by decide) (by decide) rfl ?_
  refine ry_goto hK 540 dX12_init_556 (by decide) ?_
  refine ry_iload_n hK 0 rfl dX12_init_540 rfl ?_
  refine ry_bipush (v := 16) hK dX12_init_541 (by decide) ?_
  refine ry_icmp_ge hK 559 dX12_init_543 (by decide) (fun q => absurd q (by decide)) (fun _ => ?_)
  refine ry_aload_n hK 1 rfl dX12_init_546 rfl ?_
  refine ry_get hK fl_X12_20 sh_207 (by decide) (ry_fvg (r := 211) ⟨_, rfl⟩ rfl (by decide)) dX12_init_547 ?_
  refine ry_iload_n hK 0 rfl dX12_init_550 rfl ?_
  refine ry_iconst (v := (-1)) hK dX12_init_551 (by decide) ?_
  refine ry_iast hK sh_211 (by decide) (by decide) dX12_init_552 ?_
  refine ry_iinc (v := 10) (L' := [(1, .int 10), (0, .ref (ro_ad (kG K) 207))]) hK 0 rfl dX12_init_553 (by decide) (by decide) rfl ?_
  refine ry_goto hK 540 dX12_init_556 (by decide) ?_
  refine ry_iload_n hK 0 rfl dX12_init_540 rfl ?_
  refine ry_bipush (v := 16) hK dX12_init_541 (by decide) ?_
  refine ry_icmp_ge hK 559 dX12_init_543 (by decide) (fun q => absurd q (by decide)) (fun _ => ?_)
  refine ry_aload_n hK 1 rfl dX12_init_546 rfl ?_
  refine ry_get hK fl_X12_20 sh_207 (by decide) (ry_fvg (r := 211) ⟨_, rfl⟩ rfl (by decide)) dX12_init_547 ?_
  refine ry_iload_n hK 0 rfl dX12_init_550 rfl ?_
  refine ry_iconst (v := (-1)) hK dX12_init_551 (by decide) ?_
  refine ry_iast hK sh_211 (by decide) (by decide) dX12_init_552 ?_
  refine ry_iinc (v := 11) (L' := [(1, .int 11), (0, .ref (ro_ad (kG K) 207))]) hK 0 rfl dX12_init_553 (by decide) (by decide) rfl ?_
  refine ry_goto hK 540 dX12_init_556 (by decide) ?_
  refine ry_iload_n hK 0 rfl dX12_init_540 rfl ?_
  refine ry_bipush (v := 16) hK dX12_init_541 (by decide) ?_
  refine ry_icmp_ge hK 559 dX12_init_543 (by decide) (fun q => absurd q (by decide)) (fun _ => ?_)
  refine ry_aload_n hK 1 rfl dX12_init_546 rfl ?_
  refine ry_get hK fl_X12_20 sh_207 (by decide) (ry_fvg (r := 211) ⟨_, rfl⟩ rfl (by decide)) dX12_init_547 ?_
  refine ry_iload_n hK 0 rfl dX12_init_550 rfl ?_
  refine ry_iconst (v := (-1)) hK dX12_init_551 (by decide) ?_
  refine ry_iast hK sh_211 (by decide) (by decide) dX12_init_552 ?_
  refine ry_iinc (v := 12) (L' := [(1, .int 12), (0, .ref (ro_ad (kG K) 207))]) hK 0 rfl dX12_init_553 (by decide) (by decide) rfl ?_
  refine ry_goto hK 540 dX12_init_556 (by decide) ?_
  refine ry_iload_n hK 0 rfl dX12_init_540 rfl ?_
  refine ry_bipush (v := 16) hK dX12_init_541 (by decide) ?_
  refine ry_icmp_ge hK 559 dX12_init_543 (by decide) (fun q => absurd q (by decide)) (fun _ => ?_)
  refine ry_aload_n hK 1 rfl dX12_init_546 rfl ?_
  refine ry_get hK fl_X12_20 sh_207 (by decide) (ry_fvg (r := 211) ⟨_, rfl⟩ rfl (by decide)) dX12_init_547 ?_
  refine ry_iload_n hK 0 rfl dX12_init_550 rfl ?_
  refine ry_iconst (v := (-1)) hK dX12_init_551 (by decide) ?_
  refine ry_iast hK sh_211 (by decide) (by decide) dX12_init_552 ?_
  refine ry_iinc (v := 13) (L' := [(1, .int 13), (0, .ref (ro_ad (kG K) 207))]) hK 0 rfl dX12_init_553 (by decide) (by decide) rfl ?_
  refine ry_goto hK 540 dX12_init_556 (by decide) ?_
  refine ry_iload_n hK 0 rfl dX12_init_540 rfl ?_
  refine ry_bipush (v := 16) hK dX12_init_541 (by decide) ?_
  refine ry_icmp_ge hK 559 dX12_init_543 (by decide) (fun q => absurd q (by decide)) (fun _ => ?_)
  refine ry_aload_n hK 1 rfl dX12_init_546 rfl ?_
  refine ry_get hK fl_X12_20 sh_207 (by decide) (ry_fvg (r := 211) ⟨_, rfl⟩ rfl (by decide)) dX12_init_547 ?_
  refine ry_iload_n hK 0 rfl dX12_init_550 rfl ?_
  refine ry_iconst (v := (-1)) hK dX12_init_551 (by decide) ?_
  refine ry_iast hK sh_211 (by decide) (by decide) dX12_init_552 ?_
  refine ry_iinc (v := 14) (L' := [(1, .int 14), (0, .ref (ro_ad (kG K) 207))]) hK 0 rfl dX12_init_553 (by decide) (by decide) rfl ?_
  refine ry_goto hK 540 dX12_init_556 (by decide) ?_
  refine ry_iload_n hK 0 rfl dX12_init_540 rfl ?_
  refine ry_bipush (v := 16) hK dX12_init_541 (by decide) ?_
  refine ry_icmp_ge hK 559 dX12_init_543 (by decide) (fun q => absurd q (by decide)) (fun _ => ?_)
  refine ry_aload_n hK 1 rfl dX12_init_546 rfl ?_
  refine ry_get hK fl_X12_20 sh_207 (by decide) (ry_fvg (r := 211) ⟨_, rfl⟩ rfl (by decide)) dX12_init_547 ?_
  refine ry_iload_n hK 0 rfl dX12_init_550 rfl ?_
  refine ry_iconst (v := (-1)) hK dX12_init_551 (by decide) ?_
  refine ry_iast hK sh_211 (by decide) (by decide) dX12_init_552 ?_
  refine ry_iinc (v := 15) (L' := [(1, .int 15), (0, .ref (ro_ad (kG K) 207))]) hK 0 rfl dX12_init_553 (by decide) (by decide) rfl ?_
  refine ry_goto hK 540 dX12_init_556 (by decide) ?_
  refine ry_iload_n hK 0 rfl dX12_init_540 rfl ?_
  refine ry_bipush (v := 16) hK dX12_init_541 (by decide) ?_
  refine ry_icmp_ge hK 559 dX12_init_543 (by decide) (fun q => absurd q (by decide)) (fun _ => ?_)
  refine ry_aload_n hK 1 rfl dX12_init_546 rfl ?_
  refine ry_get hK fl_X12_20 sh_207 (by decide) (ry_fvg (r := 211) ⟨_, rfl⟩ rfl (by decide)) dX12_init_547 ?_
  refine ry_iload_n hK 0 rfl dX12_init_550 rfl ?_
  refine ry_iconst (v := (-1)) hK dX12_init_551 (by decide) ?_
  refine ry_iast hK sh_211 (by decide) (by decide) dX12_init_552 ?_
  refine ry_iinc (v := 16) (L' := [(1, .int 16), (0, .ref (ro_ad (kG K) 207))]) hK 0 rfl dX12_init_553 (by decide) (by decide) rfl ?_
  refine ry_goto hK 540 dX12_init_556 (by decide) ?_
  refine ry_iload_n hK 0 rfl dX12_init_540 rfl ?_
  refine ry_bipush (v := 16) hK dX12_init_541 (by decide) ?_
  refine ry_icmp_ge hK 559 dX12_init_543 (by decide) (fun _ => ?_) (fun q => absurd (by decide) q)
  exact ry_ret hK hR dX12_init_559
