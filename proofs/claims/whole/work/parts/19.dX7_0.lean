theorem dX7_init_0 : decode cX7_init 0 = .ok (.aload_n 0, 1) := by decide +kernel
theorem dX7_init_1 : decode cX7_init 1 = .ok (.invokespecial 1, 3) := by decide +kernel
theorem dX7_init_4 : decode cX7_init 4 = .ok (.aload_n 0, 1) := by decide +kernel
theorem dX7_init_5 : decode cX7_init 5 = .ok (.bipush 16, 2) := by decide +kernel
theorem dX7_init_7 : decode cX7_init 7 = .ok (.newarray .int, 2) := by decide +kernel
theorem dX7_init_9 : decode cX7_init 9 = .ok (.putfield 7, 3) := by decide +kernel
theorem dX7_init_12 : decode cX7_init 12 = .ok (.aload_n 0, 1) := by decide +kernel
theorem dX7_init_13 : decode cX7_init 13 = .ok (.sipush 256, 3) := by decide +kernel
theorem dX7_init_16 : decode cX7_init 16 = .ok (.newarray .int, 2) := by decide +kernel
theorem dX7_init_18 : decode cX7_init 18 = .ok (.putfield 13, 3) := by decide +kernel
theorem dX7_init_21 : decode cX7_init 21 = .ok (.aload_n 0, 1) := by decide +kernel
theorem dX7_init_22 : decode cX7_init 22 = .ok (.bipush 24, 2) := by decide +kernel
theorem dX7_init_24 : decode cX7_init 24 = .ok (.newarray .int, 2) := by decide +kernel
theorem dX7_init_26 : decode cX7_init 26 = .ok (.putfield 16, 3) := by decide +kernel
theorem dX7_init_29 : decode cX7_init 29 = .ok (.aload_n 0, 1) := by decide +kernel
theorem dX7_init_30 : decode cX7_init 30 = .ok (.bipush 24, 2) := by decide +kernel
theorem dX7_init_32 : decode cX7_init 32 = .ok (.newarray .int, 2) := by decide +kernel
theorem dX7_init_34 : decode cX7_init 34 = .ok (.putfield 19, 3) := by decide +kernel
theorem dX7_init_37 : decode cX7_init 37 = .ok (.aload_n 0, 1) := by decide +kernel
theorem dX7_init_38 : decode cX7_init 38 = .ok (.sipush 144, 3) := by decide +kernel
theorem dX7_init_41 : decode cX7_init 41 = .ok (.newarray .int, 2) := by decide +kernel
theorem dX7_init_43 : decode cX7_init 43 = .ok (.putfield 22, 3) := by decide +kernel
theorem dX7_init_46 : decode cX7_init 46 = .ok (.aload_n 0, 1) := by decide +kernel
theorem dX7_init_47 : decode cX7_init 47 = .ok (.bipush 24, 2) := by decide +kernel
theorem dX7_init_49 : decode cX7_init 49 = .ok (.newarray .boolean, 2) := by decide +kernel
theorem dX7_init_51 : decode cX7_init 51 = .ok (.putfield 25, 3) := by decide +kernel
theorem dX7_init_54 : decode cX7_init 54 = .ok (.aload_n 0, 1) := by decide +kernel
theorem dX7_init_55 : decode cX7_init 55 = .ok (.bipush 24, 2) := by decide +kernel
theorem dX7_init_57 : decode cX7_init 57 = .ok (.newarray .int, 2) := by decide +kernel
theorem dX7_init_59 : decode cX7_init 59 = .ok (.putfield 29, 3) := by decide +kernel
theorem dX7_init_62 : decode cX7_init 62 = .ok (.aload_n 0, 1) := by decide +kernel
theorem dX7_init_63 : decode cX7_init 63 = .ok (.bipush 96, 2) := by decide +kernel
theorem dX7_init_65 : decode cX7_init 65 = .ok (.newarray .int, 2) := by decide +kernel
theorem dX7_init_67 : decode cX7_init 67 = .ok (.putfield 32, 3) := by decide +kernel
theorem dX7_init_70 : decode cX7_init 70 = .ok (.aload_n 0, 1) := by decide +kernel
theorem dX7_init_71 : decode cX7_init 71 = .ok (.bipush 96, 2) := by decide +kernel
theorem dX7_init_73 : decode cX7_init 73 = .ok (.newarray .int, 2) := by decide +kernel
theorem dX7_init_75 : decode cX7_init 75 = .ok (.putfield 35, 3) := by decide +kernel
theorem dX7_init_78 : decode cX7_init 78 = .ok (.aload_n 0, 1) := by decide +kernel
theorem dX7_init_79 : decode cX7_init 79 = .ok (.bipush 96, 2) := by decide +kernel
theorem dX7_init_81 : decode cX7_init 81 = .ok (.newarray .int, 2) := by decide +kernel
theorem dX7_init_83 : decode cX7_init 83 = .ok (.putfield 38, 3) := by decide +kernel
theorem dX7_init_86 : decode cX7_init 86 = .ok (.aload_n 0, 1) := by decide +kernel
theorem dX7_init_87 : decode cX7_init 87 = .ok (.bipush 96, 2) := by decide +kernel
theorem dX7_init_89 : decode cX7_init 89 = .ok (.newarray .int, 2) := by decide +kernel
theorem dX7_init_91 : decode cX7_init 91 = .ok (.putfield 41, 3) := by decide +kernel
theorem dX7_init_94 : decode cX7_init 94 = .ok (.aload_n 0, 1) := by decide +kernel
theorem dX7_init_95 : decode cX7_init 95 = .ok (.bipush 96, 2) := by decide +kernel
theorem dX7_init_97 : decode cX7_init 97 = .ok (.newarray .int, 2) := by decide +kernel
theorem dX7_init_99 : decode cX7_init 99 = .ok (.putfield 44, 3) := by decide +kernel
theorem dX7_init_102 : decode cX7_init 102 = .ok (.aload_n 0, 1) := by decide +kernel
theorem dX7_init_103 : decode cX7_init 103 = .ok (.sipush 2304, 3) := by decide +kernel
theorem dX7_init_106 : decode cX7_init 106 = .ok (.newarray .int, 2) := by decide +kernel
theorem dX7_init_108 : decode cX7_init 108 = .ok (.putfield 47, 3) := by decide +kernel
theorem dX7_init_111 : decode cX7_init 111 = .ok (.aload_n 0, 1) := by decide +kernel
theorem dX7_init_112 : decode cX7_init 112 = .ok (.sipush 2400, 3) := by decide +kernel
theorem dX7_init_115 : decode cX7_init 115 = .ok (.newarray .int, 2) := by decide +kernel
theorem dX7_init_117 : decode cX7_init 117 = .ok (.putfield 50, 3) := by decide +kernel
theorem dX7_init_120 : decode cX7_init 120 = .ok (.aload_n 0, 1) := by decide +kernel
theorem dX7_init_121 : decode cX7_init 121 = .ok (.sipush 2400, 3) := by decide +kernel
theorem dX7_init_124 : decode cX7_init 124 = .ok (.newarray .int, 2) := by decide +kernel
theorem dX7_init_126 : decode cX7_init 126 = .ok (.putfield 53, 3) := by decide +kernel
theorem dX7_init_129 : decode cX7_init 129 = .ok (.aload_n 0, 1) := by decide +kernel
theorem dX7_init_130 : decode cX7_init 130 = .ok (.sipush 2400, 3) := by decide +kernel
theorem dX7_init_133 : decode cX7_init 133 = .ok (.newarray .int, 2) := by decide +kernel
theorem dX7_init_135 : decode cX7_init 135 = .ok (.putfield 56, 3) := by decide +kernel
theorem dX7_init_138 : decode cX7_init 138 = .ok (.aload_n 0, 1) := by decide +kernel
theorem dX7_init_139 : decode cX7_init 139 = .ok (.sipush 2400, 3) := by decide +kernel
theorem dX7_init_142 : decode cX7_init 142 = .ok (.newarray .int, 2) := by decide +kernel
theorem dX7_init_144 : decode cX7_init 144 = .ok (.putfield 59, 3) := by decide +kernel
theorem dX7_init_147 : decode cX7_init 147 = .ok (.aload_n 0, 1) := by decide +kernel
theorem dX7_init_148 : decode cX7_init 148 = .ok (.ldc 62, 2) := by decide +kernel
theorem dX7_init_150 : decode cX7_init 150 = .ok (.newarray .int, 2) := by decide +kernel
theorem dX7_init_152 : decode cX7_init 152 = .ok (.putfield 63, 3) := by decide +kernel
theorem dX7_init_155 : decode cX7_init 155 = .ok (.aload_n 0, 1) := by decide +kernel
theorem dX7_init_156 : decode cX7_init 156 = .ok (.bipush 24, 2) := by decide +kernel
theorem dX7_init_158 : decode cX7_init 158 = .ok (.newarray .int, 2) := by decide +kernel
theorem dX7_init_160 : decode cX7_init 160 = .ok (.putfield 66, 3) := by decide +kernel
theorem dX7_init_163 : decode cX7_init 163 = .ok (.aload_n 0, 1) := by decide +kernel
theorem dX7_init_164 : decode cX7_init 164 = .ok (.bipush 24, 2) := by decide +kernel
theorem dX7_init_166 : decode cX7_init 166 = .ok (.newarray .int, 2) := by decide +kernel
theorem dX7_init_168 : decode cX7_init 168 = .ok (.putfield 69, 3) := by decide +kernel
theorem dX7_init_171 : decode cX7_init 171 = .ok (.aload_n 0, 1) := by decide +kernel
theorem dX7_init_172 : decode cX7_init 172 = .ok (.bipush 24, 2) := by decide +kernel
theorem dX7_init_174 : decode cX7_init 174 = .ok (.newarray .int, 2) := by decide +kernel
theorem dX7_init_176 : decode cX7_init 176 = .ok (.putfield 72, 3) := by decide +kernel
theorem dX7_init_179 : decode cX7_init 179 = .ok (.aload_n 0, 1) := by decide +kernel
theorem dX7_init_180 : decode cX7_init 180 = .ok (.sipush 576, 3) := by decide +kernel
theorem dX7_init_183 : decode cX7_init 183 = .ok (.newarray .int, 2) := by decide +kernel
theorem dX7_init_185 : decode cX7_init 185 = .ok (.putfield 75, 3) := by decide +kernel
theorem dX7_init_188 : decode cX7_init 188 = .ok (.aload_n 0, 1) := by decide +kernel
theorem dX7_init_189 : decode cX7_init 189 = .ok (.bipush 24, 2) := by decide +kernel
theorem dX7_init_191 : decode cX7_init 191 = .ok (.newarray .int, 2) := by decide +kernel
theorem dX7_init_193 : decode cX7_init 193 = .ok (.putfield 78, 3) := by decide +kernel
theorem dX7_init_196 : decode cX7_init 196 = .ok (.aload_n 0, 1) := by decide +kernel
theorem dX7_init_197 : decode cX7_init 197 = .ok (.bipush 24, 2) := by decide +kernel
theorem dX7_init_199 : decode cX7_init 199 = .ok (.newarray .boolean, 2) := by decide +kernel
theorem dX7_init_201 : decode cX7_init 201 = .ok (.putfield 81, 3) := by decide +kernel
theorem dX7_init_204 : decode cX7_init 204 = .ok (.aload_n 0, 1) := by decide +kernel
theorem dX7_init_205 : decode cX7_init 205 = .ok (.bipush 24, 2) := by decide +kernel
theorem dX7_init_207 : decode cX7_init 207 = .ok (.newarray .boolean, 2) := by decide +kernel
theorem dX7_init_209 : decode cX7_init 209 = .ok (.putfield 84, 3) := by decide +kernel
theorem dX7_init_212 : decode cX7_init 212 = .ok (.aload_n 0, 1) := by decide +kernel
theorem dX7_init_213 : decode cX7_init 213 = .ok (.bipush 24, 2) := by decide +kernel
theorem dX7_init_215 : decode cX7_init 215 = .ok (.newarray .boolean, 2) := by decide +kernel
theorem dX7_init_217 : decode cX7_init 217 = .ok (.putfield 87, 3) := by decide +kernel
theorem dX7_init_220 : decode cX7_init 220 = .ok (.aload_n 0, 1) := by decide +kernel
theorem dX7_init_221 : decode cX7_init 221 = .ok (.bipush 24, 2) := by decide +kernel
theorem dX7_init_223 : decode cX7_init 223 = .ok (.newarray .int, 2) := by decide +kernel
theorem dX7_init_225 : decode cX7_init 225 = .ok (.putfield 90, 3) := by decide +kernel
theorem dX7_init_228 : decode cX7_init 228 = .ok (.aload_n 0, 1) := by decide +kernel
theorem dX7_init_229 : decode cX7_init 229 = .ok (.bipush 24, 2) := by decide +kernel
theorem dX7_init_231 : decode cX7_init 231 = .ok (.newarray .int, 2) := by decide +kernel
theorem dX7_init_233 : decode cX7_init 233 = .ok (.putfield 93, 3) := by decide +kernel
theorem dX7_init_236 : decode cX7_init 236 = .ok (.aload_n 0, 1) := by decide +kernel
theorem dX7_init_237 : decode cX7_init 237 = .ok (.bipush 24, 2) := by decide +kernel
theorem dX7_init_239 : decode cX7_init 239 = .ok (.newarray .int, 2) := by decide +kernel
theorem dX7_init_241 : decode cX7_init 241 = .ok (.putfield 96, 3) := by decide +kernel
theorem dX7_init_244 : decode cX7_init 244 = .ok (.aload_n 0, 1) := by decide +kernel
theorem dX7_init_245 : decode cX7_init 245 = .ok (.bipush 24, 2) := by decide +kernel
theorem dX7_init_247 : decode cX7_init 247 = .ok (.newarray .boolean, 2) := by decide +kernel
theorem dX7_init_249 : decode cX7_init 249 = .ok (.putfield 99, 3) := by decide +kernel
theorem dX7_init_252 : decode cX7_init 252 = .ok (.aload_n 0, 1) := by decide +kernel
theorem dX7_init_253 : decode cX7_init 253 = .ok (.sipush 600, 3) := by decide +kernel
theorem dX7_init_256 : decode cX7_init 256 = .ok (.newarray .int, 2) := by decide +kernel
theorem dX7_init_258 : decode cX7_init 258 = .ok (.putfield 102, 3) := by decide +kernel
theorem dX7_init_261 : decode cX7_init 261 = .ok (.aload_n 0, 1) := by decide +kernel
theorem dX7_init_262 : decode cX7_init 262 = .ok (.sipush 600, 3) := by decide +kernel
theorem dX7_init_265 : decode cX7_init 265 = .ok (.newarray .int, 2) := by decide +kernel
theorem dX7_init_267 : decode cX7_init 267 = .ok (.putfield 105, 3) := by decide +kernel
theorem dX7_init_270 : decode cX7_init 270 = .ok (.aload_n 0, 1) := by decide +kernel
theorem dX7_init_271 : decode cX7_init 271 = .ok (.sipush 600, 3) := by decide +kernel
theorem dX7_init_274 : decode cX7_init 274 = .ok (.newarray .int, 2) := by decide +kernel
theorem dX7_init_276 : decode cX7_init 276 = .ok (.putfield 108, 3) := by decide +kernel
theorem dX7_init_279 : decode cX7_init 279 = .ok (.aload_n 0, 1) := by decide +kernel
theorem dX7_init_280 : decode cX7_init 280 = .ok (.sipush 600, 3) := by decide +kernel
theorem dX7_init_283 : decode cX7_init 283 = .ok (.newarray .int, 2) := by decide +kernel
theorem dX7_init_285 : decode cX7_init 285 = .ok (.putfield 111, 3) := by decide +kernel
theorem dX7_init_288 : decode cX7_init 288 = .ok (.aload_n 0, 1) := by decide +kernel
theorem dX7_init_289 : decode cX7_init 289 = .ok (.sipush 14400, 3) := by decide +kernel
theorem dX7_init_292 : decode cX7_init 292 = .ok (.newarray .int, 2) := by decide +kernel
theorem dX7_init_294 : decode cX7_init 294 = .ok (.putfield 114, 3) := by decide +kernel
theorem dX7_init_297 : decode cX7_init 297 = .ok (.aload_n 0, 1) := by decide +kernel
theorem dX7_init_298 : decode cX7_init 298 = .ok (.bipush 24, 2) := by decide +kernel
theorem dX7_init_300 : decode cX7_init 300 = .ok (.newarray .int, 2) := by decide +kernel
theorem dX7_init_302 : decode cX7_init 302 = .ok (.putfield 117, 3) := by decide +kernel
theorem dX7_init_305 : decode cX7_init 305 = .ok (.aload_n 0, 1) := by decide +kernel
theorem dX7_init_306 : decode cX7_init 306 = .ok (.sipush 576, 3) := by decide +kernel
theorem dX7_init_309 : decode cX7_init 309 = .ok (.newarray .int, 2) := by decide +kernel
theorem dX7_init_311 : decode cX7_init 311 = .ok (.putfield 120, 3) := by decide +kernel
theorem dX7_init_314 : decode cX7_init 314 = .ok (.aload_n 0, 1) := by decide +kernel
theorem dX7_init_315 : decode cX7_init 315 = .ok (.bipush 24, 2) := by decide +kernel
theorem dX7_init_317 : decode cX7_init 317 = .ok (.newarray .int, 2) := by decide +kernel
theorem dX7_init_319 : decode cX7_init 319 = .ok (.putfield 123, 3) := by decide +kernel
theorem dX7_init_322 : decode cX7_init 322 = .ok (.aload_n 0, 1) := by decide +kernel
theorem dX7_init_323 : decode cX7_init 323 = .ok (.bipush 24, 2) := by decide +kernel
theorem dX7_init_325 : decode cX7_init 325 = .ok (.newarray .int, 2) := by decide +kernel
theorem dX7_init_327 : decode cX7_init 327 = .ok (.putfield 126, 3) := by decide +kernel
theorem dX7_init_330 : decode cX7_init 330 = .ok (.aload_n 0, 1) := by decide +kernel
theorem dX7_init_331 : decode cX7_init 331 = .ok (.bipush 24, 2) := by decide +kernel
theorem dX7_init_333 : decode cX7_init 333 = .ok (.newarray .int, 2) := by decide +kernel
theorem dX7_init_335 : decode cX7_init 335 = .ok (.putfield 129, 3) := by decide +kernel
theorem dX7_init_338 : decode cX7_init 338 = .ok (.aload_n 0, 1) := by decide +kernel
theorem dX7_init_339 : decode cX7_init 339 = .ok (.bipush 24, 2) := by decide +kernel
theorem dX7_init_341 : decode cX7_init 341 = .ok (.newarray .boolean, 2) := by decide +kernel
theorem dX7_init_343 : decode cX7_init 343 = .ok (.putfield 132, 3) := by decide +kernel
theorem dX7_init_346 : decode cX7_init 346 = .ok (.aload_n 0, 1) := by decide +kernel
theorem dX7_init_347 : decode cX7_init 347 = .ok (.bipush 24, 2) := by decide +kernel
theorem dX7_init_349 : decode cX7_init 349 = .ok (.newarray .int, 2) := by decide +kernel
theorem dX7_init_351 : decode cX7_init 351 = .ok (.putfield 135, 3) := by decide +kernel
theorem dX7_init_354 : decode cX7_init 354 = .ok (.aload_n 0, 1) := by decide +kernel
theorem dX7_init_355 : decode cX7_init 355 = .ok (.iconst (-1), 1) := by decide +kernel
theorem dX7_init_356 : decode cX7_init 356 = .ok (.putfield 138, 3) := by decide +kernel
theorem dX7_init_359 : decode cX7_init 359 = .ok (.aload_n 0, 1) := by decide +kernel
theorem dX7_init_360 : decode cX7_init 360 = .ok (.bipush 24, 2) := by decide +kernel
theorem dX7_init_362 : decode cX7_init 362 = .ok (.newarray .int, 2) := by decide +kernel
theorem dX7_init_364 : decode cX7_init 364 = .ok (.putfield 142, 3) := by decide +kernel
theorem dX7_init_367 : decode cX7_init 367 = .ok (.aload_n 0, 1) := by decide +kernel
theorem dX7_init_368 : decode cX7_init 368 = .ok (.bipush 24, 2) := by decide +kernel
theorem dX7_init_370 : decode cX7_init 370 = .ok (.newarray .int, 2) := by decide +kernel
theorem dX7_init_372 : decode cX7_init 372 = .ok (.putfield 145, 3) := by decide +kernel
theorem dX7_init_375 : decode cX7_init 375 = .ok (.aload_n 0, 1) := by decide +kernel
theorem dX7_init_376 : decode cX7_init 376 = .ok (.bipush 96, 2) := by decide +kernel
theorem dX7_init_378 : decode cX7_init 378 = .ok (.newarray .int, 2) := by decide +kernel
theorem dX7_init_380 : decode cX7_init 380 = .ok (.putfield 148, 3) := by decide +kernel
theorem dX7_init_383 : decode cX7_init 383 = .ok (.aload_n 0, 1) := by decide +kernel
theorem dX7_init_384 : decode cX7_init 384 = .ok (.iconst 5, 1) := by decide +kernel
theorem dX7_init_385 : decode cX7_init 385 = .ok (.newarray .int, 2) := by decide +kernel
theorem dX7_init_387 : decode cX7_init 387 = .ok (.putfield 151, 3) := by decide +kernel
theorem dX7_init_390 : decode cX7_init 390 = .ok (.iconst 0, 1) := by decide +kernel
theorem dX7_init_391 : decode cX7_init 391 = .ok (.istore_n 1, 1) := by decide +kernel
theorem dX7_init_392 : decode cX7_init 392 = .ok (.iload_n 1, 1) := by decide +kernel
theorem dX7_init_393 : decode cX7_init 393 = .ok (.bipush 16, 2) := by decide +kernel
theorem dX7_init_395 : decode cX7_init 395 = .ok (.if_icmp .ge 16, 3) := by decide +kernel
theorem dX7_init_398 : decode cX7_init 398 = .ok (.aload_n 0, 1) := by decide +kernel
theorem dX7_init_399 : decode cX7_init 399 = .ok (.getfield 7, 3) := by decide +kernel
theorem dX7_init_402 : decode cX7_init 402 = .ok (.iload_n 1, 1) := by decide +kernel
theorem dX7_init_403 : decode cX7_init 403 = .ok (.iconst (-1), 1) := by decide +kernel
theorem dX7_init_404 : decode cX7_init 404 = .ok (.iastore, 1) := by decide +kernel
theorem dX7_init_405 : decode cX7_init 405 = .ok (.iinc 1 1, 3) := by decide +kernel
theorem dX7_init_408 : decode cX7_init 408 = .ok (.goto (-16), 3) := by decide +kernel
theorem dX7_init_411 : decode cX7_init 411 = .ok (.iconst 0, 1) := by decide +kernel
theorem dX7_init_412 : decode cX7_init 412 = .ok (.istore_n 1, 1) := by decide +kernel
theorem dX7_init_413 : decode cX7_init 413 = .ok (.iload_n 1, 1) := by decide +kernel
theorem dX7_init_414 : decode cX7_init 414 = .ok (.bipush 96, 2) := by decide +kernel
theorem dX7_init_416 : decode cX7_init 416 = .ok (.if_icmp .ge 16, 3) := by decide +kernel
theorem dX7_init_419 : decode cX7_init 419 = .ok (.aload_n 0, 1) := by decide +kernel
theorem dX7_init_420 : decode cX7_init 420 = .ok (.getfield 148, 3) := by decide +kernel
theorem dX7_init_423 : decode cX7_init 423 = .ok (.iload_n 1, 1) := by decide +kernel
theorem dX7_init_424 : decode cX7_init 424 = .ok (.iconst (-1), 1) := by decide +kernel
theorem dX7_init_425 : decode cX7_init 425 = .ok (.iastore, 1) := by decide +kernel
theorem dX7_init_426 : decode cX7_init 426 = .ok (.iinc 1 1, 3) := by decide +kernel
theorem dX7_init_429 : decode cX7_init 429 = .ok (.goto (-16), 3) := by decide +kernel
theorem dX7_init_432 : decode cX7_init 432 = .ok (.return_, 1) := by decide +kernel
theorem dX7_find_0 : decode cX7_find 0 = .ok (.aload_n 0, 1) := by decide +kernel
theorem dX7_find_1 : decode cX7_find 1 = .ok (.iload_n 1, 1) := by decide +kernel
theorem dX7_find_2 : decode cX7_find 2 = .ok (.putfield 154, 3) := by decide +kernel
theorem dX7_find_5 : decode cX7_find 5 = .ok (.aload_n 0, 1) := by decide +kernel
theorem dX7_find_6 : decode cX7_find 6 = .ok (.getfield 151, 3) := by decide +kernel
theorem dX7_find_9 : decode cX7_find 9 = .ok (.iload_n 1, 1) := by decide +kernel
theorem dX7_find_10 : decode cX7_find 10 = .ok (.dup2, 1) := by decide +kernel
theorem dX7_find_11 : decode cX7_find 11 = .ok (.iaload, 1) := by decide +kernel
theorem dX7_find_12 : decode cX7_find 12 = .ok (.iconst 1, 1) := by decide +kernel
theorem dX7_find_13 : decode cX7_find 13 = .ok (.iadd, 1) := by decide +kernel
theorem dX7_find_14 : decode cX7_find 14 = .ok (.iastore, 1) := by decide +kernel
theorem dX7_find_15 : decode cX7_find 15 = .ok (.bipush (-3), 2) := by decide +kernel
theorem dX7_find_17 : decode cX7_find 17 = .ok (.ireturn, 1) := by decide +kernel
theorem dX7_isSource_0 : decode cX7_isSource 0 = .ok (.iload_n 0, 1) := by decide +kernel
theorem dX7_isSource_1 : decode cX7_isSource 1 = .ok (.ifCond .lt 13, 3) := by decide +kernel
theorem dX7_isSource_4 : decode cX7_isSource 4 = .ok (.iload_n 0, 1) := by decide +kernel
theorem dX7_isSource_5 : decode cX7_isSource 5 = .ok (.bipush 16, 2) := by decide +kernel
theorem dX7_isSource_7 : decode cX7_isSource 7 = .ok (.if_icmp .ge 7, 3) := by decide +kernel
theorem dX7_isSource_10 : decode cX7_isSource 10 = .ok (.iconst 1, 1) := by decide +kernel
theorem dX7_isSource_11 : decode cX7_isSource 11 = .ok (.goto 4, 3) := by decide +kernel
theorem dX7_isSource_14 : decode cX7_isSource 14 = .ok (.iconst 0, 1) := by decide +kernel
theorem dX7_isSource_15 : decode cX7_isSource 15 = .ok (.ireturn, 1) := by decide +kernel
theorem dX7_isRule_0 : decode cX7_isRule 0 = .ok (.iload_n 1, 1) := by decide +kernel
theorem dX7_isRule_1 : decode cX7_isRule 1 = .ok (.ifCond .lt 15, 3) := by decide +kernel
theorem dX7_isRule_4 : decode cX7_isRule 4 = .ok (.iload_n 1, 1) := by decide +kernel
theorem dX7_isRule_5 : decode cX7_isRule 5 = .ok (.aload_n 0, 1) := by decide +kernel
theorem dX7_isRule_6 : decode cX7_isRule 6 = .ok (.getfield 157, 3) := by decide +kernel
theorem dX7_isRule_9 : decode cX7_isRule 9 = .ok (.if_icmp .ge 7, 3) := by decide +kernel
theorem dX7_isRule_12 : decode cX7_isRule 12 = .ok (.iconst 1, 1) := by decide +kernel
theorem dX7_isRule_13 : decode cX7_isRule 13 = .ok (.goto 4, 3) := by decide +kernel
theorem dX7_isRule_16 : decode cX7_isRule 16 = .ok (.iconst 0, 1) := by decide +kernel
theorem dX7_isRule_17 : decode cX7_isRule 17 = .ok (.ireturn, 1) := by decide +kernel
theorem dX7_isName_0 : decode cX7_isName 0 = .ok (.iload_n 0, 1) := by decide +kernel
theorem dX7_isName_1 : decode cX7_isName 1 = .ok (.ifCond .lt 13, 3) := by decide +kernel
theorem dX7_isName_4 : decode cX7_isName 4 = .ok (.iload_n 0, 1) := by decide +kernel
theorem dX7_isName_5 : decode cX7_isName 5 = .ok (.bipush 40, 2) := by decide +kernel
theorem dX7_isName_7 : decode cX7_isName 7 = .ok (.if_icmp .ge 7, 3) := by decide +kernel
theorem dX7_isName_10 : decode cX7_isName 10 = .ok (.iconst 1, 1) := by decide +kernel
theorem dX7_isName_11 : decode cX7_isName 11 = .ok (.goto 4, 3) := by decide +kernel
theorem dX7_isName_14 : decode cX7_isName 14 = .ok (.iconst 0, 1) := by decide +kernel
theorem dX7_isName_15 : decode cX7_isName 15 = .ok (.ireturn, 1) := by decide +kernel
theorem dX7_source_0 : decode cX7_source 0 = .ok (.iload_n 1, 1) := by decide +kernel
theorem dX7_source_1 : decode cX7_source 1 = .ok (.invokestatic 160, 3) := by decide +kernel
theorem dX7_source_4 : decode cX7_source 4 = .ok (.ifCond .ne 5, 3) := by decide +kernel
theorem dX7_source_7 : decode cX7_source 7 = .ok (.iconst (-1), 1) := by decide +kernel
theorem dX7_source_8 : decode cX7_source 8 = .ok (.ireturn, 1) := by decide +kernel
theorem dX7_source_9 : decode cX7_source 9 = .ok (.iload_n 2, 1) := by decide +kernel
theorem dX7_source_10 : decode cX7_source 10 = .ok (.ifCond .ge 9, 3) := by decide +kernel
theorem dX7_source_13 : decode cX7_source 13 = .ok (.aload_n 0, 1) := by decide +kernel
theorem dX7_source_14 : decode cX7_source 14 = .ok (.iconst 3, 1) := by decide +kernel
theorem dX7_source_15 : decode cX7_source 15 = .ok (.invokevirtual 164, 3) := by decide +kernel
theorem dX7_source_18 : decode cX7_source 18 = .ok (.ireturn, 1) := by decide +kernel
theorem dX7_source_19 : decode cX7_source 19 = .ok (.iload_n 2, 1) := by decide +kernel
theorem dX7_source_20 : decode cX7_source 20 = .ok (.bipush 16, 2) := by decide +kernel
theorem dX7_source_22 : decode cX7_source 22 = .ok (.if_icmp .le 5, 3) := by decide +kernel
theorem dX7_source_25 : decode cX7_source 25 = .ok (.iconst (-1), 1) := by decide +kernel
theorem dX7_source_26 : decode cX7_source 26 = .ok (.ireturn, 1) := by decide +kernel
theorem dX7_source_27 : decode cX7_source 27 = .ok (.aload_n 0, 1) := by decide +kernel
theorem dX7_source_28 : decode cX7_source 28 = .ok (.getfield 7, 3) := by decide +kernel
theorem dX7_source_31 : decode cX7_source 31 = .ok (.iload_n 1, 1) := by decide +kernel
theorem dX7_source_32 : decode cX7_source 32 = .ok (.iload_n 2, 1) := by decide +kernel
theorem dX7_source_33 : decode cX7_source 33 = .ok (.iastore, 1) := by decide +kernel
theorem dX7_source_34 : decode cX7_source 34 = .ok (.iconst 0, 1) := by decide +kernel
theorem dX7_source_35 : decode cX7_source 35 = .ok (.istore_n 3, 1) := by decide +kernel
theorem dX7_source_36 : decode cX7_source 36 = .ok (.iload_n 3, 1) := by decide +kernel
theorem dX7_source_37 : decode cX7_source 37 = .ok (.bipush 16, 2) := by decide +kernel
theorem dX7_source_39 : decode cX7_source 39 = .ok (.if_icmp .ge 21, 3) := by decide +kernel
theorem dX7_source_42 : decode cX7_source 42 = .ok (.aload_n 0, 1) := by decide +kernel
theorem dX7_source_43 : decode cX7_source 43 = .ok (.getfield 13, 3) := by decide +kernel
theorem dX7_source_46 : decode cX7_source 46 = .ok (.bipush 16, 2) := by decide +kernel
theorem dX7_source_48 : decode cX7_source 48 = .ok (.iload_n 1, 1) := by decide +kernel
theorem dX7_source_49 : decode cX7_source 49 = .ok (.imul, 1) := by decide +kernel
theorem dX7_source_50 : decode cX7_source 50 = .ok (.iload_n 3, 1) := by decide +kernel
theorem dX7_source_51 : decode cX7_source 51 = .ok (.iadd, 1) := by decide +kernel
theorem dX7_source_52 : decode cX7_source 52 = .ok (.iconst 0, 1) := by decide +kernel
theorem dX7_source_53 : decode cX7_source 53 = .ok (.iastore, 1) := by decide +kernel
theorem dX7_source_54 : decode cX7_source 54 = .ok (.iinc 3 1, 3) := by decide +kernel
theorem dX7_source_57 : decode cX7_source 57 = .ok (.goto (-21), 3) := by decide +kernel
theorem dX7_source_60 : decode cX7_source 60 = .ok (.iload_n 2, 1) := by decide +kernel
theorem dX7_source_61 : decode cX7_source 61 = .ok (.ireturn, 1) := by decide +kernel
theorem dX7_set_0 : decode cX7_set 0 = .ok (.iload_n 1, 1) := by decide +kernel
theorem dX7_set_1 : decode cX7_set 1 = .ok (.invokestatic 160, 3) := by decide +kernel
theorem dX7_set_4 : decode cX7_set 4 = .ok (.ifCond .ne 9, 3) := by decide +kernel
theorem dX7_set_7 : decode cX7_set 7 = .ok (.aload_n 0, 1) := by decide +kernel
theorem dX7_set_8 : decode cX7_set 8 = .ok (.iconst 2, 1) := by decide +kernel
theorem dX7_set_9 : decode cX7_set 9 = .ok (.invokevirtual 164, 3) := by decide +kernel
theorem dX7_set_12 : decode cX7_set 12 = .ok (.ireturn, 1) := by decide +kernel
theorem dX7_set_13 : decode cX7_set 13 = .ok (.aload_n 0, 1) := by decide +kernel
theorem dX7_set_14 : decode cX7_set 14 = .ok (.getfield 7, 3) := by decide +kernel
theorem dX7_set_17 : decode cX7_set 17 = .ok (.iload_n 1, 1) := by decide +kernel
theorem dX7_set_18 : decode cX7_set 18 = .ok (.iaload, 1) := by decide +kernel
theorem dX7_set_19 : decode cX7_set 19 = .ok (.iconst (-1), 1) := by decide +kernel
theorem dX7_set_20 : decode cX7_set 20 = .ok (.if_icmp .ne 9, 3) := by decide +kernel
theorem dX7_set_23 : decode cX7_set 23 = .ok (.aload_n 0, 1) := by decide +kernel
theorem dX7_set_24 : decode cX7_set 24 = .ok (.iconst 1, 1) := by decide +kernel
theorem dX7_set_25 : decode cX7_set 25 = .ok (.invokevirtual 164, 3) := by decide +kernel
theorem dX7_set_28 : decode cX7_set 28 = .ok (.ireturn, 1) := by decide +kernel
theorem dX7_set_29 : decode cX7_set 29 = .ok (.iload_n 2, 1) := by decide +kernel
theorem dX7_set_30 : decode cX7_set 30 = .ok (.ifCond .lt 13, 3) := by decide +kernel
theorem dX7_set_33 : decode cX7_set 33 = .ok (.iload_n 2, 1) := by decide +kernel
theorem dX7_set_34 : decode cX7_set 34 = .ok (.aload_n 0, 1) := by decide +kernel
theorem dX7_set_35 : decode cX7_set 35 = .ok (.getfield 7, 3) := by decide +kernel
theorem dX7_set_38 : decode cX7_set 38 = .ok (.iload_n 1, 1) := by decide +kernel
theorem dX7_set_39 : decode cX7_set 39 = .ok (.iaload, 1) := by decide +kernel
theorem dX7_set_40 : decode cX7_set 40 = .ok (.if_icmp .lt 9, 3) := by decide +kernel
theorem dX7_set_43 : decode cX7_set 43 = .ok (.aload_n 0, 1) := by decide +kernel
theorem dX7_set_44 : decode cX7_set 44 = .ok (.iconst 2, 1) := by decide +kernel
theorem dX7_set_45 : decode cX7_set 45 = .ok (.invokevirtual 164, 3) := by decide +kernel
theorem dX7_set_48 : decode cX7_set 48 = .ok (.ireturn, 1) := by decide +kernel
theorem dX7_set_49 : decode cX7_set 49 = .ok (.aload_n 0, 1) := by decide +kernel
theorem dX7_set_50 : decode cX7_set 50 = .ok (.getfield 13, 3) := by decide +kernel
theorem dX7_set_53 : decode cX7_set 53 = .ok (.bipush 16, 2) := by decide +kernel
theorem dX7_set_55 : decode cX7_set 55 = .ok (.iload_n 1, 1) := by decide +kernel
theorem dX7_set_56 : decode cX7_set 56 = .ok (.imul, 1) := by decide +kernel
theorem dX7_set_57 : decode cX7_set 57 = .ok (.iload_n 2, 1) := by decide +kernel
theorem dX7_set_58 : decode cX7_set 58 = .ok (.iadd, 1) := by decide +kernel
theorem dX7_set_59 : decode cX7_set 59 = .ok (.iload_n 3, 1) := by decide +kernel
theorem dX7_set_60 : decode cX7_set 60 = .ok (.iastore, 1) := by decide +kernel
theorem dX7_set_61 : decode cX7_set 61 = .ok (.iconst 1, 1) := by decide +kernel
theorem dX7_set_62 : decode cX7_set 62 = .ok (.ireturn, 1) := by decide +kernel
theorem dX7_miss_0 : decode cX7_miss 0 = .ok (.iload_n 1, 1) := by decide +kernel
theorem dX7_miss_1 : decode cX7_miss 1 = .ok (.invokestatic 160, 3) := by decide +kernel
theorem dX7_miss_4 : decode cX7_miss 4 = .ok (.ifCond .ne 5, 3) := by decide +kernel
theorem dX7_miss_7 : decode cX7_miss 7 = .ok (.iconst (-1), 1) := by decide +kernel
theorem dX7_miss_8 : decode cX7_miss 8 = .ok (.ireturn, 1) := by decide +kernel
theorem dX7_miss_9 : decode cX7_miss 9 = .ok (.aload_n 0, 1) := by decide +kernel
theorem dX7_miss_10 : decode cX7_miss 10 = .ok (.getfield 7, 3) := by decide +kernel
theorem dX7_miss_13 : decode cX7_miss 13 = .ok (.iload_n 1, 1) := by decide +kernel
theorem dX7_miss_14 : decode cX7_miss 14 = .ok (.iaload, 1) := by decide +kernel
theorem dX7_miss_15 : decode cX7_miss 15 = .ok (.iconst (-1), 1) := by decide +kernel
theorem dX7_miss_16 : decode cX7_miss 16 = .ok (.if_icmp .ne 7, 3) := by decide +kernel
theorem dX7_miss_19 : decode cX7_miss 19 = .ok (.iconst 0, 1) := by decide +kernel
theorem dX7_miss_20 : decode cX7_miss 20 = .ok (.goto 4, 3) := by decide +kernel
theorem dX7_miss_23 : decode cX7_miss 23 = .ok (.iconst 1, 1) := by decide +kernel
theorem dX7_miss_24 : decode cX7_miss 24 = .ok (.istore_n 2, 1) := by decide +kernel
theorem dX7_miss_25 : decode cX7_miss 25 = .ok (.aload_n 0, 1) := by decide +kernel
theorem dX7_miss_26 : decode cX7_miss 26 = .ok (.getfield 7, 3) := by decide +kernel
theorem dX7_miss_29 : decode cX7_miss 29 = .ok (.iload_n 1, 1) := by decide +kernel
theorem dX7_miss_30 : decode cX7_miss 30 = .ok (.iconst (-1), 1) := by decide +kernel
theorem dX7_miss_31 : decode cX7_miss 31 = .ok (.iastore, 1) := by decide +kernel
theorem dX7_miss_32 : decode cX7_miss 32 = .ok (.iload_n 2, 1) := by decide +kernel
theorem dX7_miss_33 : decode cX7_miss 33 = .ok (.ireturn, 1) := by decide +kernel
theorem dX7_copy_0 : decode cX7_copy 0 = .ok (.iload_n 1, 1) := by decide +kernel
theorem dX7_copy_1 : decode cX7_copy 1 = .ok (.invokestatic 160, 3) := by decide +kernel
theorem dX7_copy_4 : decode cX7_copy 4 = .ok (.ifCond .eq 10, 3) := by decide +kernel
theorem dX7_copy_7 : decode cX7_copy 7 = .ok (.iload_n 3, 1) := by decide +kernel
theorem dX7_copy_8 : decode cX7_copy 8 = .ok (.invokestatic 160, 3) := by decide +kernel
theorem dX7_copy_11 : decode cX7_copy 11 = .ok (.ifCond .ne 5, 3) := by decide +kernel
theorem dX7_copy_14 : decode cX7_copy 14 = .ok (.iconst (-1), 1) := by decide +kernel
theorem dX7_copy_15 : decode cX7_copy 15 = .ok (.ireturn, 1) := by decide +kernel
theorem dX7_copy_16 : decode cX7_copy 16 = .ok (.aload_n 0, 1) := by decide +kernel
theorem dX7_copy_17 : decode cX7_copy 17 = .ok (.getfield 7, 3) := by decide +kernel
theorem dX7_copy_20 : decode cX7_copy 20 = .ok (.iload_n 1, 1) := by decide +kernel
theorem dX7_copy_21 : decode cX7_copy 21 = .ok (.iaload, 1) := by decide +kernel
theorem dX7_copy_22 : decode cX7_copy 22 = .ok (.iconst (-1), 1) := by decide +kernel
theorem dX7_copy_23 : decode cX7_copy 23 = .ok (.if_icmp .eq 13, 3) := by decide +kernel
theorem dX7_copy_26 : decode cX7_copy 26 = .ok (.aload_n 0, 1) := by decide +kernel
theorem dX7_copy_27 : decode cX7_copy 27 = .ok (.getfield 7, 3) := by decide +kernel
theorem dX7_copy_30 : decode cX7_copy 30 = .ok (.iload_n 3, 1) := by decide +kernel
theorem dX7_copy_31 : decode cX7_copy 31 = .ok (.iaload, 1) := by decide +kernel
theorem dX7_copy_32 : decode cX7_copy 32 = .ok (.iconst (-1), 1) := by decide +kernel
theorem dX7_copy_33 : decode cX7_copy 33 = .ok (.if_icmp .ne 9, 3) := by decide +kernel
theorem dX7_copy_36 : decode cX7_copy 36 = .ok (.aload_n 0, 1) := by decide +kernel
theorem dX7_copy_37 : decode cX7_copy 37 = .ok (.iconst 1, 1) := by decide +kernel
theorem dX7_copy_38 : decode cX7_copy 38 = .ok (.invokevirtual 164, 3) := by decide +kernel
theorem dX7_copy_41 : decode cX7_copy 41 = .ok (.ireturn, 1) := by decide +kernel
theorem dX7_copy_42 : decode cX7_copy 42 = .ok (.iload_n 2, 1) := by decide +kernel
theorem dX7_copy_43 : decode cX7_copy 43 = .ok (.ifCond .lt 48, 3) := by decide +kernel
theorem dX7_copy_46 : decode cX7_copy 46 = .ok (.iload 4, 2) := by decide +kernel
theorem dX7_copy_48 : decode cX7_copy 48 = .ok (.ifCond .lt 43, 3) := by decide +kernel
theorem dX7_copy_51 : decode cX7_copy 51 = .ok (.iload 5, 2) := by decide +kernel
theorem dX7_copy_53 : decode cX7_copy 53 = .ok (.ifCond .lt 38, 3) := by decide +kernel
theorem dX7_copy_56 : decode cX7_copy 56 = .ok (.iload_n 2, 1) := by decide +kernel
theorem dX7_copy_57 : decode cX7_copy 57 = .ok (.i2l, 1) := by decide +kernel
theorem dX7_copy_58 : decode cX7_copy 58 = .ok (.iload 5, 2) := by decide +kernel
theorem dX7_copy_60 : decode cX7_copy 60 = .ok (.i2l, 1) := by decide +kernel
theorem dX7_copy_61 : decode cX7_copy 61 = .ok (.ladd, 1) := by decide +kernel
theorem dX7_copy_62 : decode cX7_copy 62 = .ok (.aload_n 0, 1) := by decide +kernel
theorem dX7_copy_63 : decode cX7_copy 63 = .ok (.getfield 7, 3) := by decide +kernel
theorem dX7_copy_66 : decode cX7_copy 66 = .ok (.iload_n 1, 1) := by decide +kernel
theorem dX7_copy_67 : decode cX7_copy 67 = .ok (.iaload, 1) := by decide +kernel
theorem dX7_copy_68 : decode cX7_copy 68 = .ok (.i2l, 1) := by decide +kernel
theorem dX7_copy_69 : decode cX7_copy 69 = .ok (.lcmp, 1) := by decide +kernel
theorem dX7_copy_70 : decode cX7_copy 70 = .ok (.ifCond .gt 21, 3) := by decide +kernel
theorem dX7_copy_73 : decode cX7_copy 73 = .ok (.iload 4, 2) := by decide +kernel
theorem dX7_copy_75 : decode cX7_copy 75 = .ok (.i2l, 1) := by decide +kernel
theorem dX7_copy_76 : decode cX7_copy 76 = .ok (.iload 5, 2) := by decide +kernel
theorem dX7_copy_78 : decode cX7_copy 78 = .ok (.i2l, 1) := by decide +kernel
theorem dX7_copy_79 : decode cX7_copy 79 = .ok (.ladd, 1) := by decide +kernel
theorem dX7_copy_80 : decode cX7_copy 80 = .ok (.aload_n 0, 1) := by decide +kernel
theorem dX7_copy_81 : decode cX7_copy 81 = .ok (.getfield 7, 3) := by decide +kernel
theorem dX7_copy_84 : decode cX7_copy 84 = .ok (.iload_n 3, 1) := by decide +kernel
theorem dX7_copy_85 : decode cX7_copy 85 = .ok (.iaload, 1) := by decide +kernel
theorem dX7_copy_86 : decode cX7_copy 86 = .ok (.i2l, 1) := by decide +kernel
theorem dX7_copy_87 : decode cX7_copy 87 = .ok (.lcmp, 1) := by decide +kernel
theorem dX7_copy_88 : decode cX7_copy 88 = .ok (.ifCond .le 9, 3) := by decide +kernel
theorem dX7_copy_91 : decode cX7_copy 91 = .ok (.aload_n 0, 1) := by decide +kernel
theorem dX7_copy_92 : decode cX7_copy 92 = .ok (.iconst 4, 1) := by decide +kernel
theorem dX7_copy_93 : decode cX7_copy 93 = .ok (.invokevirtual 164, 3) := by decide +kernel
theorem dX7_copy_96 : decode cX7_copy 96 = .ok (.ireturn, 1) := by decide +kernel
theorem dX7_copy_97 : decode cX7_copy 97 = .ok (.iconst 0, 1) := by decide +kernel
theorem dX7_copy_98 : decode cX7_copy 98 = .ok (.istore 6, 2) := by decide +kernel
theorem dX7_copy_100 : decode cX7_copy 100 = .ok (.iload 6, 2) := by decide +kernel
theorem dX7_copy_102 : decode cX7_copy 102 = .ok (.iload 5, 2) := by decide +kernel
theorem dX7_copy_104 : decode cX7_copy 104 = .ok (.if_icmp .ge 30, 3) := by decide +kernel
theorem dX7_copy_107 : decode cX7_copy 107 = .ok (.aload_n 0, 1) := by decide +kernel
theorem dX7_copy_108 : decode cX7_copy 108 = .ok (.getfield 135, 3) := by decide +kernel
theorem dX7_copy_111 : decode cX7_copy 111 = .ok (.iload 6, 2) := by decide +kernel
theorem dX7_copy_113 : decode cX7_copy 113 = .ok (.aload_n 0, 1) := by decide +kernel
theorem dX7_copy_114 : decode cX7_copy 114 = .ok (.getfield 13, 3) := by decide +kernel
theorem dX7_copy_117 : decode cX7_copy 117 = .ok (.bipush 16, 2) := by decide +kernel
theorem dX7_copy_119 : decode cX7_copy 119 = .ok (.iload_n 1, 1) := by decide +kernel
theorem dX7_copy_120 : decode cX7_copy 120 = .ok (.imul, 1) := by decide +kernel
theorem dX7_copy_121 : decode cX7_copy 121 = .ok (.iload_n 2, 1) := by decide +kernel
theorem dX7_copy_122 : decode cX7_copy 122 = .ok (.iadd, 1) := by decide +kernel
theorem dX7_copy_123 : decode cX7_copy 123 = .ok (.iload 6, 2) := by decide +kernel
theorem dX7_copy_125 : decode cX7_copy 125 = .ok (.iadd, 1) := by decide +kernel
theorem dX7_copy_126 : decode cX7_copy 126 = .ok (.iaload, 1) := by decide +kernel
theorem dX7_copy_127 : decode cX7_copy 127 = .ok (.iastore, 1) := by decide +kernel
theorem dX7_copy_128 : decode cX7_copy 128 = .ok (.iinc 6 1, 3) := by decide +kernel
theorem dX7_copy_131 : decode cX7_copy 131 = .ok (.goto (-31), 3) := by decide +kernel
theorem dX7_copy_134 : decode cX7_copy 134 = .ok (.iconst 0, 1) := by decide +kernel
theorem dX7_copy_135 : decode cX7_copy 135 = .ok (.istore 6, 2) := by decide +kernel
theorem dX7_copy_137 : decode cX7_copy 137 = .ok (.iload 6, 2) := by decide +kernel
theorem dX7_copy_139 : decode cX7_copy 139 = .ok (.iload 5, 2) := by decide +kernel
theorem dX7_copy_141 : decode cX7_copy 141 = .ok (.if_icmp .ge 31, 3) := by decide +kernel
theorem dX7_copy_144 : decode cX7_copy 144 = .ok (.aload_n 0, 1) := by decide +kernel
theorem dX7_copy_145 : decode cX7_copy 145 = .ok (.getfield 13, 3) := by decide +kernel
theorem dX7_copy_148 : decode cX7_copy 148 = .ok (.bipush 16, 2) := by decide +kernel
theorem dX7_copy_150 : decode cX7_copy 150 = .ok (.iload_n 3, 1) := by decide +kernel
theorem dX7_copy_151 : decode cX7_copy 151 = .ok (.imul, 1) := by decide +kernel
theorem dX7_copy_152 : decode cX7_copy 152 = .ok (.iload 4, 2) := by decide +kernel
theorem dX7_copy_154 : decode cX7_copy 154 = .ok (.iadd, 1) := by decide +kernel
theorem dX7_copy_155 : decode cX7_copy 155 = .ok (.iload 6, 2) := by decide +kernel
theorem dX7_copy_157 : decode cX7_copy 157 = .ok (.iadd, 1) := by decide +kernel
theorem dX7_copy_158 : decode cX7_copy 158 = .ok (.aload_n 0, 1) := by decide +kernel
theorem dX7_copy_159 : decode cX7_copy 159 = .ok (.getfield 135, 3) := by decide +kernel
theorem dX7_copy_162 : decode cX7_copy 162 = .ok (.iload 6, 2) := by decide +kernel
theorem dX7_copy_164 : decode cX7_copy 164 = .ok (.iaload, 1) := by decide +kernel
theorem dX7_copy_165 : decode cX7_copy 165 = .ok (.iastore, 1) := by decide +kernel
theorem dX7_copy_166 : decode cX7_copy 166 = .ok (.iinc 6 1, 3) := by decide +kernel
theorem dX7_copy_169 : decode cX7_copy 169 = .ok (.goto (-32), 3) := by decide +kernel
theorem dX7_copy_172 : decode cX7_copy 172 = .ok (.iload 5, 2) := by decide +kernel
theorem dX7_copy_174 : decode cX7_copy 174 = .ok (.ireturn, 1) := by decide +kernel
theorem dX7_size_0 : decode cX7_size 0 = .ok (.iload_n 1, 1) := by decide +kernel
theorem dX7_size_1 : decode cX7_size 1 = .ok (.invokestatic 160, 3) := by decide +kernel
theorem dX7_size_4 : decode cX7_size 4 = .ok (.ifCond .ne 9, 3) := by decide +kernel
theorem dX7_size_7 : decode cX7_size 7 = .ok (.aload_n 0, 1) := by decide +kernel
theorem dX7_size_8 : decode cX7_size 8 = .ok (.iconst 2, 1) := by decide +kernel
theorem dX7_size_9 : decode cX7_size 9 = .ok (.invokevirtual 164, 3) := by decide +kernel
theorem dX7_size_12 : decode cX7_size 12 = .ok (.ireturn, 1) := by decide +kernel
theorem dX7_size_13 : decode cX7_size 13 = .ok (.aload_n 0, 1) := by decide +kernel
theorem dX7_size_14 : decode cX7_size 14 = .ok (.getfield 7, 3) := by decide +kernel
theorem dX7_size_17 : decode cX7_size 17 = .ok (.iload_n 1, 1) := by decide +kernel
theorem dX7_size_18 : decode cX7_size 18 = .ok (.iaload, 1) := by decide +kernel
theorem dX7_size_19 : decode cX7_size 19 = .ok (.iconst (-1), 1) := by decide +kernel
theorem dX7_size_20 : decode cX7_size 20 = .ok (.if_icmp .ne 11, 3) := by decide +kernel
theorem dX7_size_23 : decode cX7_size 23 = .ok (.aload_n 0, 1) := by decide +kernel
theorem dX7_size_24 : decode cX7_size 24 = .ok (.iconst 1, 1) := by decide +kernel
theorem dX7_size_25 : decode cX7_size 25 = .ok (.invokevirtual 164, 3) := by decide +kernel
theorem dX7_size_28 : decode cX7_size 28 = .ok (.goto 9, 3) := by decide +kernel
theorem dX7_size_31 : decode cX7_size 31 = .ok (.aload_n 0, 1) := by decide +kernel
theorem dX7_size_32 : decode cX7_size 32 = .ok (.getfield 7, 3) := by decide +kernel
theorem dX7_size_35 : decode cX7_size 35 = .ok (.iload_n 1, 1) := by decide +kernel
theorem dX7_size_36 : decode cX7_size 36 = .ok (.iaload, 1) := by decide +kernel
theorem dX7_size_37 : decode cX7_size 37 = .ok (.ireturn, 1) := by decide +kernel
theorem dX7_told_0 : decode cX7_told 0 = .ok (.iload_n 1, 1) := by decide +kernel
theorem dX7_told_1 : decode cX7_told 1 = .ok (.invokestatic 160, 3) := by decide +kernel
theorem dX7_told_4 : decode cX7_told 4 = .ok (.ifCond .eq 31, 3) := by decide +kernel
theorem dX7_told_7 : decode cX7_told 7 = .ok (.iload_n 2, 1) := by decide +kernel
theorem dX7_told_8 : decode cX7_told 8 = .ok (.ifCond .lt 27, 3) := by decide +kernel
theorem dX7_told_11 : decode cX7_told 11 = .ok (.iload_n 2, 1) := by decide +kernel
theorem dX7_told_12 : decode cX7_told 12 = .ok (.aload_n 0, 1) := by decide +kernel
theorem dX7_told_13 : decode cX7_told 13 = .ok (.getfield 7, 3) := by decide +kernel
theorem dX7_told_16 : decode cX7_told 16 = .ok (.iload_n 1, 1) := by decide +kernel
theorem dX7_told_17 : decode cX7_told 17 = .ok (.iaload, 1) := by decide +kernel
theorem dX7_told_18 : decode cX7_told 18 = .ok (.if_icmp .ge 17, 3) := by decide +kernel
theorem dX7_told_21 : decode cX7_told 21 = .ok (.aload_n 0, 1) := by decide +kernel
theorem dX7_told_22 : decode cX7_told 22 = .ok (.getfield 13, 3) := by decide +kernel
theorem dX7_told_25 : decode cX7_told 25 = .ok (.bipush 16, 2) := by decide +kernel
theorem dX7_told_27 : decode cX7_told 27 = .ok (.iload_n 1, 1) := by decide +kernel
theorem dX7_told_28 : decode cX7_told 28 = .ok (.imul, 1) := by decide +kernel
theorem dX7_told_29 : decode cX7_told 29 = .ok (.iload_n 2, 1) := by decide +kernel
theorem dX7_told_30 : decode cX7_told 30 = .ok (.iadd, 1) := by decide +kernel
theorem dX7_told_31 : decode cX7_told 31 = .ok (.iaload, 1) := by decide +kernel
theorem dX7_told_32 : decode cX7_told 32 = .ok (.goto 4, 3) := by decide +kernel
theorem dX7_told_35 : decode cX7_told 35 = .ok (.iconst 0, 1) := by decide +kernel
theorem dX7_told_36 : decode cX7_told 36 = .ok (.ireturn, 1) := by decide +kernel
theorem dX7_rule_0 : decode cX7_rule 0 = .ok (.iload_n 1, 1) := by decide +kernel
theorem dX7_rule_1 : decode cX7_rule 1 = .ok (.iconst 1, 1) := by decide +kernel
theorem dX7_rule_2 : decode cX7_rule 2 = .ok (.if_icmp .lt 9, 3) := by decide +kernel
theorem dX7_rule_5 : decode cX7_rule 5 = .ok (.iload_n 1, 1) := by decide +kernel
theorem dX7_rule_6 : decode cX7_rule 6 = .ok (.bipush 6, 2) := by decide +kernel
theorem dX7_rule_8 : decode cX7_rule 8 = .ok (.if_icmp .le 5, 3) := by decide +kernel
theorem dX7_rule_11 : decode cX7_rule 11 = .ok (.iconst (-1), 1) := by decide +kernel
theorem dX7_rule_12 : decode cX7_rule 12 = .ok (.ireturn, 1) := by decide +kernel
theorem dX7_rule_13 : decode cX7_rule 13 = .ok (.aload_n 0, 1) := by decide +kernel
theorem dX7_rule_14 : decode cX7_rule 14 = .ok (.getfield 157, 3) := by decide +kernel
theorem dX7_rule_17 : decode cX7_rule 17 = .ok (.bipush 24, 2) := by decide +kernel
theorem dX7_rule_19 : decode cX7_rule 19 = .ok (.if_icmp .ne 6, 3) := by decide +kernel
theorem dX7_rule_22 : decode cX7_rule 22 = .ok (.bipush (-2), 2) := by decide +kernel
theorem dX7_rule_24 : decode cX7_rule 24 = .ok (.ireturn, 1) := by decide +kernel
theorem dX7_rule_25 : decode cX7_rule 25 = .ok (.aload_n 0, 1) := by decide +kernel
theorem dX7_rule_26 : decode cX7_rule 26 = .ok (.getfield 16, 3) := by decide +kernel
theorem dX7_rule_29 : decode cX7_rule 29 = .ok (.aload_n 0, 1) := by decide +kernel
theorem dX7_rule_30 : decode cX7_rule 30 = .ok (.getfield 157, 3) := by decide +kernel
theorem dX7_rule_33 : decode cX7_rule 33 = .ok (.iload_n 1, 1) := by decide +kernel
theorem dX7_rule_34 : decode cX7_rule 34 = .ok (.iastore, 1) := by decide +kernel
theorem dX7_rule_35 : decode cX7_rule 35 = .ok (.aload_n 0, 1) := by decide +kernel
theorem dX7_rule_36 : decode cX7_rule 36 = .ok (.getfield 25, 3) := by decide +kernel
theorem dX7_rule_39 : decode cX7_rule 39 = .ok (.aload_n 0, 1) := by decide +kernel
theorem dX7_rule_40 : decode cX7_rule 40 = .ok (.getfield 157, 3) := by decide +kernel
theorem dX7_rule_43 : decode cX7_rule 43 = .ok (.iload_n 2, 1) := by decide +kernel
theorem dX7_rule_44 : decode cX7_rule 44 = .ok (.bastore, 1) := by decide +kernel
theorem dX7_rule_45 : decode cX7_rule 45 = .ok (.aload_n 0, 1) := by decide +kernel
theorem dX7_rule_46 : decode cX7_rule 46 = .ok (.dup, 1) := by decide +kernel
theorem dX7_rule_47 : decode cX7_rule 47 = .ok (.getfield 157, 3) := by decide +kernel
theorem dX7_rule_50 : decode cX7_rule 50 = .ok (.iconst 1, 1) := by decide +kernel
theorem dX7_rule_51 : decode cX7_rule 51 = .ok (.iadd, 1) := by decide +kernel
theorem dX7_rule_52 : decode cX7_rule 52 = .ok (.putfield 157, 3) := by decide +kernel
theorem dX7_rule_55 : decode cX7_rule 55 = .ok (.aload_n 0, 1) := by decide +kernel
theorem dX7_rule_56 : decode cX7_rule 56 = .ok (.getfield 157, 3) := by decide +kernel
theorem dX7_rule_59 : decode cX7_rule 59 = .ok (.iconst 1, 1) := by decide +kernel
theorem dX7_rule_60 : decode cX7_rule 60 = .ok (.isub, 1) := by decide +kernel
theorem dX7_rule_61 : decode cX7_rule 61 = .ok (.ireturn, 1) := by decide +kernel
theorem dX7_input_0 : decode cX7_input 0 = .ok (.aload_n 0, 1) := by decide +kernel
theorem dX7_input_1 : decode cX7_input 1 = .ok (.iload_n 1, 1) := by decide +kernel
theorem dX7_input_2 : decode cX7_input 2 = .ok (.invokevirtual 168, 3) := by decide +kernel
theorem dX7_input_5 : decode cX7_input 5 = .ok (.ifCond .eq 10, 3) := by decide +kernel
theorem dX7_input_8 : decode cX7_input 8 = .ok (.iload_n 2, 1) := by decide +kernel
theorem dX7_input_9 : decode cX7_input 9 = .ok (.invokestatic 171, 3) := by decide +kernel
theorem dX7_input_12 : decode cX7_input 12 = .ok (.ifCond .ne 5, 3) := by decide +kernel
theorem dX7_input_15 : decode cX7_input 15 = .ok (.iconst (-1), 1) := by decide +kernel
theorem dX7_input_16 : decode cX7_input 16 = .ok (.ireturn, 1) := by decide +kernel
theorem dX7_input_17 : decode cX7_input 17 = .ok (.aload_n 0, 1) := by decide +kernel
theorem dX7_input_18 : decode cX7_input 18 = .ok (.getfield 19, 3) := by decide +kernel
theorem dX7_input_21 : decode cX7_input 21 = .ok (.iload_n 1, 1) := by decide +kernel
theorem dX7_input_22 : decode cX7_input 22 = .ok (.iaload, 1) := by decide +kernel
theorem dX7_input_23 : decode cX7_input 23 = .ok (.bipush 6, 2) := by decide +kernel
theorem dX7_input_25 : decode cX7_input 25 = .ok (.if_icmp .ne 6, 3) := by decide +kernel
theorem dX7_input_28 : decode cX7_input 28 = .ok (.bipush (-2), 2) := by decide +kernel
theorem dX7_input_30 : decode cX7_input 30 = .ok (.ireturn, 1) := by decide +kernel
theorem dX7_input_31 : decode cX7_input 31 = .ok (.aload_n 0, 1) := by decide +kernel
theorem dX7_input_32 : decode cX7_input 32 = .ok (.getfield 22, 3) := by decide +kernel
theorem dX7_input_35 : decode cX7_input 35 = .ok (.bipush 6, 2) := by decide +kernel
theorem dX7_input_37 : decode cX7_input 37 = .ok (.iload_n 1, 1) := by decide +kernel
theorem dX7_input_38 : decode cX7_input 38 = .ok (.imul, 1) := by decide +kernel
theorem dX7_input_39 : decode cX7_input 39 = .ok (.aload_n 0, 1) := by decide +kernel
theorem dX7_input_40 : decode cX7_input 40 = .ok (.getfield 19, 3) := by decide +kernel
theorem dX7_input_43 : decode cX7_input 43 = .ok (.iload_n 1, 1) := by decide +kernel
theorem dX7_input_44 : decode cX7_input 44 = .ok (.iaload, 1) := by decide +kernel
theorem dX7_input_45 : decode cX7_input 45 = .ok (.iadd, 1) := by decide +kernel
theorem dX7_input_46 : decode cX7_input 46 = .ok (.iload_n 2, 1) := by decide +kernel
theorem dX7_input_47 : decode cX7_input 47 = .ok (.iastore, 1) := by decide +kernel
theorem dX7_input_48 : decode cX7_input 48 = .ok (.aload_n 0, 1) := by decide +kernel
theorem dX7_input_49 : decode cX7_input 49 = .ok (.getfield 19, 3) := by decide +kernel
theorem dX7_input_52 : decode cX7_input 52 = .ok (.iload_n 1, 1) := by decide +kernel
theorem dX7_input_53 : decode cX7_input 53 = .ok (.dup2, 1) := by decide +kernel
theorem dX7_input_54 : decode cX7_input 54 = .ok (.iaload, 1) := by decide +kernel
theorem dX7_input_55 : decode cX7_input 55 = .ok (.iconst 1, 1) := by decide +kernel
theorem dX7_input_56 : decode cX7_input 56 = .ok (.iadd, 1) := by decide +kernel
theorem dX7_input_57 : decode cX7_input 57 = .ok (.iastore, 1) := by decide +kernel
theorem dX7_input_58 : decode cX7_input 58 = .ok (.aload_n 0, 1) := by decide +kernel
theorem dX7_input_59 : decode cX7_input 59 = .ok (.getfield 29, 3) := by decide +kernel
theorem dX7_input_62 : decode cX7_input 62 = .ok (.iload_n 1, 1) := by decide +kernel
theorem dX7_input_63 : decode cX7_input 63 = .ok (.iconst 0, 1) := by decide +kernel
theorem dX7_input_64 : decode cX7_input 64 = .ok (.iastore, 1) := by decide +kernel
theorem dX7_input_65 : decode cX7_input 65 = .ok (.aload_n 0, 1) := by decide +kernel
theorem dX7_input_66 : decode cX7_input 66 = .ok (.getfield 19, 3) := by decide +kernel
theorem dX7_input_69 : decode cX7_input 69 = .ok (.iload_n 1, 1) := by decide +kernel
theorem dX7_input_70 : decode cX7_input 70 = .ok (.iaload, 1) := by decide +kernel
theorem dX7_input_71 : decode cX7_input 71 = .ok (.ireturn, 1) := by decide +kernel
theorem dX7_turn_0 : decode cX7_turn 0 = .ok (.aload_n 0, 1) := by decide +kernel
theorem dX7_turn_1 : decode cX7_turn 1 = .ok (.iload_n 1, 1) := by decide +kernel
theorem dX7_turn_2 : decode cX7_turn 2 = .ok (.invokevirtual 168, 3) := by decide +kernel
theorem dX7_turn_5 : decode cX7_turn 5 = .ok (.ifCond .eq 24, 3) := by decide +kernel
theorem dX7_turn_8 : decode cX7_turn 8 = .ok (.iload_n 2, 1) := by decide +kernel
theorem dX7_turn_9 : decode cX7_turn 9 = .ok (.ifCond .lt 20, 3) := by decide +kernel
theorem dX7_turn_12 : decode cX7_turn 12 = .ok (.iload_n 2, 1) := by decide +kernel
theorem dX7_turn_13 : decode cX7_turn 13 = .ok (.aload_n 0, 1) := by decide +kernel
theorem dX7_turn_14 : decode cX7_turn 14 = .ok (.getfield 19, 3) := by decide +kernel
theorem dX7_turn_17 : decode cX7_turn 17 = .ok (.iload_n 1, 1) := by decide +kernel
theorem dX7_turn_18 : decode cX7_turn 18 = .ok (.iaload, 1) := by decide +kernel
theorem dX7_turn_19 : decode cX7_turn 19 = .ok (.if_icmp .ge 10, 3) := by decide +kernel
theorem dX7_turn_22 : decode cX7_turn 22 = .ok (.iload_n 3, 1) := by decide +kernel
theorem dX7_turn_23 : decode cX7_turn 23 = .ok (.invokestatic 171, 3) := by decide +kernel
theorem dX7_turn_26 : decode cX7_turn 26 = .ok (.ifCond .ne 5, 3) := by decide +kernel
theorem dX7_turn_29 : decode cX7_turn 29 = .ok (.iconst (-1), 1) := by decide +kernel
theorem dX7_turn_30 : decode cX7_turn 30 = .ok (.ireturn, 1) := by decide +kernel
theorem dX7_turn_31 : decode cX7_turn 31 = .ok (.aload_n 0, 1) := by decide +kernel
theorem dX7_turn_32 : decode cX7_turn 32 = .ok (.getfield 22, 3) := by decide +kernel
theorem dX7_turn_35 : decode cX7_turn 35 = .ok (.bipush 6, 2) := by decide +kernel
theorem dX7_turn_37 : decode cX7_turn 37 = .ok (.iload_n 1, 1) := by decide +kernel
theorem dX7_turn_38 : decode cX7_turn 38 = .ok (.imul, 1) := by decide +kernel
theorem dX7_turn_39 : decode cX7_turn 39 = .ok (.iload_n 2, 1) := by decide +kernel
theorem dX7_turn_40 : decode cX7_turn 40 = .ok (.iadd, 1) := by decide +kernel
theorem dX7_turn_41 : decode cX7_turn 41 = .ok (.iaload, 1) := by decide +kernel
theorem dX7_turn_42 : decode cX7_turn 42 = .ok (.iload_n 3, 1) := by decide +kernel
theorem dX7_turn_43 : decode cX7_turn 43 = .ok (.if_icmp .ne 5, 3) := by decide +kernel
theorem dX7_turn_46 : decode cX7_turn 46 = .ok (.iconst 0, 1) := by decide +kernel
theorem dX7_turn_47 : decode cX7_turn 47 = .ok (.ireturn, 1) := by decide +kernel
theorem dX7_turn_48 : decode cX7_turn 48 = .ok (.aload_n 0, 1) := by decide +kernel
theorem dX7_turn_49 : decode cX7_turn 49 = .ok (.getfield 22, 3) := by decide +kernel
theorem dX7_turn_52 : decode cX7_turn 52 = .ok (.bipush 6, 2) := by decide +kernel
theorem dX7_turn_54 : decode cX7_turn 54 = .ok (.iload_n 1, 1) := by decide +kernel
theorem dX7_turn_55 : decode cX7_turn 55 = .ok (.imul, 1) := by decide +kernel
theorem dX7_turn_56 : decode cX7_turn 56 = .ok (.iload_n 2, 1) := by decide +kernel
theorem dX7_turn_57 : decode cX7_turn 57 = .ok (.iadd, 1) := by decide +kernel
theorem dX7_turn_58 : decode cX7_turn 58 = .ok (.iload_n 3, 1) := by decide +kernel
theorem dX7_turn_59 : decode cX7_turn 59 = .ok (.iastore, 1) := by decide +kernel
theorem dX7_turn_60 : decode cX7_turn 60 = .ok (.aload_n 0, 1) := by decide +kernel
theorem dX7_turn_61 : decode cX7_turn 61 = .ok (.getfield 29, 3) := by decide +kernel
theorem dX7_turn_64 : decode cX7_turn 64 = .ok (.iload_n 1, 1) := by decide +kernel
theorem dX7_turn_65 : decode cX7_turn 65 = .ok (.iconst 0, 1) := by decide +kernel
theorem dX7_turn_66 : decode cX7_turn 66 = .ok (.iastore, 1) := by decide +kernel
theorem dX7_turn_67 : decode cX7_turn 67 = .ok (.iconst 1, 1) := by decide +kernel
theorem dX7_turn_68 : decode cX7_turn 68 = .ok (.ireturn, 1) := by decide +kernel
theorem dX7_become_0 : decode cX7_become 0 = .ok (.aload_n 0, 1) := by decide +kernel
theorem dX7_become_1 : decode cX7_become 1 = .ok (.iload_n 1, 1) := by decide +kernel
theorem dX7_become_2 : decode cX7_become 2 = .ok (.invokevirtual 168, 3) := by decide +kernel
theorem dX7_become_5 : decode cX7_become 5 = .ok (.ifCond .eq 14, 3) := by decide +kernel
theorem dX7_become_8 : decode cX7_become 8 = .ok (.iload_n 2, 1) := by decide +kernel
theorem dX7_become_9 : decode cX7_become 9 = .ok (.iconst 1, 1) := by decide +kernel
theorem dX7_become_10 : decode cX7_become 10 = .ok (.if_icmp .lt 9, 3) := by decide +kernel
theorem dX7_become_13 : decode cX7_become 13 = .ok (.iload_n 2, 1) := by decide +kernel
theorem dX7_become_14 : decode cX7_become 14 = .ok (.bipush 6, 2) := by decide +kernel
theorem dX7_become_16 : decode cX7_become 16 = .ok (.if_icmp .le 5, 3) := by decide +kernel
theorem dX7_become_19 : decode cX7_become 19 = .ok (.iconst (-1), 1) := by decide +kernel
theorem dX7_become_20 : decode cX7_become 20 = .ok (.ireturn, 1) := by decide +kernel
theorem dX7_become_21 : decode cX7_become 21 = .ok (.aload_n 0, 1) := by decide +kernel
theorem dX7_become_22 : decode cX7_become 22 = .ok (.getfield 16, 3) := by decide +kernel
theorem dX7_become_25 : decode cX7_become 25 = .ok (.iload_n 1, 1) := by decide +kernel
theorem dX7_become_26 : decode cX7_become 26 = .ok (.iload_n 2, 1) := by decide +kernel
theorem dX7_become_27 : decode cX7_become 27 = .ok (.iastore, 1) := by decide +kernel
theorem dX7_become_28 : decode cX7_become 28 = .ok (.aload_n 0, 1) := by decide +kernel
theorem dX7_become_29 : decode cX7_become 29 = .ok (.getfield 25, 3) := by decide +kernel
theorem dX7_become_32 : decode cX7_become 32 = .ok (.iload_n 1, 1) := by decide +kernel
theorem dX7_become_33 : decode cX7_become 33 = .ok (.iload_n 3, 1) := by decide +kernel
theorem dX7_become_34 : decode cX7_become 34 = .ok (.bastore, 1) := by decide +kernel
theorem dX7_become_35 : decode cX7_become 35 = .ok (.aload_n 0, 1) := by decide +kernel
theorem dX7_become_36 : decode cX7_become 36 = .ok (.getfield 29, 3) := by decide +kernel
theorem dX7_become_39 : decode cX7_become 39 = .ok (.iload_n 1, 1) := by decide +kernel
theorem dX7_become_40 : decode cX7_become 40 = .ok (.iconst 0, 1) := by decide +kernel
theorem dX7_become_41 : decode cX7_become 41 = .ok (.iastore, 1) := by decide +kernel
theorem dX7_become_42 : decode cX7_become 42 = .ok (.iconst 1, 1) := by decide +kernel
theorem dX7_become_43 : decode cX7_become 43 = .ok (.ireturn, 1) := by decide +kernel
theorem dX7_forget_0 : decode cX7_forget 0 = .ok (.aload_n 0, 1) := by decide +kernel
theorem dX7_forget_1 : decode cX7_forget 1 = .ok (.iload_n 1, 1) := by decide +kernel
theorem dX7_forget_2 : decode cX7_forget 2 = .ok (.invokevirtual 168, 3) := by decide +kernel
theorem dX7_forget_5 : decode cX7_forget 5 = .ok (.ifCond .ne 5, 3) := by decide +kernel
theorem dX7_forget_8 : decode cX7_forget 8 = .ok (.iconst (-1), 1) := by decide +kernel
theorem dX7_forget_9 : decode cX7_forget 9 = .ok (.ireturn, 1) := by decide +kernel
theorem dX7_forget_10 : decode cX7_forget 10 = .ok (.aload_n 0, 1) := by decide +kernel
theorem dX7_forget_11 : decode cX7_forget 11 = .ok (.getfield 29, 3) := by decide +kernel
theorem dX7_forget_14 : decode cX7_forget 14 = .ok (.iload_n 1, 1) := by decide +kernel
theorem dX7_forget_15 : decode cX7_forget 15 = .ok (.iaload, 1) := by decide +kernel
theorem dX7_forget_16 : decode cX7_forget 16 = .ok (.istore_n 2, 1) := by decide +kernel
theorem dX7_forget_17 : decode cX7_forget 17 = .ok (.aload_n 0, 1) := by decide +kernel
theorem dX7_forget_18 : decode cX7_forget 18 = .ok (.getfield 29, 3) := by decide +kernel
theorem dX7_forget_21 : decode cX7_forget 21 = .ok (.iload_n 1, 1) := by decide +kernel
theorem dX7_forget_22 : decode cX7_forget 22 = .ok (.iconst 0, 1) := by decide +kernel
theorem dX7_forget_23 : decode cX7_forget 23 = .ok (.iastore, 1) := by decide +kernel
theorem dX7_forget_24 : decode cX7_forget 24 = .ok (.iload_n 2, 1) := by decide +kernel
theorem dX7_forget_25 : decode cX7_forget 25 = .ok (.ireturn, 1) := by decide +kernel
theorem dX7_of_0 : decode cX7_of 0 = .ok (.iload_n 2, 1) := by decide +kernel
theorem dX7_of_1 : decode cX7_of 1 = .ok (.ifCond .lt 9, 3) := by decide +kernel
theorem dX7_of_4 : decode cX7_of 4 = .ok (.iload_n 2, 1) := by decide +kernel
theorem dX7_of_5 : decode cX7_of 5 = .ok (.bipush 9, 2) := by decide +kernel
theorem dX7_of_7 : decode cX7_of 7 = .ok (.if_icmp .le 5, 3) := by decide +kernel
theorem dX7_of_10 : decode cX7_of 10 = .ok (.iconst (-1), 1) := by decide +kernel
theorem dX7_of_11 : decode cX7_of 11 = .ok (.ireturn, 1) := by decide +kernel
theorem dX7_of_12 : decode cX7_of 12 = .ok (.aload_n 0, 1) := by decide +kernel
theorem dX7_of_13 : decode cX7_of 13 = .ok (.iload_n 1, 1) := by decide +kernel
theorem dX7_of_14 : decode cX7_of 14 = .ok (.invokevirtual 168, 3) := by decide +kernel
theorem dX7_of_17 : decode cX7_of 17 = .ok (.ifCond .ne 9, 3) := by decide +kernel
theorem dX7_of_20 : decode cX7_of 20 = .ok (.aload_n 0, 1) := by decide +kernel
theorem dX7_of_21 : decode cX7_of 21 = .ok (.iconst 2, 1) := by decide +kernel
theorem dX7_of_22 : decode cX7_of 22 = .ok (.invokevirtual 164, 3) := by decide +kernel
theorem dX7_of_25 : decode cX7_of 25 = .ok (.ireturn, 1) := by decide +kernel
theorem dX7_of_26 : decode cX7_of 26 = .ok (.iload_n 2, 1) := by decide +kernel
theorem dX7_of_27 : decode cX7_of 27 = .ok (.tableswitch 65 0 3 #[29, 36, 51, 58], 29) := by decide +kernel
theorem dX7_of_56 : decode cX7_of 56 = .ok (.aload_n 0, 1) := by decide +kernel
theorem dX7_of_57 : decode cX7_of 57 = .ok (.getfield 16, 3) := by decide +kernel
theorem dX7_of_60 : decode cX7_of 60 = .ok (.iload_n 1, 1) := by decide +kernel
theorem dX7_of_61 : decode cX7_of 61 = .ok (.iaload, 1) := by decide +kernel
theorem dX7_of_62 : decode cX7_of 62 = .ok (.ireturn, 1) := by decide +kernel
