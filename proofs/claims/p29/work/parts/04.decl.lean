theorem dL_acts_0 : decode cL_acts 0 = .ok (.iload 4, 2) := by decide +kernel
theorem dL_acts_2 : decode cL_acts 2 = .ok (.iconst 5, 1) := by decide +kernel
theorem dL_acts_3 : decode cL_acts 3 = .ok (.ishr, 1) := by decide +kernel
theorem dL_acts_4 : decode cL_acts 4 = .ok (.ldc 65, 2) := by decide +kernel
theorem dL_acts_6 : decode cL_acts 6 = .ok (.invokestatic 66, 3) := by decide +kernel
theorem dL_acts_9 : decode cL_acts 9 = .ok (.istore 5, 2) := by decide +kernel
theorem dL_acts_11 : decode cL_acts 11 = .ok (.aload_n 1, 1) := by decide +kernel
theorem dL_acts_12 : decode cL_acts 12 = .ok (.bipush 9, 2) := by decide +kernel
theorem dL_acts_14 : decode cL_acts 14 = .ok (.iaload, 1) := by decide +kernel
theorem dL_acts_15 : decode cL_acts 15 = .ok (.ifCond .ne 7, 3) := by decide +kernel
theorem dL_acts_18 : decode cL_acts 18 = .ok (.iconst 0, 1) := by decide +kernel
theorem dL_acts_19 : decode cL_acts 19 = .ok (.goto 10, 3) := by decide +kernel
theorem dL_acts_22 : decode cL_acts 22 = .ok (.iload 5, 2) := by decide +kernel
theorem dL_acts_24 : decode cL_acts 24 = .ok (.aload_n 1, 1) := by decide +kernel
theorem dL_acts_25 : decode cL_acts 25 = .ok (.bipush 9, 2) := by decide +kernel
theorem dL_acts_27 : decode cL_acts 27 = .ok (.iaload, 1) := by decide +kernel
theorem dL_acts_28 : decode cL_acts 28 = .ok (.irem, 1) := by decide +kernel
theorem dL_acts_29 : decode cL_acts 29 = .ok (.istore 6, 2) := by decide +kernel
theorem dL_acts_31 : decode cL_acts 31 = .ok (.iload 5, 2) := by decide +kernel
theorem dL_acts_33 : decode cL_acts 33 = .ok (.iconst 4, 1) := by decide +kernel
theorem dL_acts_34 : decode cL_acts 34 = .ok (.irem, 1) := by decide +kernel
theorem dL_acts_35 : decode cL_acts 35 = .ok (.istore 7, 2) := by decide +kernel
theorem dL_acts_37 : decode cL_acts 37 = .ok (.iload 4, 2) := by decide +kernel
theorem dL_acts_39 : decode cL_acts 39 = .ok (.bipush 20, 2) := by decide +kernel
theorem dL_acts_41 : decode cL_acts 41 = .ok (.invokestatic 66, 3) := by decide +kernel
theorem dL_acts_44 : decode cL_acts 44 = .ok (.tableswitch 853 0 11 #[64, 64, 201, 201, 283, 283, 357, 419, 419, 419, 684, 750], 64) := by decide +kernel
theorem dL_acts_108 : decode cL_acts 108 = .ok (.aload_n 1, 1) := by decide +kernel
theorem dL_acts_109 : decode cL_acts 109 = .ok (.iconst 4, 1) := by decide +kernel
theorem dL_acts_110 : decode cL_acts 110 = .ok (.iload 5, 2) := by decide +kernel
theorem dL_acts_112 : decode cL_acts 112 = .ok (.bipush 60, 2) := by decide +kernel
theorem dL_acts_114 : decode cL_acts 114 = .ok (.irem, 1) := by decide +kernel
theorem dL_acts_115 : decode cL_acts 115 = .ok (.iastore, 1) := by decide +kernel
theorem dL_acts_116 : decode cL_acts 116 = .ok (.aload_n 1, 1) := by decide +kernel
theorem dL_acts_117 : decode cL_acts 117 = .ok (.iconst 5, 1) := by decide +kernel
theorem dL_acts_118 : decode cL_acts 118 = .ok (.iload 5, 2) := by decide +kernel
theorem dL_acts_120 : decode cL_acts 120 = .ok (.bipush 60, 2) := by decide +kernel
theorem dL_acts_122 : decode cL_acts 122 = .ok (.idiv, 1) := by decide +kernel
theorem dL_acts_123 : decode cL_acts 123 = .ok (.bipush 60, 2) := by decide +kernel
theorem dL_acts_125 : decode cL_acts 125 = .ok (.irem, 1) := by decide +kernel
theorem dL_acts_126 : decode cL_acts 126 = .ok (.iastore, 1) := by decide +kernel
theorem dL_acts_127 : decode cL_acts 127 = .ok (.aload_n 1, 1) := by decide +kernel
theorem dL_acts_128 : decode cL_acts 128 = .ok (.bipush 6, 2) := by decide +kernel
theorem dL_acts_130 : decode cL_acts 130 = .ok (.bipush 10, 2) := by decide +kernel
theorem dL_acts_132 : decode cL_acts 132 = .ok (.iload 5, 2) := by decide +kernel
theorem dL_acts_134 : decode cL_acts 134 = .ok (.sipush 3600, 3) := by decide +kernel
theorem dL_acts_137 : decode cL_acts 137 = .ok (.idiv, 1) := by decide +kernel
theorem dL_acts_138 : decode cL_acts 138 = .ok (.iload 5, 2) := by decide +kernel
theorem dL_acts_140 : decode cL_acts 140 = .ok (.iconst 3, 1) := by decide +kernel
theorem dL_acts_141 : decode cL_acts 141 = .ok (.irem, 1) := by decide +kernel
theorem dL_acts_142 : decode cL_acts 142 = .ok (.ifCond .ne 9, 3) := by decide +kernel
theorem dL_acts_145 : decode cL_acts 145 = .ok (.sipush 191, 3) := by decide +kernel
theorem dL_acts_148 : decode cL_acts 148 = .ok (.goto 5, 3) := by decide +kernel
theorem dL_acts_151 : decode cL_acts 151 = .ok (.bipush 60, 2) := by decide +kernel
theorem dL_acts_153 : decode cL_acts 153 = .ok (.irem, 1) := by decide +kernel
theorem dL_acts_154 : decode cL_acts 154 = .ok (.iadd, 1) := by decide +kernel
theorem dL_acts_155 : decode cL_acts 155 = .ok (.iastore, 1) := by decide +kernel
theorem dL_acts_156 : decode cL_acts 156 = .ok (.aload_n 1, 1) := by decide +kernel
theorem dL_acts_157 : decode cL_acts 157 = .ok (.bipush 7, 2) := by decide +kernel
theorem dL_acts_159 : decode cL_acts 159 = .ok (.bipush 10, 2) := by decide +kernel
theorem dL_acts_161 : decode cL_acts 161 = .ok (.iload 5, 2) := by decide +kernel
theorem dL_acts_163 : decode cL_acts 163 = .ok (.bipush 7, 2) := by decide +kernel
theorem dL_acts_165 : decode cL_acts 165 = .ok (.idiv, 1) := by decide +kernel
theorem dL_acts_166 : decode cL_acts 166 = .ok (.iload 5, 2) := by decide +kernel
theorem dL_acts_168 : decode cL_acts 168 = .ok (.iconst 3, 1) := by decide +kernel
theorem dL_acts_169 : decode cL_acts 169 = .ok (.irem, 1) := by decide +kernel
theorem dL_acts_170 : decode cL_acts 170 = .ok (.ifCond .ne 9, 3) := by decide +kernel
theorem dL_acts_173 : decode cL_acts 173 = .ok (.sipush 191, 3) := by decide +kernel
theorem dL_acts_176 : decode cL_acts 176 = .ok (.goto 5, 3) := by decide +kernel
theorem dL_acts_179 : decode cL_acts 179 = .ok (.bipush 60, 2) := by decide +kernel
theorem dL_acts_181 : decode cL_acts 181 = .ok (.irem, 1) := by decide +kernel
theorem dL_acts_182 : decode cL_acts 182 = .ok (.iadd, 1) := by decide +kernel
theorem dL_acts_183 : decode cL_acts 183 = .ok (.iastore, 1) := by decide +kernel
theorem dL_acts_184 : decode cL_acts 184 = .ok (.aload_n 1, 1) := by decide +kernel
theorem dL_acts_185 : decode cL_acts 185 = .ok (.bipush 8, 2) := by decide +kernel
theorem dL_acts_187 : decode cL_acts 187 = .ok (.iload 5, 2) := by decide +kernel
theorem dL_acts_189 : decode cL_acts 189 = .ok (.iconst 5, 1) := by decide +kernel
theorem dL_acts_190 : decode cL_acts 190 = .ok (.irem, 1) := by decide +kernel
theorem dL_acts_191 : decode cL_acts 191 = .ok (.ifCond .le 7, 3) := by decide +kernel
theorem dL_acts_194 : decode cL_acts 194 = .ok (.iconst 5, 1) := by decide +kernel
theorem dL_acts_195 : decode cL_acts 195 = .ok (.goto 10, 3) := by decide +kernel
theorem dL_acts_198 : decode cL_acts 198 = .ok (.iload 5, 2) := by decide +kernel
theorem dL_acts_200 : decode cL_acts 200 = .ok (.iconst 5, 1) := by decide +kernel
theorem dL_acts_201 : decode cL_acts 201 = .ok (.idiv, 1) := by decide +kernel
theorem dL_acts_202 : decode cL_acts 202 = .ok (.bipush 6, 2) := by decide +kernel
theorem dL_acts_204 : decode cL_acts 204 = .ok (.irem, 1) := by decide +kernel
theorem dL_acts_205 : decode cL_acts 205 = .ok (.iastore, 1) := by decide +kernel
theorem dL_acts_206 : decode cL_acts 206 = .ok (.aload_n 0, 1) := by decide +kernel
theorem dL_acts_207 : decode cL_acts 207 = .ok (.aload_n 1, 1) := by decide +kernel
theorem dL_acts_208 : decode cL_acts 208 = .ok (.iconst 4, 1) := by decide +kernel
theorem dL_acts_209 : decode cL_acts 209 = .ok (.iaload, 1) := by decide +kernel
theorem dL_acts_210 : decode cL_acts 210 = .ok (.aload_n 1, 1) := by decide +kernel
theorem dL_acts_211 : decode cL_acts 211 = .ok (.iconst 5, 1) := by decide +kernel
theorem dL_acts_212 : decode cL_acts 212 = .ok (.iaload, 1) := by decide +kernel
theorem dL_acts_213 : decode cL_acts 213 = .ok (.aload_n 1, 1) := by decide +kernel
theorem dL_acts_214 : decode cL_acts 214 = .ok (.bipush 6, 2) := by decide +kernel
theorem dL_acts_216 : decode cL_acts 216 = .ok (.iaload, 1) := by decide +kernel
theorem dL_acts_217 : decode cL_acts 217 = .ok (.aload_n 1, 1) := by decide +kernel
theorem dL_acts_218 : decode cL_acts 218 = .ok (.bipush 7, 2) := by decide +kernel
theorem dL_acts_220 : decode cL_acts 220 = .ok (.iaload, 1) := by decide +kernel
theorem dL_acts_221 : decode cL_acts 221 = .ok (.aload_n 1, 1) := by decide +kernel
theorem dL_acts_222 : decode cL_acts 222 = .ok (.bipush 8, 2) := by decide +kernel
theorem dL_acts_224 : decode cL_acts 224 = .ok (.iaload, 1) := by decide +kernel
theorem dL_acts_225 : decode cL_acts 225 = .ok (.invokestatic 70, 3) := by decide +kernel
theorem dL_acts_228 : decode cL_acts 228 = .ok (.aload_n 1, 1) := by decide +kernel
theorem dL_acts_229 : decode cL_acts 229 = .ok (.aload_n 3, 1) := by decide +kernel
theorem dL_acts_230 : decode cL_acts 230 = .ok (.invokestatic 46, 3) := by decide +kernel
theorem dL_acts_233 : decode cL_acts 233 = .ok (.invokestatic 31, 3) := by decide +kernel
theorem dL_acts_236 : decode cL_acts 236 = .ok (.if_icmp .ne 7, 3) := by decide +kernel
theorem dL_acts_239 : decode cL_acts 239 = .ok (.iconst 1, 1) := by decide +kernel
theorem dL_acts_240 : decode cL_acts 240 = .ok (.goto 4, 3) := by decide +kernel
theorem dL_acts_243 : decode cL_acts 243 = .ok (.iconst 0, 1) := by decide +kernel
theorem dL_acts_244 : decode cL_acts 244 = .ok (.ireturn, 1) := by decide +kernel
theorem dL_acts_245 : decode cL_acts 245 = .ok (.iload 5, 2) := by decide +kernel
theorem dL_acts_247 : decode cL_acts 247 = .ok (.iconst 4, 1) := by decide +kernel
theorem dL_acts_248 : decode cL_acts 248 = .ok (.idiv, 1) := by decide +kernel
theorem dL_acts_249 : decode cL_acts 249 = .ok (.iconst 4, 1) := by decide +kernel
theorem dL_acts_250 : decode cL_acts 250 = .ok (.irem, 1) := by decide +kernel
theorem dL_acts_251 : decode cL_acts 251 = .ok (.istore 8, 2) := by decide +kernel
theorem dL_acts_253 : decode cL_acts 253 = .ok (.iconst 1, 1) := by decide +kernel
theorem dL_acts_254 : decode cL_acts 254 = .ok (.iload 5, 2) := by decide +kernel
theorem dL_acts_256 : decode cL_acts 256 = .ok (.bipush 16, 2) := by decide +kernel
theorem dL_acts_258 : decode cL_acts 258 = .ok (.idiv, 1) := by decide +kernel
theorem dL_acts_259 : decode cL_acts 259 = .ok (.iload 8, 2) := by decide +kernel
theorem dL_acts_261 : decode cL_acts 261 = .ok (.ifCond .ne 8, 3) := by decide +kernel
theorem dL_acts_264 : decode cL_acts 264 = .ok (.bipush 6, 2) := by decide +kernel
theorem dL_acts_266 : decode cL_acts 266 = .ok (.goto 26, 3) := by decide +kernel
theorem dL_acts_269 : decode cL_acts 269 = .ok (.iload 8, 2) := by decide +kernel
theorem dL_acts_271 : decode cL_acts 271 = .ok (.iconst 1, 1) := by decide +kernel
theorem dL_acts_272 : decode cL_acts 272 = .ok (.if_icmp .ne 7, 3) := by decide +kernel
theorem dL_acts_275 : decode cL_acts 275 = .ok (.iconst 4, 1) := by decide +kernel
theorem dL_acts_276 : decode cL_acts 276 = .ok (.goto 16, 3) := by decide +kernel
theorem dL_acts_279 : decode cL_acts 279 = .ok (.iload 8, 2) := by decide +kernel
theorem dL_acts_281 : decode cL_acts 281 = .ok (.iconst 2, 1) := by decide +kernel
theorem dL_acts_282 : decode cL_acts 282 = .ok (.if_icmp .ne 8, 3) := by decide +kernel
theorem dL_acts_285 : decode cL_acts 285 = .ok (.bipush 60, 2) := by decide +kernel
theorem dL_acts_287 : decode cL_acts 287 = .ok (.goto 5, 3) := by decide +kernel
theorem dL_acts_290 : decode cL_acts 290 = .ok (.bipush 20, 2) := by decide +kernel
theorem dL_acts_292 : decode cL_acts 292 = .ok (.irem, 1) := by decide +kernel
theorem dL_acts_293 : decode cL_acts 293 = .ok (.iadd, 1) := by decide +kernel
theorem dL_acts_294 : decode cL_acts 294 = .ok (.istore 9, 2) := by decide +kernel
theorem dL_acts_296 : decode cL_acts 296 = .ok (.aload_n 1, 1) := by decide +kernel
theorem dL_acts_297 : decode cL_acts 297 = .ok (.iload 8, 2) := by decide +kernel
theorem dL_acts_299 : decode cL_acts 299 = .ok (.iaload, 1) := by decide +kernel
theorem dL_acts_300 : decode cL_acts 300 = .ok (.istore 10, 2) := by decide +kernel
theorem dL_acts_302 : decode cL_acts 302 = .ok (.aload_n 1, 1) := by decide +kernel
theorem dL_acts_303 : decode cL_acts 303 = .ok (.iload 8, 2) := by decide +kernel
theorem dL_acts_305 : decode cL_acts 305 = .ok (.iload 9, 2) := by decide +kernel
theorem dL_acts_307 : decode cL_acts 307 = .ok (.iastore, 1) := by decide +kernel
theorem dL_acts_308 : decode cL_acts 308 = .ok (.aload_n 0, 1) := by decide +kernel
theorem dL_acts_309 : decode cL_acts 309 = .ok (.iload 8, 2) := by decide +kernel
theorem dL_acts_311 : decode cL_acts 311 = .ok (.iload 9, 2) := by decide +kernel
theorem dL_acts_313 : decode cL_acts 313 = .ok (.invokestatic 74, 3) := by decide +kernel
theorem dL_acts_316 : decode cL_acts 316 = .ok (.iload 10, 2) := by decide +kernel
theorem dL_acts_318 : decode cL_acts 318 = .ok (.if_icmp .ne 7, 3) := by decide +kernel
theorem dL_acts_321 : decode cL_acts 321 = .ok (.iconst 1, 1) := by decide +kernel
theorem dL_acts_322 : decode cL_acts 322 = .ok (.goto 4, 3) := by decide +kernel
theorem dL_acts_325 : decode cL_acts 325 = .ok (.iconst 0, 1) := by decide +kernel
theorem dL_acts_326 : decode cL_acts 326 = .ok (.ireturn, 1) := by decide +kernel
theorem dL_acts_327 : decode cL_acts 327 = .ok (.aload_n 2, 1) := by decide +kernel
theorem dL_acts_328 : decode cL_acts 328 = .ok (.bipush 8, 2) := by decide +kernel
theorem dL_acts_330 : decode cL_acts 330 = .ok (.iload 7, 2) := by decide +kernel
theorem dL_acts_332 : decode cL_acts 332 = .ok (.imul, 1) := by decide +kernel
theorem dL_acts_333 : decode cL_acts 333 = .ok (.iaload, 1) := by decide +kernel
theorem dL_acts_334 : decode cL_acts 334 = .ok (.istore 11, 2) := by decide +kernel
theorem dL_acts_336 : decode cL_acts 336 = .ok (.aload_n 2, 1) := by decide +kernel
theorem dL_acts_337 : decode cL_acts 337 = .ok (.bipush 8, 2) := by decide +kernel
theorem dL_acts_339 : decode cL_acts 339 = .ok (.iload 7, 2) := by decide +kernel
theorem dL_acts_341 : decode cL_acts 341 = .ok (.imul, 1) := by decide +kernel
theorem dL_acts_342 : decode cL_acts 342 = .ok (.iload 5, 2) := by decide +kernel
theorem dL_acts_344 : decode cL_acts 344 = .ok (.iconst 4, 1) := by decide +kernel
theorem dL_acts_345 : decode cL_acts 345 = .ok (.idiv, 1) := by decide +kernel
theorem dL_acts_346 : decode cL_acts 346 = .ok (.bipush 7, 2) := by decide +kernel
theorem dL_acts_348 : decode cL_acts 348 = .ok (.irem, 1) := by decide +kernel
theorem dL_acts_349 : decode cL_acts 349 = .ok (.iastore, 1) := by decide +kernel
theorem dL_acts_350 : decode cL_acts 350 = .ok (.aload_n 2, 1) := by decide +kernel
theorem dL_acts_351 : decode cL_acts 351 = .ok (.bipush 8, 2) := by decide +kernel
theorem dL_acts_353 : decode cL_acts 353 = .ok (.iload 7, 2) := by decide +kernel
theorem dL_acts_355 : decode cL_acts 355 = .ok (.imul, 1) := by decide +kernel
theorem dL_acts_356 : decode cL_acts 356 = .ok (.iconst 1, 1) := by decide +kernel
theorem dL_acts_357 : decode cL_acts 357 = .ok (.iadd, 1) := by decide +kernel
theorem dL_acts_358 : decode cL_acts 358 = .ok (.iload 5, 2) := by decide +kernel
theorem dL_acts_360 : decode cL_acts 360 = .ok (.bipush 28, 2) := by decide +kernel
theorem dL_acts_362 : decode cL_acts 362 = .ok (.idiv, 1) := by decide +kernel
theorem dL_acts_363 : decode cL_acts 363 = .ok (.iconst 4, 1) := by decide +kernel
theorem dL_acts_364 : decode cL_acts 364 = .ok (.irem, 1) := by decide +kernel
theorem dL_acts_365 : decode cL_acts 365 = .ok (.iconst 1, 1) := by decide +kernel
theorem dL_acts_366 : decode cL_acts 366 = .ok (.isub, 1) := by decide +kernel
theorem dL_acts_367 : decode cL_acts 367 = .ok (.iastore, 1) := by decide +kernel
theorem dL_acts_368 : decode cL_acts 368 = .ok (.aload_n 0, 1) := by decide +kernel
theorem dL_acts_369 : decode cL_acts 369 = .ok (.iload 7, 2) := by decide +kernel
theorem dL_acts_371 : decode cL_acts 371 = .ok (.aload_n 2, 1) := by decide +kernel
theorem dL_acts_372 : decode cL_acts 372 = .ok (.bipush 8, 2) := by decide +kernel
theorem dL_acts_374 : decode cL_acts 374 = .ok (.iload 7, 2) := by decide +kernel
theorem dL_acts_376 : decode cL_acts 376 = .ok (.imul, 1) := by decide +kernel
theorem dL_acts_377 : decode cL_acts 377 = .ok (.iaload, 1) := by decide +kernel
theorem dL_acts_378 : decode cL_acts 378 = .ok (.aload_n 2, 1) := by decide +kernel
theorem dL_acts_379 : decode cL_acts 379 = .ok (.bipush 8, 2) := by decide +kernel
theorem dL_acts_381 : decode cL_acts 381 = .ok (.iload 7, 2) := by decide +kernel
theorem dL_acts_383 : decode cL_acts 383 = .ok (.imul, 1) := by decide +kernel
theorem dL_acts_384 : decode cL_acts 384 = .ok (.iconst 1, 1) := by decide +kernel
theorem dL_acts_385 : decode cL_acts 385 = .ok (.iadd, 1) := by decide +kernel
theorem dL_acts_386 : decode cL_acts 386 = .ok (.iaload, 1) := by decide +kernel
theorem dL_acts_387 : decode cL_acts 387 = .ok (.invokestatic 78, 3) := by decide +kernel
theorem dL_acts_390 : decode cL_acts 390 = .ok (.iload 11, 2) := by decide +kernel
theorem dL_acts_392 : decode cL_acts 392 = .ok (.if_icmp .ne 7, 3) := by decide +kernel
theorem dL_acts_395 : decode cL_acts 395 = .ok (.iconst 1, 1) := by decide +kernel
theorem dL_acts_396 : decode cL_acts 396 = .ok (.goto 4, 3) := by decide +kernel
theorem dL_acts_399 : decode cL_acts 399 = .ok (.iconst 0, 1) := by decide +kernel
theorem dL_acts_400 : decode cL_acts 400 = .ok (.ireturn, 1) := by decide +kernel
theorem dL_acts_401 : decode cL_acts 401 = .ok (.aload_n 1, 1) := by decide +kernel
theorem dL_acts_402 : decode cL_acts 402 = .ok (.bipush 10, 2) := by decide +kernel
theorem dL_acts_404 : decode cL_acts 404 = .ok (.iload 5, 2) := by decide +kernel
theorem dL_acts_406 : decode cL_acts 406 = .ok (.iconst 3, 1) := by decide +kernel
theorem dL_acts_407 : decode cL_acts 407 = .ok (.irem, 1) := by decide +kernel
theorem dL_acts_408 : decode cL_acts 408 = .ok (.iadd, 1) := by decide +kernel
theorem dL_acts_409 : decode cL_acts 409 = .ok (.iaload, 1) := by decide +kernel
theorem dL_acts_410 : decode cL_acts 410 = .ok (.istore 12, 2) := by decide +kernel
theorem dL_acts_412 : decode cL_acts 412 = .ok (.aload_n 1, 1) := by decide +kernel
theorem dL_acts_413 : decode cL_acts 413 = .ok (.bipush 10, 2) := by decide +kernel
theorem dL_acts_415 : decode cL_acts 415 = .ok (.iload 5, 2) := by decide +kernel
theorem dL_acts_417 : decode cL_acts 417 = .ok (.iconst 3, 1) := by decide +kernel
theorem dL_acts_418 : decode cL_acts 418 = .ok (.irem, 1) := by decide +kernel
theorem dL_acts_419 : decode cL_acts 419 = .ok (.iadd, 1) := by decide +kernel
theorem dL_acts_420 : decode cL_acts 420 = .ok (.iload 5, 2) := by decide +kernel
theorem dL_acts_422 : decode cL_acts 422 = .ok (.iconst 3, 1) := by decide +kernel
theorem dL_acts_423 : decode cL_acts 423 = .ok (.idiv, 1) := by decide +kernel
theorem dL_acts_424 : decode cL_acts 424 = .ok (.iconst 4, 1) := by decide +kernel
theorem dL_acts_425 : decode cL_acts 425 = .ok (.irem, 1) := by decide +kernel
theorem dL_acts_426 : decode cL_acts 426 = .ok (.ifCond .le 7, 3) := by decide +kernel
theorem dL_acts_429 : decode cL_acts 429 = .ok (.iconst 1, 1) := by decide +kernel
theorem dL_acts_430 : decode cL_acts 430 = .ok (.goto 4, 3) := by decide +kernel
theorem dL_acts_433 : decode cL_acts 433 = .ok (.iconst 0, 1) := by decide +kernel
theorem dL_acts_434 : decode cL_acts 434 = .ok (.iastore, 1) := by decide +kernel
theorem dL_acts_435 : decode cL_acts 435 = .ok (.aload_n 0, 1) := by decide +kernel
theorem dL_acts_436 : decode cL_acts 436 = .ok (.iload 5, 2) := by decide +kernel
theorem dL_acts_438 : decode cL_acts 438 = .ok (.iconst 3, 1) := by decide +kernel
theorem dL_acts_439 : decode cL_acts 439 = .ok (.irem, 1) := by decide +kernel
theorem dL_acts_440 : decode cL_acts 440 = .ok (.aload_n 1, 1) := by decide +kernel
theorem dL_acts_441 : decode cL_acts 441 = .ok (.bipush 10, 2) := by decide +kernel
theorem dL_acts_443 : decode cL_acts 443 = .ok (.iload 5, 2) := by decide +kernel
theorem dL_acts_445 : decode cL_acts 445 = .ok (.iconst 3, 1) := by decide +kernel
theorem dL_acts_446 : decode cL_acts 446 = .ok (.irem, 1) := by decide +kernel
theorem dL_acts_447 : decode cL_acts 447 = .ok (.iadd, 1) := by decide +kernel
theorem dL_acts_448 : decode cL_acts 448 = .ok (.iaload, 1) := by decide +kernel
theorem dL_acts_449 : decode cL_acts 449 = .ok (.invokestatic 82, 3) := by decide +kernel
theorem dL_acts_452 : decode cL_acts 452 = .ok (.iload 12, 2) := by decide +kernel
theorem dL_acts_454 : decode cL_acts 454 = .ok (.if_icmp .ne 7, 3) := by decide +kernel
theorem dL_acts_457 : decode cL_acts 457 = .ok (.iconst 1, 1) := by decide +kernel
theorem dL_acts_458 : decode cL_acts 458 = .ok (.goto 4, 3) := by decide +kernel
theorem dL_acts_461 : decode cL_acts 461 = .ok (.iconst 0, 1) := by decide +kernel
theorem dL_acts_462 : decode cL_acts 462 = .ok (.ireturn, 1) := by decide +kernel
theorem dL_acts_463 : decode cL_acts 463 = .ok (.iconst 1, 1) := by decide +kernel
theorem dL_acts_464 : decode cL_acts 464 = .ok (.iload 5, 2) := by decide +kernel
theorem dL_acts_466 : decode cL_acts 466 = .ok (.iconst 4, 1) := by decide +kernel
theorem dL_acts_467 : decode cL_acts 467 = .ok (.idiv, 1) := by decide +kernel
theorem dL_acts_468 : decode cL_acts 468 = .ok (.bipush 8, 2) := by decide +kernel
theorem dL_acts_470 : decode cL_acts 470 = .ok (.irem, 1) := by decide +kernel
theorem dL_acts_471 : decode cL_acts 471 = .ok (.bipush 11, 2) := by decide +kernel
theorem dL_acts_473 : decode cL_acts 473 = .ok (.imul, 1) := by decide +kernel
theorem dL_acts_474 : decode cL_acts 474 = .ok (.iadd, 1) := by decide +kernel
theorem dL_acts_475 : decode cL_acts 475 = .ok (.istore 13, 2) := by decide +kernel
theorem dL_acts_477 : decode cL_acts 477 = .ok (.bipush 8, 2) := by decide +kernel
theorem dL_acts_479 : decode cL_acts 479 = .ok (.iload 7, 2) := by decide +kernel
theorem dL_acts_481 : decode cL_acts 481 = .ok (.imul, 1) := by decide +kernel
theorem dL_acts_482 : decode cL_acts 482 = .ok (.iconst 2, 1) := by decide +kernel
theorem dL_acts_483 : decode cL_acts 483 = .ok (.iadd, 1) := by decide +kernel
theorem dL_acts_484 : decode cL_acts 484 = .ok (.istore 14, 2) := by decide +kernel
theorem dL_acts_486 : decode cL_acts 486 = .ok (.iconst 0, 1) := by decide +kernel
theorem dL_acts_487 : decode cL_acts 487 = .ok (.istore 15, 2) := by decide +kernel
theorem dL_acts_489 : decode cL_acts 489 = .ok (.iconst 0, 1) := by decide +kernel
theorem dL_acts_490 : decode cL_acts 490 = .ok (.istore 16, 2) := by decide +kernel
theorem dL_acts_492 : decode cL_acts 492 = .ok (.iconst 0, 1) := by decide +kernel
theorem dL_acts_493 : decode cL_acts 493 = .ok (.istore 17, 2) := by decide +kernel
theorem dL_acts_495 : decode cL_acts 495 = .ok (.iload 17, 2) := by decide +kernel
theorem dL_acts_497 : decode cL_acts 497 = .ok (.aload_n 2, 1) := by decide +kernel
theorem dL_acts_498 : decode cL_acts 498 = .ok (.iload 14, 2) := by decide +kernel
theorem dL_acts_500 : decode cL_acts 500 = .ok (.iaload, 1) := by decide +kernel
theorem dL_acts_501 : decode cL_acts 501 = .ok (.if_icmp .ge 59, 3) := by decide +kernel
theorem dL_acts_504 : decode cL_acts 504 = .ok (.iload 15, 2) := by decide +kernel
theorem dL_acts_506 : decode cL_acts 506 = .ok (.aload_n 2, 1) := by decide +kernel
theorem dL_acts_507 : decode cL_acts 507 = .ok (.iload 14, 2) := by decide +kernel
theorem dL_acts_509 : decode cL_acts 509 = .ok (.iconst 1, 1) := by decide +kernel
theorem dL_acts_510 : decode cL_acts 510 = .ok (.iadd, 1) := by decide +kernel
theorem dL_acts_511 : decode cL_acts 511 = .ok (.iload 17, 2) := by decide +kernel
theorem dL_acts_513 : decode cL_acts 513 = .ok (.iadd, 1) := by decide +kernel
theorem dL_acts_514 : decode cL_acts 514 = .ok (.iaload, 1) := by decide +kernel
theorem dL_acts_515 : decode cL_acts 515 = .ok (.iload 13, 2) := by decide +kernel
theorem dL_acts_517 : decode cL_acts 517 = .ok (.if_icmp .ge 7, 3) := by decide +kernel
theorem dL_acts_520 : decode cL_acts 520 = .ok (.iconst 1, 1) := by decide +kernel
theorem dL_acts_521 : decode cL_acts 521 = .ok (.goto 4, 3) := by decide +kernel
theorem dL_acts_524 : decode cL_acts 524 = .ok (.iconst 0, 1) := by decide +kernel
theorem dL_acts_525 : decode cL_acts 525 = .ok (.iadd, 1) := by decide +kernel
theorem dL_acts_526 : decode cL_acts 526 = .ok (.istore 15, 2) := by decide +kernel
theorem dL_acts_528 : decode cL_acts 528 = .ok (.iload 16, 2) := by decide +kernel
theorem dL_acts_530 : decode cL_acts 530 = .ok (.ifCond .ne 17, 3) := by decide +kernel
theorem dL_acts_533 : decode cL_acts 533 = .ok (.aload_n 2, 1) := by decide +kernel
theorem dL_acts_534 : decode cL_acts 534 = .ok (.iload 14, 2) := by decide +kernel
theorem dL_acts_536 : decode cL_acts 536 = .ok (.iconst 1, 1) := by decide +kernel
theorem dL_acts_537 : decode cL_acts 537 = .ok (.iadd, 1) := by decide +kernel
theorem dL_acts_538 : decode cL_acts 538 = .ok (.iload 17, 2) := by decide +kernel
theorem dL_acts_540 : decode cL_acts 540 = .ok (.iadd, 1) := by decide +kernel
theorem dL_acts_541 : decode cL_acts 541 = .ok (.iaload, 1) := by decide +kernel
theorem dL_acts_542 : decode cL_acts 542 = .ok (.iload 13, 2) := by decide +kernel
theorem dL_acts_544 : decode cL_acts 544 = .ok (.if_icmp .ne 7, 3) := by decide +kernel
theorem dL_acts_547 : decode cL_acts 547 = .ok (.iconst 1, 1) := by decide +kernel
theorem dL_acts_548 : decode cL_acts 548 = .ok (.goto 4, 3) := by decide +kernel
theorem dL_acts_551 : decode cL_acts 551 = .ok (.iconst 0, 1) := by decide +kernel
theorem dL_acts_552 : decode cL_acts 552 = .ok (.istore 16, 2) := by decide +kernel
theorem dL_acts_554 : decode cL_acts 554 = .ok (.iinc 17 1, 3) := by decide +kernel
theorem dL_acts_557 : decode cL_acts 557 = .ok (.goto (-62), 3) := by decide +kernel
theorem dL_acts_560 : decode cL_acts 560 = .ok (.iload 16, 2) := by decide +kernel
theorem dL_acts_562 : decode cL_acts 562 = .ok (.ifCond .ne 30, 3) := by decide +kernel
theorem dL_acts_565 : decode cL_acts 565 = .ok (.aload_n 2, 1) := by decide +kernel
theorem dL_acts_566 : decode cL_acts 566 = .ok (.iload 14, 2) := by decide +kernel
theorem dL_acts_568 : decode cL_acts 568 = .ok (.iaload, 1) := by decide +kernel
theorem dL_acts_569 : decode cL_acts 569 = .ok (.iconst 5, 1) := by decide +kernel
theorem dL_acts_570 : decode cL_acts 570 = .ok (.if_icmp .ne 22, 3) := by decide +kernel
theorem dL_acts_573 : decode cL_acts 573 = .ok (.aload_n 0, 1) := by decide +kernel
theorem dL_acts_574 : decode cL_acts 574 = .ok (.iload 7, 2) := by decide +kernel
theorem dL_acts_576 : decode cL_acts 576 = .ok (.iload 13, 2) := by decide +kernel
theorem dL_acts_578 : decode cL_acts 578 = .ok (.invokestatic 85, 3) := by decide +kernel
theorem dL_acts_581 : decode cL_acts 581 = .ok (.ldc 88, 2) := by decide +kernel
theorem dL_acts_583 : decode cL_acts 583 = .ok (.if_icmp .ne 7, 3) := by decide +kernel
theorem dL_acts_586 : decode cL_acts 586 = .ok (.iconst 1, 1) := by decide +kernel
theorem dL_acts_587 : decode cL_acts 587 = .ok (.goto 4, 3) := by decide +kernel
theorem dL_acts_590 : decode cL_acts 590 = .ok (.iconst 0, 1) := by decide +kernel
theorem dL_acts_591 : decode cL_acts 591 = .ok (.ireturn, 1) := by decide +kernel
theorem dL_acts_592 : decode cL_acts 592 = .ok (.iload 15, 2) := by decide +kernel
theorem dL_acts_594 : decode cL_acts 594 = .ok (.istore 17, 2) := by decide +kernel
theorem dL_acts_596 : decode cL_acts 596 = .ok (.iload 17, 2) := by decide +kernel
theorem dL_acts_598 : decode cL_acts 598 = .ok (.iconst 5, 1) := by decide +kernel
theorem dL_acts_599 : decode cL_acts 599 = .ok (.if_icmp .ge 42, 3) := by decide +kernel
theorem dL_acts_602 : decode cL_acts 602 = .ok (.iload 16, 2) := by decide +kernel
theorem dL_acts_604 : decode cL_acts 604 = .ok (.ifCond .eq 37, 3) := by decide +kernel
theorem dL_acts_607 : decode cL_acts 607 = .ok (.aload_n 2, 1) := by decide +kernel
theorem dL_acts_608 : decode cL_acts 608 = .ok (.iload 14, 2) := by decide +kernel
theorem dL_acts_610 : decode cL_acts 610 = .ok (.iconst 1, 1) := by decide +kernel
theorem dL_acts_611 : decode cL_acts 611 = .ok (.iadd, 1) := by decide +kernel
theorem dL_acts_612 : decode cL_acts 612 = .ok (.iload 17, 2) := by decide +kernel
theorem dL_acts_614 : decode cL_acts 614 = .ok (.iadd, 1) := by decide +kernel
theorem dL_acts_615 : decode cL_acts 615 = .ok (.iload 17, 2) := by decide +kernel
theorem dL_acts_617 : decode cL_acts 617 = .ok (.iconst 4, 1) := by decide +kernel
theorem dL_acts_618 : decode cL_acts 618 = .ok (.if_icmp .ge 15, 3) := by decide +kernel
theorem dL_acts_621 : decode cL_acts 621 = .ok (.aload_n 2, 1) := by decide +kernel
theorem dL_acts_622 : decode cL_acts 622 = .ok (.iload 14, 2) := by decide +kernel
theorem dL_acts_624 : decode cL_acts 624 = .ok (.iconst 2, 1) := by decide +kernel
theorem dL_acts_625 : decode cL_acts 625 = .ok (.iadd, 1) := by decide +kernel
theorem dL_acts_626 : decode cL_acts 626 = .ok (.iload 17, 2) := by decide +kernel
theorem dL_acts_628 : decode cL_acts 628 = .ok (.iadd, 1) := by decide +kernel
theorem dL_acts_629 : decode cL_acts 629 = .ok (.iaload, 1) := by decide +kernel
theorem dL_acts_630 : decode cL_acts 630 = .ok (.goto 4, 3) := by decide +kernel
theorem dL_acts_633 : decode cL_acts 633 = .ok (.iconst 0, 1) := by decide +kernel
theorem dL_acts_634 : decode cL_acts 634 = .ok (.iastore, 1) := by decide +kernel
theorem dL_acts_635 : decode cL_acts 635 = .ok (.iinc 17 1, 3) := by decide +kernel
theorem dL_acts_638 : decode cL_acts 638 = .ok (.goto (-42), 3) := by decide +kernel
theorem dL_acts_641 : decode cL_acts 641 = .ok (.iconst 4, 1) := by decide +kernel
theorem dL_acts_642 : decode cL_acts 642 = .ok (.istore 17, 2) := by decide +kernel
theorem dL_acts_644 : decode cL_acts 644 = .ok (.iload 17, 2) := by decide +kernel
theorem dL_acts_646 : decode cL_acts 646 = .ok (.iload 15, 2) := by decide +kernel
theorem dL_acts_648 : decode cL_acts 648 = .ok (.if_icmp .lt 42, 3) := by decide +kernel
theorem dL_acts_651 : decode cL_acts 651 = .ok (.iload 16, 2) := by decide +kernel
theorem dL_acts_653 : decode cL_acts 653 = .ok (.ifCond .ne 37, 3) := by decide +kernel
theorem dL_acts_656 : decode cL_acts 656 = .ok (.aload_n 2, 1) := by decide +kernel
theorem dL_acts_657 : decode cL_acts 657 = .ok (.iload 14, 2) := by decide +kernel
theorem dL_acts_659 : decode cL_acts 659 = .ok (.iconst 1, 1) := by decide +kernel
theorem dL_acts_660 : decode cL_acts 660 = .ok (.iadd, 1) := by decide +kernel
theorem dL_acts_661 : decode cL_acts 661 = .ok (.iload 17, 2) := by decide +kernel
theorem dL_acts_663 : decode cL_acts 663 = .ok (.iadd, 1) := by decide +kernel
theorem dL_acts_664 : decode cL_acts 664 = .ok (.iload 17, 2) := by decide +kernel
theorem dL_acts_666 : decode cL_acts 666 = .ok (.iload 15, 2) := by decide +kernel
theorem dL_acts_668 : decode cL_acts 668 = .ok (.if_icmp .ne 8, 3) := by decide +kernel
theorem dL_acts_671 : decode cL_acts 671 = .ok (.iload 13, 2) := by decide +kernel
theorem dL_acts_673 : decode cL_acts 673 = .ok (.goto 10, 3) := by decide +kernel
theorem dL_acts_676 : decode cL_acts 676 = .ok (.aload_n 2, 1) := by decide +kernel
theorem dL_acts_677 : decode cL_acts 677 = .ok (.iload 14, 2) := by decide +kernel
theorem dL_acts_679 : decode cL_acts 679 = .ok (.iload 17, 2) := by decide +kernel
theorem dL_acts_681 : decode cL_acts 681 = .ok (.iadd, 1) := by decide +kernel
theorem dL_acts_682 : decode cL_acts 682 = .ok (.iaload, 1) := by decide +kernel
theorem dL_acts_683 : decode cL_acts 683 = .ok (.iastore, 1) := by decide +kernel
theorem dL_acts_684 : decode cL_acts 684 = .ok (.iinc 17 (-1), 3) := by decide +kernel
theorem dL_acts_687 : decode cL_acts 687 = .ok (.goto (-43), 3) := by decide +kernel
theorem dL_acts_690 : decode cL_acts 690 = .ok (.aload_n 2, 1) := by decide +kernel
theorem dL_acts_691 : decode cL_acts 691 = .ok (.iload 14, 2) := by decide +kernel
theorem dL_acts_693 : decode cL_acts 693 = .ok (.dup2, 1) := by decide +kernel
theorem dL_acts_694 : decode cL_acts 694 = .ok (.iaload, 1) := by decide +kernel
theorem dL_acts_695 : decode cL_acts 695 = .ok (.iload 16, 2) := by decide +kernel
theorem dL_acts_697 : decode cL_acts 697 = .ok (.ifCond .eq 7, 3) := by decide +kernel
theorem dL_acts_700 : decode cL_acts 700 = .ok (.iconst (-1), 1) := by decide +kernel
theorem dL_acts_701 : decode cL_acts 701 = .ok (.goto 4, 3) := by decide +kernel
theorem dL_acts_704 : decode cL_acts 704 = .ok (.iconst 1, 1) := by decide +kernel
theorem dL_acts_705 : decode cL_acts 705 = .ok (.iadd, 1) := by decide +kernel
theorem dL_acts_706 : decode cL_acts 706 = .ok (.iastore, 1) := by decide +kernel
theorem dL_acts_707 : decode cL_acts 707 = .ok (.aload_n 0, 1) := by decide +kernel
theorem dL_acts_708 : decode cL_acts 708 = .ok (.iload 7, 2) := by decide +kernel
theorem dL_acts_710 : decode cL_acts 710 = .ok (.iload 13, 2) := by decide +kernel
theorem dL_acts_712 : decode cL_acts 712 = .ok (.invokestatic 85, 3) := by decide +kernel
theorem dL_acts_715 : decode cL_acts 715 = .ok (.aload_n 2, 1) := by decide +kernel
theorem dL_acts_716 : decode cL_acts 716 = .ok (.iload 14, 2) := by decide +kernel
theorem dL_acts_718 : decode cL_acts 718 = .ok (.iaload, 1) := by decide +kernel
theorem dL_acts_719 : decode cL_acts 719 = .ok (.if_icmp .ne 7, 3) := by decide +kernel
theorem dL_acts_722 : decode cL_acts 722 = .ok (.iconst 1, 1) := by decide +kernel
theorem dL_acts_723 : decode cL_acts 723 = .ok (.goto 4, 3) := by decide +kernel
theorem dL_acts_726 : decode cL_acts 726 = .ok (.iconst 0, 1) := by decide +kernel
theorem dL_acts_727 : decode cL_acts 727 = .ok (.ireturn, 1) := by decide +kernel
theorem dL_acts_728 : decode cL_acts 728 = .ok (.aload_n 1, 1) := by decide +kernel
theorem dL_acts_729 : decode cL_acts 729 = .ok (.bipush 9, 2) := by decide +kernel
theorem dL_acts_731 : decode cL_acts 731 = .ok (.iaload, 1) := by decide +kernel
theorem dL_acts_732 : decode cL_acts 732 = .ok (.ifCond .eq 10, 3) := by decide +kernel
theorem dL_acts_735 : decode cL_acts 735 = .ok (.iload 5, 2) := by decide +kernel
theorem dL_acts_737 : decode cL_acts 737 = .ok (.iconst 3, 1) := by decide +kernel
theorem dL_acts_738 : decode cL_acts 738 = .ok (.irem, 1) := by decide +kernel
theorem dL_acts_739 : decode cL_acts 739 = .ok (.ifCond .le 22, 3) := by decide +kernel
theorem dL_acts_742 : decode cL_acts 742 = .ok (.aload_n 0, 1) := by decide +kernel
theorem dL_acts_743 : decode cL_acts 743 = .ok (.aload_n 1, 1) := by decide +kernel
theorem dL_acts_744 : decode cL_acts 744 = .ok (.bipush 9, 2) := by decide +kernel
theorem dL_acts_746 : decode cL_acts 746 = .ok (.iaload, 1) := by decide +kernel
theorem dL_acts_747 : decode cL_acts 747 = .ok (.invokestatic 89, 3) := by decide +kernel
theorem dL_acts_750 : decode cL_acts 750 = .ok (.ldc 93, 2) := by decide +kernel
theorem dL_acts_752 : decode cL_acts 752 = .ok (.if_icmp .ne 7, 3) := by decide +kernel
theorem dL_acts_755 : decode cL_acts 755 = .ok (.iconst 1, 1) := by decide +kernel
theorem dL_acts_756 : decode cL_acts 756 = .ok (.goto 4, 3) := by decide +kernel
theorem dL_acts_759 : decode cL_acts 759 = .ok (.iconst 0, 1) := by decide +kernel
theorem dL_acts_760 : decode cL_acts 760 = .ok (.ireturn, 1) := by decide +kernel
theorem dL_acts_761 : decode cL_acts 761 = .ok (.aload_n 3, 1) := by decide +kernel
theorem dL_acts_762 : decode cL_acts 762 = .ok (.iload 6, 2) := by decide +kernel
theorem dL_acts_764 : decode cL_acts 764 = .ok (.invokestatic 94, 3) := by decide +kernel
theorem dL_acts_767 : decode cL_acts 767 = .ok (.aload_n 1, 1) := by decide +kernel
theorem dL_acts_768 : decode cL_acts 768 = .ok (.bipush 9, 2) := by decide +kernel
theorem dL_acts_770 : decode cL_acts 770 = .ok (.dup2, 1) := by decide +kernel
theorem dL_acts_771 : decode cL_acts 771 = .ok (.iaload, 1) := by decide +kernel
theorem dL_acts_772 : decode cL_acts 772 = .ok (.iconst 1, 1) := by decide +kernel
theorem dL_acts_773 : decode cL_acts 773 = .ok (.isub, 1) := by decide +kernel
theorem dL_acts_774 : decode cL_acts 774 = .ok (.iastore, 1) := by decide +kernel
theorem dL_acts_775 : decode cL_acts 775 = .ok (.aload_n 0, 1) := by decide +kernel
theorem dL_acts_776 : decode cL_acts 776 = .ok (.iload 6, 2) := by decide +kernel
theorem dL_acts_778 : decode cL_acts 778 = .ok (.invokestatic 89, 3) := by decide +kernel
theorem dL_acts_781 : decode cL_acts 781 = .ok (.aload_n 1, 1) := by decide +kernel
theorem dL_acts_782 : decode cL_acts 782 = .ok (.bipush 9, 2) := by decide +kernel
theorem dL_acts_784 : decode cL_acts 784 = .ok (.iaload, 1) := by decide +kernel
theorem dL_acts_785 : decode cL_acts 785 = .ok (.if_icmp .ne 7, 3) := by decide +kernel
theorem dL_acts_788 : decode cL_acts 788 = .ok (.iconst 1, 1) := by decide +kernel
theorem dL_acts_789 : decode cL_acts 789 = .ok (.goto 4, 3) := by decide +kernel
theorem dL_acts_792 : decode cL_acts 792 = .ok (.iconst 0, 1) := by decide +kernel
theorem dL_acts_793 : decode cL_acts 793 = .ok (.ireturn, 1) := by decide +kernel
theorem dL_acts_794 : decode cL_acts 794 = .ok (.aload_n 1, 1) := by decide +kernel
theorem dL_acts_795 : decode cL_acts 795 = .ok (.bipush 9, 2) := by decide +kernel
theorem dL_acts_797 : decode cL_acts 797 = .ok (.iaload, 1) := by decide +kernel
theorem dL_acts_798 : decode cL_acts 798 = .ok (.ifCond .ne 23, 3) := by decide +kernel
theorem dL_acts_801 : decode cL_acts 801 = .ok (.aload_n 0, 1) := by decide +kernel
theorem dL_acts_802 : decode cL_acts 802 = .ok (.iconst 0, 1) := by decide +kernel
theorem dL_acts_803 : decode cL_acts 803 = .ok (.sipush 200, 3) := by decide +kernel
theorem dL_acts_806 : decode cL_acts 806 = .ok (.iconst 0, 1) := by decide +kernel
theorem dL_acts_807 : decode cL_acts 807 = .ok (.invokestatic 98, 3) := by decide +kernel
theorem dL_acts_810 : decode cL_acts 810 = .ok (.ldc 93, 2) := by decide +kernel
theorem dL_acts_812 : decode cL_acts 812 = .ok (.if_icmp .ne 7, 3) := by decide +kernel
theorem dL_acts_815 : decode cL_acts 815 = .ok (.iconst 1, 1) := by decide +kernel
theorem dL_acts_816 : decode cL_acts 816 = .ok (.goto 4, 3) := by decide +kernel
theorem dL_acts_819 : decode cL_acts 819 = .ok (.iconst 0, 1) := by decide +kernel
theorem dL_acts_820 : decode cL_acts 820 = .ok (.ireturn, 1) := by decide +kernel
theorem dL_acts_821 : decode cL_acts 821 = .ok (.aload_n 3, 1) := by decide +kernel
theorem dL_acts_822 : decode cL_acts 822 = .ok (.iconst 5, 1) := by decide +kernel
theorem dL_acts_823 : decode cL_acts 823 = .ok (.iload 6, 2) := by decide +kernel
theorem dL_acts_825 : decode cL_acts 825 = .ok (.imul, 1) := by decide +kernel
theorem dL_acts_826 : decode cL_acts 826 = .ok (.iconst 1, 1) := by decide +kernel
theorem dL_acts_827 : decode cL_acts 827 = .ok (.iadd, 1) := by decide +kernel
theorem dL_acts_828 : decode cL_acts 828 = .ok (.iaload, 1) := by decide +kernel
theorem dL_acts_829 : decode cL_acts 829 = .ok (.istore 17, 2) := by decide +kernel
theorem dL_acts_831 : decode cL_acts 831 = .ok (.aload_n 3, 1) := by decide +kernel
theorem dL_acts_832 : decode cL_acts 832 = .ok (.iconst 5, 1) := by decide +kernel
theorem dL_acts_833 : decode cL_acts 833 = .ok (.iload 6, 2) := by decide +kernel
theorem dL_acts_835 : decode cL_acts 835 = .ok (.imul, 1) := by decide +kernel
theorem dL_acts_836 : decode cL_acts 836 = .ok (.iconst 1, 1) := by decide +kernel
theorem dL_acts_837 : decode cL_acts 837 = .ok (.iadd, 1) := by decide +kernel
theorem dL_acts_838 : decode cL_acts 838 = .ok (.iload 5, 2) := by decide +kernel
theorem dL_acts_840 : decode cL_acts 840 = .ok (.bipush 12, 2) := by decide +kernel
theorem dL_acts_842 : decode cL_acts 842 = .ok (.idiv, 1) := by decide +kernel
theorem dL_acts_843 : decode cL_acts 843 = .ok (.bipush 120, 2) := by decide +kernel
theorem dL_acts_845 : decode cL_acts 845 = .ok (.irem, 1) := by decide +kernel
theorem dL_acts_846 : decode cL_acts 846 = .ok (.iastore, 1) := by decide +kernel
theorem dL_acts_847 : decode cL_acts 847 = .ok (.aload_n 3, 1) := by decide +kernel
theorem dL_acts_848 : decode cL_acts 848 = .ok (.iconst 5, 1) := by decide +kernel
theorem dL_acts_849 : decode cL_acts 849 = .ok (.iload 6, 2) := by decide +kernel
theorem dL_acts_851 : decode cL_acts 851 = .ok (.imul, 1) := by decide +kernel
theorem dL_acts_852 : decode cL_acts 852 = .ok (.iconst 2, 1) := by decide +kernel
theorem dL_acts_853 : decode cL_acts 853 = .ok (.iadd, 1) := by decide +kernel
theorem dL_acts_854 : decode cL_acts 854 = .ok (.iload 5, 2) := by decide +kernel
theorem dL_acts_856 : decode cL_acts 856 = .ok (.sipush 1440, 3) := by decide +kernel
theorem dL_acts_859 : decode cL_acts 859 = .ok (.idiv, 1) := by decide +kernel
theorem dL_acts_860 : decode cL_acts 860 = .ok (.bipush 120, 2) := by decide +kernel
theorem dL_acts_862 : decode cL_acts 862 = .ok (.irem, 1) := by decide +kernel
theorem dL_acts_863 : decode cL_acts 863 = .ok (.iastore, 1) := by decide +kernel
theorem dL_acts_864 : decode cL_acts 864 = .ok (.aload_n 0, 1) := by decide +kernel
theorem dL_acts_865 : decode cL_acts 865 = .ok (.iload 6, 2) := by decide +kernel
theorem dL_acts_867 : decode cL_acts 867 = .ok (.aload_n 3, 1) := by decide +kernel
theorem dL_acts_868 : decode cL_acts 868 = .ok (.iconst 5, 1) := by decide +kernel
theorem dL_acts_869 : decode cL_acts 869 = .ok (.iload 6, 2) := by decide +kernel
theorem dL_acts_871 : decode cL_acts 871 = .ok (.imul, 1) := by decide +kernel
theorem dL_acts_872 : decode cL_acts 872 = .ok (.iconst 1, 1) := by decide +kernel
theorem dL_acts_873 : decode cL_acts 873 = .ok (.iadd, 1) := by decide +kernel
theorem dL_acts_874 : decode cL_acts 874 = .ok (.iaload, 1) := by decide +kernel
theorem dL_acts_875 : decode cL_acts 875 = .ok (.aload_n 3, 1) := by decide +kernel
theorem dL_acts_876 : decode cL_acts 876 = .ok (.iconst 5, 1) := by decide +kernel
theorem dL_acts_877 : decode cL_acts 877 = .ok (.iload 6, 2) := by decide +kernel
theorem dL_acts_879 : decode cL_acts 879 = .ok (.imul, 1) := by decide +kernel
theorem dL_acts_880 : decode cL_acts 880 = .ok (.iconst 2, 1) := by decide +kernel
theorem dL_acts_881 : decode cL_acts 881 = .ok (.iadd, 1) := by decide +kernel
theorem dL_acts_882 : decode cL_acts 882 = .ok (.iaload, 1) := by decide +kernel
theorem dL_acts_883 : decode cL_acts 883 = .ok (.invokestatic 98, 3) := by decide +kernel
theorem dL_acts_886 : decode cL_acts 886 = .ok (.iload 17, 2) := by decide +kernel
theorem dL_acts_888 : decode cL_acts 888 = .ok (.if_icmp .ne 7, 3) := by decide +kernel
theorem dL_acts_891 : decode cL_acts 891 = .ok (.iconst 1, 1) := by decide +kernel
theorem dL_acts_892 : decode cL_acts 892 = .ok (.goto 4, 3) := by decide +kernel
theorem dL_acts_895 : decode cL_acts 895 = .ok (.iconst 0, 1) := by decide +kernel
theorem dL_acts_896 : decode cL_acts 896 = .ok (.ireturn, 1) := by decide +kernel
theorem dL_acts_897 : decode cL_acts 897 = .ok (.aload_n 1, 1) := by decide +kernel
theorem dL_acts_898 : decode cL_acts 898 = .ok (.bipush 9, 2) := by decide +kernel
theorem dL_acts_900 : decode cL_acts 900 = .ok (.iaload, 1) := by decide +kernel
theorem dL_acts_901 : decode cL_acts 901 = .ok (.bipush 12, 2) := by decide +kernel
theorem dL_acts_903 : decode cL_acts 903 = .ok (.if_icmp .ne 26, 3) := by decide +kernel
theorem dL_acts_906 : decode cL_acts 906 = .ok (.aload_n 0, 1) := by decide +kernel
theorem dL_acts_907 : decode cL_acts 907 = .ok (.iload 7, 2) := by decide +kernel
theorem dL_acts_909 : decode cL_acts 909 = .ok (.sipush 200, 3) := by decide +kernel
theorem dL_acts_912 : decode cL_acts 912 = .ok (.iconst 0, 1) := by decide +kernel
theorem dL_acts_913 : decode cL_acts 913 = .ok (.iconst 0, 1) := by decide +kernel
theorem dL_acts_914 : decode cL_acts 914 = .ok (.iconst 0, 1) := by decide +kernel
theorem dL_acts_915 : decode cL_acts 915 = .ok (.invokestatic 101, 3) := by decide +kernel
theorem dL_acts_918 : decode cL_acts 918 = .ok (.ldc 104, 2) := by decide +kernel
theorem dL_acts_920 : decode cL_acts 920 = .ok (.if_icmp .ne 7, 3) := by decide +kernel
theorem dL_acts_923 : decode cL_acts 923 = .ok (.iconst 1, 1) := by decide +kernel
theorem dL_acts_924 : decode cL_acts 924 = .ok (.goto 4, 3) := by decide +kernel
theorem dL_acts_927 : decode cL_acts 927 = .ok (.iconst 0, 1) := by decide +kernel
theorem dL_acts_928 : decode cL_acts 928 = .ok (.ireturn, 1) := by decide +kernel
theorem dL_acts_929 : decode cL_acts 929 = .ok (.iconst 5, 1) := by decide +kernel
theorem dL_acts_930 : decode cL_acts 930 = .ok (.aload_n 1, 1) := by decide +kernel
theorem dL_acts_931 : decode cL_acts 931 = .ok (.bipush 9, 2) := by decide +kernel
theorem dL_acts_933 : decode cL_acts 933 = .ok (.iaload, 1) := by decide +kernel
theorem dL_acts_934 : decode cL_acts 934 = .ok (.imul, 1) := by decide +kernel
theorem dL_acts_935 : decode cL_acts 935 = .ok (.istore 18, 2) := by decide +kernel
theorem dL_acts_937 : decode cL_acts 937 = .ok (.aload_n 3, 1) := by decide +kernel
theorem dL_acts_938 : decode cL_acts 938 = .ok (.iload 18, 2) := by decide +kernel
theorem dL_acts_940 : decode cL_acts 940 = .ok (.iload 7, 2) := by decide +kernel
theorem dL_acts_942 : decode cL_acts 942 = .ok (.iastore, 1) := by decide +kernel
theorem dL_acts_943 : decode cL_acts 943 = .ok (.aload_n 3, 1) := by decide +kernel
theorem dL_acts_944 : decode cL_acts 944 = .ok (.iload 18, 2) := by decide +kernel
theorem dL_acts_946 : decode cL_acts 946 = .ok (.iconst 1, 1) := by decide +kernel
theorem dL_acts_947 : decode cL_acts 947 = .ok (.iadd, 1) := by decide +kernel
theorem dL_acts_948 : decode cL_acts 948 = .ok (.iload 5, 2) := by decide +kernel
theorem dL_acts_950 : decode cL_acts 950 = .ok (.iconst 4, 1) := by decide +kernel
theorem dL_acts_951 : decode cL_acts 951 = .ok (.idiv, 1) := by decide +kernel
theorem dL_acts_952 : decode cL_acts 952 = .ok (.iload 5, 2) := by decide +kernel
theorem dL_acts_954 : decode cL_acts 954 = .ok (.iconst 2, 1) := by decide +kernel
theorem dL_acts_955 : decode cL_acts 955 = .ok (.irem, 1) := by decide +kernel
theorem dL_acts_956 : decode cL_acts 956 = .ok (.ifCond .ne 8, 3) := by decide +kernel
theorem dL_acts_959 : decode cL_acts 959 = .ok (.bipush 120, 2) := by decide +kernel
theorem dL_acts_961 : decode cL_acts 961 = .ok (.goto 5, 3) := by decide +kernel
theorem dL_acts_964 : decode cL_acts 964 = .ok (.bipush 40, 2) := by decide +kernel
theorem dL_acts_966 : decode cL_acts 966 = .ok (.irem, 1) := by decide +kernel
theorem dL_acts_967 : decode cL_acts 967 = .ok (.iastore, 1) := by decide +kernel
theorem dL_acts_968 : decode cL_acts 968 = .ok (.aload_n 3, 1) := by decide +kernel
theorem dL_acts_969 : decode cL_acts 969 = .ok (.iload 18, 2) := by decide +kernel
theorem dL_acts_971 : decode cL_acts 971 = .ok (.iconst 2, 1) := by decide +kernel
theorem dL_acts_972 : decode cL_acts 972 = .ok (.iadd, 1) := by decide +kernel
theorem dL_acts_973 : decode cL_acts 973 = .ok (.iload 5, 2) := by decide +kernel
theorem dL_acts_975 : decode cL_acts 975 = .ok (.sipush 480, 3) := by decide +kernel
theorem dL_acts_978 : decode cL_acts 978 = .ok (.idiv, 1) := by decide +kernel
theorem dL_acts_979 : decode cL_acts 979 = .ok (.iload 5, 2) := by decide +kernel
theorem dL_acts_981 : decode cL_acts 981 = .ok (.iconst 2, 1) := by decide +kernel
theorem dL_acts_982 : decode cL_acts 982 = .ok (.irem, 1) := by decide +kernel
theorem dL_acts_983 : decode cL_acts 983 = .ok (.ifCond .ne 8, 3) := by decide +kernel
theorem dL_acts_986 : decode cL_acts 986 = .ok (.bipush 120, 2) := by decide +kernel
theorem dL_acts_988 : decode cL_acts 988 = .ok (.goto 5, 3) := by decide +kernel
theorem dL_acts_991 : decode cL_acts 991 = .ok (.bipush 40, 2) := by decide +kernel
theorem dL_acts_993 : decode cL_acts 993 = .ok (.irem, 1) := by decide +kernel
theorem dL_acts_994 : decode cL_acts 994 = .ok (.iastore, 1) := by decide +kernel
theorem dL_acts_995 : decode cL_acts 995 = .ok (.aload_n 3, 1) := by decide +kernel
theorem dL_acts_996 : decode cL_acts 996 = .ok (.iload 18, 2) := by decide +kernel
theorem dL_acts_998 : decode cL_acts 998 = .ok (.iconst 3, 1) := by decide +kernel
theorem dL_acts_999 : decode cL_acts 999 = .ok (.iadd, 1) := by decide +kernel
theorem dL_acts_1000 : decode cL_acts 1000 = .ok (.iload 5, 2) := by decide +kernel
theorem dL_acts_1002 : decode cL_acts 1002 = .ok (.bipush 9, 2) := by decide +kernel
theorem dL_acts_1004 : decode cL_acts 1004 = .ok (.idiv, 1) := by decide +kernel
theorem dL_acts_1005 : decode cL_acts 1005 = .ok (.bipush 100, 2) := by decide +kernel
theorem dL_acts_1007 : decode cL_acts 1007 = .ok (.irem, 1) := by decide +kernel
theorem dL_acts_1008 : decode cL_acts 1008 = .ok (.iastore, 1) := by decide +kernel
theorem dL_acts_1009 : decode cL_acts 1009 = .ok (.aload_n 3, 1) := by decide +kernel
theorem dL_acts_1010 : decode cL_acts 1010 = .ok (.iload 18, 2) := by decide +kernel
theorem dL_acts_1012 : decode cL_acts 1012 = .ok (.iconst 4, 1) := by decide +kernel
theorem dL_acts_1013 : decode cL_acts 1013 = .ok (.iadd, 1) := by decide +kernel
theorem dL_acts_1014 : decode cL_acts 1014 = .ok (.iload 5, 2) := by decide +kernel
theorem dL_acts_1016 : decode cL_acts 1016 = .ok (.bipush 7, 2) := by decide +kernel
theorem dL_acts_1018 : decode cL_acts 1018 = .ok (.irem, 1) := by decide +kernel
theorem dL_acts_1019 : decode cL_acts 1019 = .ok (.ifCond .ne 14, 3) := by decide +kernel
theorem dL_acts_1022 : decode cL_acts 1022 = .ok (.iload 5, 2) := by decide +kernel
theorem dL_acts_1024 : decode cL_acts 1024 = .ok (.bipush 7, 2) := by decide +kernel
theorem dL_acts_1026 : decode cL_acts 1026 = .ok (.idiv, 1) := by decide +kernel
theorem dL_acts_1027 : decode cL_acts 1027 = .ok (.bipush 6, 2) := by decide +kernel
theorem dL_acts_1029 : decode cL_acts 1029 = .ok (.irem, 1) := by decide +kernel
theorem dL_acts_1030 : decode cL_acts 1030 = .ok (.goto 4, 3) := by decide +kernel
theorem dL_acts_1033 : decode cL_acts 1033 = .ok (.iconst 0, 1) := by decide +kernel
theorem dL_acts_1034 : decode cL_acts 1034 = .ok (.iastore, 1) := by decide +kernel
theorem dL_acts_1035 : decode cL_acts 1035 = .ok (.aload_n 1, 1) := by decide +kernel
theorem dL_acts_1036 : decode cL_acts 1036 = .ok (.bipush 9, 2) := by decide +kernel
theorem dL_acts_1038 : decode cL_acts 1038 = .ok (.dup2, 1) := by decide +kernel
theorem dL_acts_1039 : decode cL_acts 1039 = .ok (.iaload, 1) := by decide +kernel
theorem dL_acts_1040 : decode cL_acts 1040 = .ok (.iconst 1, 1) := by decide +kernel
theorem dL_acts_1041 : decode cL_acts 1041 = .ok (.iadd, 1) := by decide +kernel
theorem dL_acts_1042 : decode cL_acts 1042 = .ok (.iastore, 1) := by decide +kernel
theorem dL_acts_1043 : decode cL_acts 1043 = .ok (.aload_n 0, 1) := by decide +kernel
theorem dL_acts_1044 : decode cL_acts 1044 = .ok (.iload 7, 2) := by decide +kernel
theorem dL_acts_1046 : decode cL_acts 1046 = .ok (.aload_n 3, 1) := by decide +kernel
theorem dL_acts_1047 : decode cL_acts 1047 = .ok (.iload 18, 2) := by decide +kernel
theorem dL_acts_1049 : decode cL_acts 1049 = .ok (.iconst 1, 1) := by decide +kernel
theorem dL_acts_1050 : decode cL_acts 1050 = .ok (.iadd, 1) := by decide +kernel
theorem dL_acts_1051 : decode cL_acts 1051 = .ok (.iaload, 1) := by decide +kernel
theorem dL_acts_1052 : decode cL_acts 1052 = .ok (.aload_n 3, 1) := by decide +kernel
theorem dL_acts_1053 : decode cL_acts 1053 = .ok (.iload 18, 2) := by decide +kernel
theorem dL_acts_1055 : decode cL_acts 1055 = .ok (.iconst 2, 1) := by decide +kernel
theorem dL_acts_1056 : decode cL_acts 1056 = .ok (.iadd, 1) := by decide +kernel
theorem dL_acts_1057 : decode cL_acts 1057 = .ok (.iaload, 1) := by decide +kernel
theorem dL_acts_1058 : decode cL_acts 1058 = .ok (.aload_n 3, 1) := by decide +kernel
theorem dL_acts_1059 : decode cL_acts 1059 = .ok (.iload 18, 2) := by decide +kernel
theorem dL_acts_1061 : decode cL_acts 1061 = .ok (.iconst 3, 1) := by decide +kernel
theorem dL_acts_1062 : decode cL_acts 1062 = .ok (.iadd, 1) := by decide +kernel
theorem dL_acts_1063 : decode cL_acts 1063 = .ok (.iaload, 1) := by decide +kernel
theorem dL_acts_1064 : decode cL_acts 1064 = .ok (.aload_n 3, 1) := by decide +kernel
theorem dL_acts_1065 : decode cL_acts 1065 = .ok (.iload 18, 2) := by decide +kernel
theorem dL_acts_1067 : decode cL_acts 1067 = .ok (.iconst 4, 1) := by decide +kernel
theorem dL_acts_1068 : decode cL_acts 1068 = .ok (.iadd, 1) := by decide +kernel
theorem dL_acts_1069 : decode cL_acts 1069 = .ok (.iaload, 1) := by decide +kernel
theorem dL_acts_1070 : decode cL_acts 1070 = .ok (.invokestatic 101, 3) := by decide +kernel
theorem dL_acts_1073 : decode cL_acts 1073 = .ok (.aload_n 1, 1) := by decide +kernel
theorem dL_acts_1074 : decode cL_acts 1074 = .ok (.bipush 9, 2) := by decide +kernel
theorem dL_acts_1076 : decode cL_acts 1076 = .ok (.iaload, 1) := by decide +kernel
theorem dL_acts_1077 : decode cL_acts 1077 = .ok (.iconst 1, 1) := by decide +kernel
theorem dL_acts_1078 : decode cL_acts 1078 = .ok (.isub, 1) := by decide +kernel
theorem dL_acts_1079 : decode cL_acts 1079 = .ok (.if_icmp .ne 7, 3) := by decide +kernel
theorem dL_acts_1082 : decode cL_acts 1082 = .ok (.iconst 1, 1) := by decide +kernel
theorem dL_acts_1083 : decode cL_acts 1083 = .ok (.goto 4, 3) := by decide +kernel
theorem dL_acts_1086 : decode cL_acts 1086 = .ok (.iconst 0, 1) := by decide +kernel
theorem dL_acts_1087 : decode cL_acts 1087 = .ok (.ireturn, 1) := by decide +kernel
theorem dL_isSo_0 : decode cL_isSo 0 = .ok (.aload_n 1, 1) := by decide +kernel
theorem dL_isSo_1 : decode cL_isSo 1 = .ok (.aload_n 2, 1) := by decide +kernel
theorem dL_isSo_2 : decode cL_isSo 2 = .ok (.aload_n 3, 1) := by decide +kernel
theorem dL_isSo_3 : decode cL_isSo 3 = .ok (.aload 4, 2) := by decide +kernel
theorem dL_isSo_5 : decode cL_isSo 5 = .ok (.invokestatic 155, 3) := by decide +kernel
theorem dL_isSo_8 : decode cL_isSo 8 = .ok (.aload_n 0, 1) := by decide +kernel
theorem dL_isSo_9 : decode cL_isSo 9 = .ok (.invokevirtual 158, 3) := by decide +kernel
theorem dL_isSo_12 : decode cL_isSo 12 = .ok (.aload 4, 2) := by decide +kernel
theorem dL_isSo_14 : decode cL_isSo 14 = .ok (.iconst 0, 1) := by decide +kernel
theorem dL_isSo_15 : decode cL_isSo 15 = .ok (.iaload, 1) := by decide +kernel
theorem dL_isSo_16 : decode cL_isSo 16 = .ok (.if_icmp .ne 99, 3) := by decide +kernel
theorem dL_isSo_19 : decode cL_isSo 19 = .ok (.aload_n 0, 1) := by decide +kernel
theorem dL_isSo_20 : decode cL_isSo 20 = .ok (.invokevirtual 162, 3) := by decide +kernel
theorem dL_isSo_23 : decode cL_isSo 23 = .ok (.aload 4, 2) := by decide +kernel
theorem dL_isSo_25 : decode cL_isSo 25 = .ok (.bipush 9, 2) := by decide +kernel
theorem dL_isSo_27 : decode cL_isSo 27 = .ok (.iaload, 1) := by decide +kernel
theorem dL_isSo_28 : decode cL_isSo 28 = .ok (.if_icmp .ne 87, 3) := by decide +kernel
theorem dL_isSo_31 : decode cL_isSo 31 = .ok (.aload_n 0, 1) := by decide +kernel
theorem dL_isSo_32 : decode cL_isSo 32 = .ok (.iconst 0, 1) := by decide +kernel
theorem dL_isSo_33 : decode cL_isSo 33 = .ok (.invokestatic 165, 3) := by decide +kernel
theorem dL_isSo_36 : decode cL_isSo 36 = .ok (.aload 4, 2) := by decide +kernel
theorem dL_isSo_38 : decode cL_isSo 38 = .ok (.iconst 1, 1) := by decide +kernel
theorem dL_isSo_39 : decode cL_isSo 39 = .ok (.iaload, 1) := by decide +kernel
theorem dL_isSo_40 : decode cL_isSo 40 = .ok (.if_icmp .ne 75, 3) := by decide +kernel
theorem dL_isSo_43 : decode cL_isSo 43 = .ok (.aload_n 0, 1) := by decide +kernel
theorem dL_isSo_44 : decode cL_isSo 44 = .ok (.iconst 1, 1) := by decide +kernel
theorem dL_isSo_45 : decode cL_isSo 45 = .ok (.invokestatic 165, 3) := by decide +kernel
theorem dL_isSo_48 : decode cL_isSo 48 = .ok (.aload 4, 2) := by decide +kernel
theorem dL_isSo_50 : decode cL_isSo 50 = .ok (.iconst 2, 1) := by decide +kernel
theorem dL_isSo_51 : decode cL_isSo 51 = .ok (.iaload, 1) := by decide +kernel
theorem dL_isSo_52 : decode cL_isSo 52 = .ok (.if_icmp .ne 63, 3) := by decide +kernel
theorem dL_isSo_55 : decode cL_isSo 55 = .ok (.aload_n 0, 1) := by decide +kernel
theorem dL_isSo_56 : decode cL_isSo 56 = .ok (.iconst 2, 1) := by decide +kernel
theorem dL_isSo_57 : decode cL_isSo 57 = .ok (.invokestatic 165, 3) := by decide +kernel
theorem dL_isSo_60 : decode cL_isSo 60 = .ok (.aload_n 1, 1) := by decide +kernel
theorem dL_isSo_61 : decode cL_isSo 61 = .ok (.aload_n 3, 1) := by decide +kernel
theorem dL_isSo_62 : decode cL_isSo 62 = .ok (.aload 4, 2) := by decide +kernel
theorem dL_isSo_64 : decode cL_isSo 64 = .ok (.invokestatic 53, 3) := by decide +kernel
theorem dL_isSo_67 : decode cL_isSo 67 = .ok (.aload 4, 2) := by decide +kernel
theorem dL_isSo_69 : decode cL_isSo 69 = .ok (.iconst 3, 1) := by decide +kernel
theorem dL_isSo_70 : decode cL_isSo 70 = .ok (.iaload, 1) := by decide +kernel
theorem dL_isSo_71 : decode cL_isSo 71 = .ok (.iand, 1) := by decide +kernel
theorem dL_isSo_72 : decode cL_isSo 72 = .ok (.invokestatic 31, 3) := by decide +kernel
theorem dL_isSo_75 : decode cL_isSo 75 = .ok (.if_icmp .ne 40, 3) := by decide +kernel
theorem dL_isSo_78 : decode cL_isSo 78 = .ok (.aload_n 0, 1) := by decide +kernel
theorem dL_isSo_79 : decode cL_isSo 79 = .ok (.bipush 10, 2) := by decide +kernel
theorem dL_isSo_81 : decode cL_isSo 81 = .ok (.invokestatic 168, 3) := by decide +kernel
theorem dL_isSo_84 : decode cL_isSo 84 = .ok (.aload_n 1, 1) := by decide +kernel
theorem dL_isSo_85 : decode cL_isSo 85 = .ok (.aload_n 3, 1) := by decide +kernel
theorem dL_isSo_86 : decode cL_isSo 86 = .ok (.invokestatic 46, 3) := by decide +kernel
theorem dL_isSo_89 : decode cL_isSo 89 = .ok (.invokestatic 31, 3) := by decide +kernel
theorem dL_isSo_92 : decode cL_isSo 92 = .ok (.if_icmp .ne 23, 3) := by decide +kernel
theorem dL_isSo_95 : decode cL_isSo 95 = .ok (.aload_n 0, 1) := by decide +kernel
theorem dL_isSo_96 : decode cL_isSo 96 = .ok (.bipush 11, 2) := by decide +kernel
theorem dL_isSo_98 : decode cL_isSo 98 = .ok (.invokestatic 168, 3) := by decide +kernel
theorem dL_isSo_101 : decode cL_isSo 101 = .ok (.aload 4, 2) := by decide +kernel
theorem dL_isSo_103 : decode cL_isSo 103 = .ok (.iconst 3, 1) := by decide +kernel
theorem dL_isSo_104 : decode cL_isSo 104 = .ok (.iaload, 1) := by decide +kernel
theorem dL_isSo_105 : decode cL_isSo 105 = .ok (.invokestatic 31, 3) := by decide +kernel
theorem dL_isSo_108 : decode cL_isSo 108 = .ok (.if_icmp .ne 7, 3) := by decide +kernel
theorem dL_isSo_111 : decode cL_isSo 111 = .ok (.iconst 1, 1) := by decide +kernel
theorem dL_isSo_112 : decode cL_isSo 112 = .ok (.goto 4, 3) := by decide +kernel
theorem dL_isSo_115 : decode cL_isSo 115 = .ok (.iconst 0, 1) := by decide +kernel
theorem dL_isSo_116 : decode cL_isSo 116 = .ok (.istore 5, 2) := by decide +kernel
theorem dL_isSo_118 : decode cL_isSo 118 = .ok (.iconst 0, 1) := by decide +kernel
theorem dL_isSo_119 : decode cL_isSo 119 = .ok (.istore 6, 2) := by decide +kernel
theorem dL_isSo_121 : decode cL_isSo 121 = .ok (.iload 6, 2) := by decide +kernel
theorem dL_isSo_123 : decode cL_isSo 123 = .ok (.bipush 10, 2) := by decide +kernel
theorem dL_isSo_125 : decode cL_isSo 125 = .ok (.if_icmp .ge 34, 3) := by decide +kernel
theorem dL_isSo_128 : decode cL_isSo 128 = .ok (.iload 5, 2) := by decide +kernel
theorem dL_isSo_130 : decode cL_isSo 130 = .ok (.ifCond .eq 20, 3) := by decide +kernel
theorem dL_isSo_133 : decode cL_isSo 133 = .ok (.aload_n 0, 1) := by decide +kernel
theorem dL_isSo_134 : decode cL_isSo 134 = .ok (.iload 6, 2) := by decide +kernel
theorem dL_isSo_136 : decode cL_isSo 136 = .ok (.invokestatic 168, 3) := by decide +kernel
theorem dL_isSo_139 : decode cL_isSo 139 = .ok (.aload_n 1, 1) := by decide +kernel
theorem dL_isSo_140 : decode cL_isSo 140 = .ok (.iload 6, 2) := by decide +kernel
theorem dL_isSo_142 : decode cL_isSo 142 = .ok (.iaload, 1) := by decide +kernel
theorem dL_isSo_143 : decode cL_isSo 143 = .ok (.if_icmp .ne 7, 3) := by decide +kernel
theorem dL_isSo_146 : decode cL_isSo 146 = .ok (.iconst 1, 1) := by decide +kernel
theorem dL_isSo_147 : decode cL_isSo 147 = .ok (.goto 4, 3) := by decide +kernel
theorem dL_isSo_150 : decode cL_isSo 150 = .ok (.iconst 0, 1) := by decide +kernel
theorem dL_isSo_151 : decode cL_isSo 151 = .ok (.istore 5, 2) := by decide +kernel
theorem dL_isSo_153 : decode cL_isSo 153 = .ok (.iinc 6 1, 3) := by decide +kernel
theorem dL_isSo_156 : decode cL_isSo 156 = .ok (.goto (-35), 3) := by decide +kernel
theorem dL_isSo_159 : decode cL_isSo 159 = .ok (.iconst 0, 1) := by decide +kernel
theorem dL_isSo_160 : decode cL_isSo 160 = .ok (.istore 6, 2) := by decide +kernel
theorem dL_isSo_162 : decode cL_isSo 162 = .ok (.iload 6, 2) := by decide +kernel
theorem dL_isSo_164 : decode cL_isSo 164 = .ok (.iconst 5, 1) := by decide +kernel
theorem dL_isSo_165 : decode cL_isSo 165 = .ok (.if_icmp .ge 48, 3) := by decide +kernel
theorem dL_isSo_168 : decode cL_isSo 168 = .ok (.iload 5, 2) := by decide +kernel
theorem dL_isSo_170 : decode cL_isSo 170 = .ok (.ifCond .eq 34, 3) := by decide +kernel
theorem dL_isSo_173 : decode cL_isSo 173 = .ok (.aload_n 0, 1) := by decide +kernel
theorem dL_isSo_174 : decode cL_isSo 174 = .ok (.iload 6, 2) := by decide +kernel
theorem dL_isSo_176 : decode cL_isSo 176 = .ok (.invokestatic 171, 3) := by decide +kernel
theorem dL_isSo_179 : decode cL_isSo 179 = .ok (.aload 4, 2) := by decide +kernel
theorem dL_isSo_181 : decode cL_isSo 181 = .ok (.iconst 4, 1) := by decide +kernel
theorem dL_isSo_182 : decode cL_isSo 182 = .ok (.iaload, 1) := by decide +kernel
theorem dL_isSo_183 : decode cL_isSo 183 = .ok (.ifCond .ge 7, 3) := by decide +kernel
theorem dL_isSo_186 : decode cL_isSo 186 = .ok (.iconst (-1), 1) := by decide +kernel
theorem dL_isSo_187 : decode cL_isSo 187 = .ok (.goto 10, 3) := by decide +kernel
theorem dL_isSo_190 : decode cL_isSo 190 = .ok (.aload 4, 2) := by decide +kernel
theorem dL_isSo_192 : decode cL_isSo 192 = .ok (.iconst 4, 1) := by decide +kernel
theorem dL_isSo_193 : decode cL_isSo 193 = .ok (.iload 6, 2) := by decide +kernel
theorem dL_isSo_195 : decode cL_isSo 195 = .ok (.iadd, 1) := by decide +kernel
theorem dL_isSo_196 : decode cL_isSo 196 = .ok (.iaload, 1) := by decide +kernel
theorem dL_isSo_197 : decode cL_isSo 197 = .ok (.if_icmp .ne 7, 3) := by decide +kernel
theorem dL_isSo_200 : decode cL_isSo 200 = .ok (.iconst 1, 1) := by decide +kernel
theorem dL_isSo_201 : decode cL_isSo 201 = .ok (.goto 4, 3) := by decide +kernel
theorem dL_isSo_204 : decode cL_isSo 204 = .ok (.iconst 0, 1) := by decide +kernel
theorem dL_isSo_205 : decode cL_isSo 205 = .ok (.istore 5, 2) := by decide +kernel
theorem dL_isSo_207 : decode cL_isSo 207 = .ok (.iinc 6 1, 3) := by decide +kernel
theorem dL_isSo_210 : decode cL_isSo 210 = .ok (.goto (-48), 3) := by decide +kernel
theorem dL_isSo_213 : decode cL_isSo 213 = .ok (.iload 5, 2) := by decide +kernel
theorem dL_isSo_215 : decode cL_isSo 215 = .ok (.ifCond .eq 74, 3) := by decide +kernel
theorem dL_isSo_218 : decode cL_isSo 218 = .ok (.aload_n 0, 1) := by decide +kernel
theorem dL_isSo_219 : decode cL_isSo 219 = .ok (.iconst 5, 1) := by decide +kernel
theorem dL_isSo_220 : decode cL_isSo 220 = .ok (.invokestatic 171, 3) := by decide +kernel
theorem dL_isSo_223 : decode cL_isSo 223 = .ok (.aload 4, 2) := by decide +kernel
theorem dL_isSo_225 : decode cL_isSo 225 = .ok (.iconst 4, 1) := by decide +kernel
theorem dL_isSo_226 : decode cL_isSo 226 = .ok (.iaload, 1) := by decide +kernel
theorem dL_isSo_227 : decode cL_isSo 227 = .ok (.ifCond .ge 7, 3) := by decide +kernel
theorem dL_isSo_230 : decode cL_isSo 230 = .ok (.iconst (-1), 1) := by decide +kernel
theorem dL_isSo_231 : decode cL_isSo 231 = .ok (.goto 13, 3) := by decide +kernel
theorem dL_isSo_234 : decode cL_isSo 234 = .ok (.aload_n 1, 1) := by decide +kernel
theorem dL_isSo_235 : decode cL_isSo 235 = .ok (.aload_n 3, 1) := by decide +kernel
theorem dL_isSo_236 : decode cL_isSo 236 = .ok (.aload 4, 2) := by decide +kernel
theorem dL_isSo_238 : decode cL_isSo 238 = .ok (.invokestatic 53, 3) := by decide +kernel
theorem dL_isSo_241 : decode cL_isSo 241 = .ok (.invokestatic 31, 3) := by decide +kernel
theorem dL_isSo_244 : decode cL_isSo 244 = .ok (.if_icmp .ne 45, 3) := by decide +kernel
theorem dL_isSo_247 : decode cL_isSo 247 = .ok (.aload_n 0, 1) := by decide +kernel
theorem dL_isSo_248 : decode cL_isSo 248 = .ok (.invokevirtual 174, 3) := by decide +kernel
theorem dL_isSo_251 : decode cL_isSo 251 = .ok (.aload_n 1, 1) := by decide +kernel
theorem dL_isSo_252 : decode cL_isSo 252 = .ok (.aload_n 3, 1) := by decide +kernel
theorem dL_isSo_253 : decode cL_isSo 253 = .ok (.invokestatic 46, 3) := by decide +kernel
theorem dL_isSo_256 : decode cL_isSo 256 = .ok (.ifCond .ne 7, 3) := by decide +kernel
theorem dL_isSo_259 : decode cL_isSo 259 = .ok (.dconst 1, 1) := by decide +kernel
theorem dL_isSo_260 : decode cL_isSo 260 = .ok (.goto 21, 3) := by decide +kernel
theorem dL_isSo_263 : decode cL_isSo 263 = .ok (.aload 4, 2) := by decide +kernel
theorem dL_isSo_265 : decode cL_isSo 265 = .ok (.iconst 3, 1) := by decide +kernel
theorem dL_isSo_266 : decode cL_isSo 266 = .ok (.iaload, 1) := by decide +kernel
theorem dL_isSo_267 : decode cL_isSo 267 = .ok (.invokestatic 31, 3) := by decide +kernel
theorem dL_isSo_270 : decode cL_isSo 270 = .ok (.i2d, 1) := by decide +kernel
theorem dL_isSo_271 : decode cL_isSo 271 = .ok (.aload_n 1, 1) := by decide +kernel
theorem dL_isSo_272 : decode cL_isSo 272 = .ok (.aload_n 3, 1) := by decide +kernel
theorem dL_isSo_273 : decode cL_isSo 273 = .ok (.invokestatic 46, 3) := by decide +kernel
theorem dL_isSo_276 : decode cL_isSo 276 = .ok (.invokestatic 31, 3) := by decide +kernel
theorem dL_isSo_279 : decode cL_isSo 279 = .ok (.i2d, 1) := by decide +kernel
theorem dL_isSo_280 : decode cL_isSo 280 = .ok (.ddiv, 1) := by decide +kernel
theorem dL_isSo_281 : decode cL_isSo 281 = .ok (.dcmp .l, 1) := by decide +kernel
theorem dL_isSo_282 : decode cL_isSo 282 = .ok (.ifCond .ne 7, 3) := by decide +kernel
theorem dL_isSo_285 : decode cL_isSo 285 = .ok (.iconst 1, 1) := by decide +kernel
theorem dL_isSo_286 : decode cL_isSo 286 = .ok (.goto 4, 3) := by decide +kernel
theorem dL_isSo_289 : decode cL_isSo 289 = .ok (.iconst 0, 1) := by decide +kernel
theorem dL_isSo_290 : decode cL_isSo 290 = .ok (.istore 5, 2) := by decide +kernel
theorem dL_isSo_292 : decode cL_isSo 292 = .ok (.iconst 0, 1) := by decide +kernel
theorem dL_isSo_293 : decode cL_isSo 293 = .ok (.istore 6, 2) := by decide +kernel
theorem dL_isSo_295 : decode cL_isSo 295 = .ok (.iload 6, 2) := by decide +kernel
theorem dL_isSo_297 : decode cL_isSo 297 = .ok (.aload 4, 2) := by decide +kernel
theorem dL_isSo_299 : decode cL_isSo 299 = .ok (.iconst 0, 1) := by decide +kernel
theorem dL_isSo_300 : decode cL_isSo 300 = .ok (.iaload, 1) := by decide +kernel
theorem dL_isSo_301 : decode cL_isSo 301 = .ok (.if_icmp .ge 224, 3) := by decide +kernel
theorem dL_isSo_304 : decode cL_isSo 304 = .ok (.iload 5, 2) := by decide +kernel
theorem dL_isSo_306 : decode cL_isSo 306 = .ok (.ifCond .eq 219, 3) := by decide +kernel
theorem dL_isSo_309 : decode cL_isSo 309 = .ok (.aload 4, 2) := by decide +kernel
theorem dL_isSo_311 : decode cL_isSo 311 = .ok (.bipush 10, 2) := by decide +kernel
theorem dL_isSo_313 : decode cL_isSo 313 = .ok (.iload 6, 2) := by decide +kernel
theorem dL_isSo_315 : decode cL_isSo 315 = .ok (.iadd, 1) := by decide +kernel
theorem dL_isSo_316 : decode cL_isSo 316 = .ok (.iaload, 1) := by decide +kernel
theorem dL_isSo_317 : decode cL_isSo 317 = .ok (.istore 7, 2) := by decide +kernel
theorem dL_isSo_319 : decode cL_isSo 319 = .ok (.iconst 0, 1) := by decide +kernel
theorem dL_isSo_320 : decode cL_isSo 320 = .ok (.istore 8, 2) := by decide +kernel
theorem dL_isSo_322 : decode cL_isSo 322 = .ok (.iconst 0, 1) := by decide +kernel
theorem dL_isSo_323 : decode cL_isSo 323 = .ok (.istore 9, 2) := by decide +kernel
theorem dL_isSo_325 : decode cL_isSo 325 = .ok (.iload 9, 2) := by decide +kernel
theorem dL_isSo_327 : decode cL_isSo 327 = .ok (.aload_n 1, 1) := by decide +kernel
theorem dL_isSo_328 : decode cL_isSo 328 = .ok (.bipush 9, 2) := by decide +kernel
theorem dL_isSo_330 : decode cL_isSo 330 = .ok (.iaload, 1) := by decide +kernel
theorem dL_isSo_331 : decode cL_isSo 331 = .ok (.if_icmp .ge 33, 3) := by decide +kernel
theorem dL_isSo_334 : decode cL_isSo 334 = .ok (.iload 8, 2) := by decide +kernel
theorem dL_isSo_336 : decode cL_isSo 336 = .ok (.aload_n 2, 1) := by decide +kernel
theorem dL_isSo_337 : decode cL_isSo 337 = .ok (.aload_n 3, 1) := by decide +kernel
theorem dL_isSo_338 : decode cL_isSo 338 = .ok (.aload 4, 2) := by decide +kernel
theorem dL_isSo_340 : decode cL_isSo 340 = .ok (.iload 6, 2) := by decide +kernel
theorem dL_isSo_342 : decode cL_isSo 342 = .ok (.iload 9, 2) := by decide +kernel
theorem dL_isSo_344 : decode cL_isSo 344 = .ok (.invokestatic 178, 3) := by decide +kernel
theorem dL_isSo_347 : decode cL_isSo 347 = .ok (.ifCond .eq 7, 3) := by decide +kernel
theorem dL_isSo_350 : decode cL_isSo 350 = .ok (.iconst 1, 1) := by decide +kernel
theorem dL_isSo_351 : decode cL_isSo 351 = .ok (.goto 4, 3) := by decide +kernel
theorem dL_isSo_354 : decode cL_isSo 354 = .ok (.iconst 0, 1) := by decide +kernel
theorem dL_isSo_355 : decode cL_isSo 355 = .ok (.iadd, 1) := by decide +kernel
theorem dL_isSo_356 : decode cL_isSo 356 = .ok (.istore 8, 2) := by decide +kernel
theorem dL_isSo_358 : decode cL_isSo 358 = .ok (.iinc 9 1, 3) := by decide +kernel
theorem dL_isSo_361 : decode cL_isSo 361 = .ok (.goto (-36), 3) := by decide +kernel
theorem dL_isSo_364 : decode cL_isSo 364 = .ok (.aload_n 1, 1) := by decide +kernel
theorem dL_isSo_365 : decode cL_isSo 365 = .ok (.aload 4, 2) := by decide +kernel
theorem dL_isSo_367 : decode cL_isSo 367 = .ok (.iload 6, 2) := by decide +kernel
theorem dL_isSo_369 : decode cL_isSo 369 = .ok (.invokestatic 50, 3) := by decide +kernel
theorem dL_isSo_372 : decode cL_isSo 372 = .ok (.istore 9, 2) := by decide +kernel
theorem dL_isSo_374 : decode cL_isSo 374 = .ok (.aload_n 0, 1) := by decide +kernel
theorem dL_isSo_375 : decode cL_isSo 375 = .ok (.iload 6, 2) := by decide +kernel
theorem dL_isSo_377 : decode cL_isSo 377 = .ok (.iconst 0, 1) := by decide +kernel
theorem dL_isSo_378 : decode cL_isSo 378 = .ok (.invokestatic 182, 3) := by decide +kernel
theorem dL_isSo_381 : decode cL_isSo 381 = .ok (.iload 7, 2) := by decide +kernel
theorem dL_isSo_383 : decode cL_isSo 383 = .ok (.sipush 20000, 3) := by decide +kernel
theorem dL_isSo_386 : decode cL_isSo 386 = .ok (.idiv, 1) := by decide +kernel
theorem dL_isSo_387 : decode cL_isSo 387 = .ok (.if_icmp .ne 129, 3) := by decide +kernel
theorem dL_isSo_390 : decode cL_isSo 390 = .ok (.aload_n 0, 1) := by decide +kernel
theorem dL_isSo_391 : decode cL_isSo 391 = .ok (.iload 6, 2) := by decide +kernel
theorem dL_isSo_393 : decode cL_isSo 393 = .ok (.iconst 1, 1) := by decide +kernel
theorem dL_isSo_394 : decode cL_isSo 394 = .ok (.invokestatic 182, 3) := by decide +kernel
theorem dL_isSo_397 : decode cL_isSo 397 = .ok (.iload 7, 2) := by decide +kernel
theorem dL_isSo_399 : decode cL_isSo 399 = .ok (.sipush 1000, 3) := by decide +kernel
theorem dL_isSo_402 : decode cL_isSo 402 = .ok (.idiv, 1) := by decide +kernel
theorem dL_isSo_403 : decode cL_isSo 403 = .ok (.bipush 20, 2) := by decide +kernel
theorem dL_isSo_405 : decode cL_isSo 405 = .ok (.irem, 1) := by decide +kernel
theorem dL_isSo_406 : decode cL_isSo 406 = .ok (.iconst 1, 1) := by decide +kernel
theorem dL_isSo_407 : decode cL_isSo 407 = .ok (.isub, 1) := by decide +kernel
theorem dL_isSo_408 : decode cL_isSo 408 = .ok (.if_icmp .ne 108, 3) := by decide +kernel
theorem dL_isSo_411 : decode cL_isSo 411 = .ok (.aload_n 0, 1) := by decide +kernel
theorem dL_isSo_412 : decode cL_isSo 412 = .ok (.iload 6, 2) := by decide +kernel
theorem dL_isSo_414 : decode cL_isSo 414 = .ok (.iconst 2, 1) := by decide +kernel
theorem dL_isSo_415 : decode cL_isSo 415 = .ok (.invokestatic 182, 3) := by decide +kernel
theorem dL_isSo_418 : decode cL_isSo 418 = .ok (.iload 7, 2) := by decide +kernel
theorem dL_isSo_420 : decode cL_isSo 420 = .ok (.bipush 100, 2) := by decide +kernel
theorem dL_isSo_422 : decode cL_isSo 422 = .ok (.idiv, 1) := by decide +kernel
theorem dL_isSo_423 : decode cL_isSo 423 = .ok (.bipush 10, 2) := by decide +kernel
theorem dL_isSo_425 : decode cL_isSo 425 = .ok (.irem, 1) := by decide +kernel
theorem dL_isSo_426 : decode cL_isSo 426 = .ok (.iconst 1, 1) := by decide +kernel
theorem dL_isSo_427 : decode cL_isSo 427 = .ok (.isub, 1) := by decide +kernel
theorem dL_isSo_428 : decode cL_isSo 428 = .ok (.if_icmp .ne 88, 3) := by decide +kernel
theorem dL_isSo_431 : decode cL_isSo 431 = .ok (.aload_n 0, 1) := by decide +kernel
theorem dL_isSo_432 : decode cL_isSo 432 = .ok (.iload 6, 2) := by decide +kernel
theorem dL_isSo_434 : decode cL_isSo 434 = .ok (.iconst 3, 1) := by decide +kernel
theorem dL_isSo_435 : decode cL_isSo 435 = .ok (.invokestatic 182, 3) := by decide +kernel
theorem dL_isSo_438 : decode cL_isSo 438 = .ok (.iload 7, 2) := by decide +kernel
theorem dL_isSo_440 : decode cL_isSo 440 = .ok (.bipush 10, 2) := by decide +kernel
theorem dL_isSo_442 : decode cL_isSo 442 = .ok (.idiv, 1) := by decide +kernel
theorem dL_isSo_443 : decode cL_isSo 443 = .ok (.bipush 10, 2) := by decide +kernel
theorem dL_isSo_445 : decode cL_isSo 445 = .ok (.irem, 1) := by decide +kernel
theorem dL_isSo_446 : decode cL_isSo 446 = .ok (.iconst 1, 1) := by decide +kernel
theorem dL_isSo_447 : decode cL_isSo 447 = .ok (.isub, 1) := by decide +kernel
theorem dL_isSo_448 : decode cL_isSo 448 = .ok (.if_icmp .ne 68, 3) := by decide +kernel
theorem dL_isSo_451 : decode cL_isSo 451 = .ok (.aload_n 0, 1) := by decide +kernel
theorem dL_isSo_452 : decode cL_isSo 452 = .ok (.iload 6, 2) := by decide +kernel
theorem dL_isSo_454 : decode cL_isSo 454 = .ok (.iconst 4, 1) := by decide +kernel
theorem dL_isSo_455 : decode cL_isSo 455 = .ok (.invokestatic 182, 3) := by decide +kernel
theorem dL_isSo_458 : decode cL_isSo 458 = .ok (.iload 7, 2) := by decide +kernel
theorem dL_isSo_460 : decode cL_isSo 460 = .ok (.bipush 10, 2) := by decide +kernel
theorem dL_isSo_462 : decode cL_isSo 462 = .ok (.irem, 1) := by decide +kernel
theorem dL_isSo_463 : decode cL_isSo 463 = .ok (.iconst 1, 1) := by decide +kernel
theorem dL_isSo_464 : decode cL_isSo 464 = .ok (.isub, 1) := by decide +kernel
theorem dL_isSo_465 : decode cL_isSo 465 = .ok (.if_icmp .ne 51, 3) := by decide +kernel
theorem dL_isSo_468 : decode cL_isSo 468 = .ok (.aload_n 0, 1) := by decide +kernel
theorem dL_isSo_469 : decode cL_isSo 469 = .ok (.iload 6, 2) := by decide +kernel
theorem dL_isSo_471 : decode cL_isSo 471 = .ok (.iconst 5, 1) := by decide +kernel
theorem dL_isSo_472 : decode cL_isSo 472 = .ok (.invokestatic 182, 3) := by decide +kernel
theorem dL_isSo_475 : decode cL_isSo 475 = .ok (.iload 8, 2) := by decide +kernel
theorem dL_isSo_477 : decode cL_isSo 477 = .ok (.if_icmp .ne 39, 3) := by decide +kernel
theorem dL_isSo_480 : decode cL_isSo 480 = .ok (.aload_n 0, 1) := by decide +kernel
theorem dL_isSo_481 : decode cL_isSo 481 = .ok (.iload 6, 2) := by decide +kernel
theorem dL_isSo_483 : decode cL_isSo 483 = .ok (.bipush 6, 2) := by decide +kernel
theorem dL_isSo_485 : decode cL_isSo 485 = .ok (.invokestatic 182, 3) := by decide +kernel
theorem dL_isSo_488 : decode cL_isSo 488 = .ok (.iload 9, 2) := by decide +kernel
theorem dL_isSo_490 : decode cL_isSo 490 = .ok (.bipush 100, 2) := by decide +kernel
theorem dL_isSo_492 : decode cL_isSo 492 = .ok (.irem, 1) := by decide +kernel
theorem dL_isSo_493 : decode cL_isSo 493 = .ok (.if_icmp .ne 23, 3) := by decide +kernel
theorem dL_isSo_496 : decode cL_isSo 496 = .ok (.aload_n 0, 1) := by decide +kernel
theorem dL_isSo_497 : decode cL_isSo 497 = .ok (.iload 6, 2) := by decide +kernel
theorem dL_isSo_499 : decode cL_isSo 499 = .ok (.bipush 7, 2) := by decide +kernel
theorem dL_isSo_501 : decode cL_isSo 501 = .ok (.invokestatic 182, 3) := by decide +kernel
theorem dL_isSo_504 : decode cL_isSo 504 = .ok (.iload 9, 2) := by decide +kernel
theorem dL_isSo_506 : decode cL_isSo 506 = .ok (.bipush 100, 2) := by decide +kernel
theorem dL_isSo_508 : decode cL_isSo 508 = .ok (.idiv, 1) := by decide +kernel
theorem dL_isSo_509 : decode cL_isSo 509 = .ok (.if_icmp .ne 7, 3) := by decide +kernel
theorem dL_isSo_512 : decode cL_isSo 512 = .ok (.iconst 1, 1) := by decide +kernel
theorem dL_isSo_513 : decode cL_isSo 513 = .ok (.goto 4, 3) := by decide +kernel
theorem dL_isSo_516 : decode cL_isSo 516 = .ok (.iconst 0, 1) := by decide +kernel
theorem dL_isSo_517 : decode cL_isSo 517 = .ok (.istore 5, 2) := by decide +kernel
theorem dL_isSo_519 : decode cL_isSo 519 = .ok (.iinc 6 1, 3) := by decide +kernel
theorem dL_isSo_522 : decode cL_isSo 522 = .ok (.goto (-227), 3) := by decide +kernel
theorem dL_isSo_525 : decode cL_isSo 525 = .ok (.iconst 0, 1) := by decide +kernel
theorem dL_isSo_526 : decode cL_isSo 526 = .ok (.istore 6, 2) := by decide +kernel
theorem dL_isSo_528 : decode cL_isSo 528 = .ok (.iload 6, 2) := by decide +kernel
theorem dL_isSo_530 : decode cL_isSo 530 = .ok (.aload_n 1, 1) := by decide +kernel
theorem dL_isSo_531 : decode cL_isSo 531 = .ok (.bipush 9, 2) := by decide +kernel
theorem dL_isSo_533 : decode cL_isSo 533 = .ok (.iaload, 1) := by decide +kernel
theorem dL_isSo_534 : decode cL_isSo 534 = .ok (.if_icmp .ge 188, 3) := by decide +kernel
theorem dL_isSo_537 : decode cL_isSo 537 = .ok (.iload 5, 2) := by decide +kernel
theorem dL_isSo_539 : decode cL_isSo 539 = .ok (.ifCond .eq 183, 3) := by decide +kernel
theorem dL_isSo_542 : decode cL_isSo 542 = .ok (.iconst (-1), 1) := by decide +kernel
theorem dL_isSo_543 : decode cL_isSo 543 = .ok (.istore 7, 2) := by decide +kernel
theorem dL_isSo_545 : decode cL_isSo 545 = .ok (.iconst 0, 1) := by decide +kernel
theorem dL_isSo_546 : decode cL_isSo 546 = .ok (.istore 8, 2) := by decide +kernel
theorem dL_isSo_548 : decode cL_isSo 548 = .ok (.iload 8, 2) := by decide +kernel
theorem dL_isSo_550 : decode cL_isSo 550 = .ok (.aload 4, 2) := by decide +kernel
theorem dL_isSo_552 : decode cL_isSo 552 = .ok (.iconst 0, 1) := by decide +kernel
theorem dL_isSo_553 : decode cL_isSo 553 = .ok (.iaload, 1) := by decide +kernel
theorem dL_isSo_554 : decode cL_isSo 554 = .ok (.if_icmp .ge 32, 3) := by decide +kernel
theorem dL_isSo_557 : decode cL_isSo 557 = .ok (.aload_n 2, 1) := by decide +kernel
theorem dL_isSo_558 : decode cL_isSo 558 = .ok (.aload_n 3, 1) := by decide +kernel
theorem dL_isSo_559 : decode cL_isSo 559 = .ok (.aload 4, 2) := by decide +kernel
theorem dL_isSo_561 : decode cL_isSo 561 = .ok (.iload 8, 2) := by decide +kernel
theorem dL_isSo_563 : decode cL_isSo 563 = .ok (.iload 6, 2) := by decide +kernel
theorem dL_isSo_565 : decode cL_isSo 565 = .ok (.invokestatic 178, 3) := by decide +kernel
theorem dL_isSo_568 : decode cL_isSo 568 = .ok (.ifCond .eq 8, 3) := by decide +kernel
theorem dL_isSo_571 : decode cL_isSo 571 = .ok (.iload 8, 2) := by decide +kernel
theorem dL_isSo_573 : decode cL_isSo 573 = .ok (.goto 5, 3) := by decide +kernel
theorem dL_isSo_576 : decode cL_isSo 576 = .ok (.iload 7, 2) := by decide +kernel
theorem dL_isSo_578 : decode cL_isSo 578 = .ok (.istore 7, 2) := by decide +kernel
theorem dL_isSo_580 : decode cL_isSo 580 = .ok (.iinc 8 1, 3) := by decide +kernel
theorem dL_isSo_583 : decode cL_isSo 583 = .ok (.goto (-35), 3) := by decide +kernel
theorem dL_isSo_586 : decode cL_isSo 586 = .ok (.iconst 0, 1) := by decide +kernel
theorem dL_isSo_587 : decode cL_isSo 587 = .ok (.istore 8, 2) := by decide +kernel
theorem dL_isSo_589 : decode cL_isSo 589 = .ok (.iload 8, 2) := by decide +kernel
theorem dL_isSo_591 : decode cL_isSo 591 = .ok (.iconst 5, 1) := by decide +kernel
theorem dL_isSo_592 : decode cL_isSo 592 = .ok (.if_icmp .ge 41, 3) := by decide +kernel
theorem dL_isSo_595 : decode cL_isSo 595 = .ok (.iload 5, 2) := by decide +kernel
theorem dL_isSo_597 : decode cL_isSo 597 = .ok (.ifCond .eq 27, 3) := by decide +kernel
theorem dL_isSo_600 : decode cL_isSo 600 = .ok (.aload_n 0, 1) := by decide +kernel
theorem dL_isSo_601 : decode cL_isSo 601 = .ok (.iload 6, 2) := by decide +kernel
theorem dL_isSo_603 : decode cL_isSo 603 = .ok (.iload 8, 2) := by decide +kernel
theorem dL_isSo_605 : decode cL_isSo 605 = .ok (.invokestatic 185, 3) := by decide +kernel
theorem dL_isSo_608 : decode cL_isSo 608 = .ok (.aload_n 3, 1) := by decide +kernel
theorem dL_isSo_609 : decode cL_isSo 609 = .ok (.iconst 5, 1) := by decide +kernel
theorem dL_isSo_610 : decode cL_isSo 610 = .ok (.iload 6, 2) := by decide +kernel
theorem dL_isSo_612 : decode cL_isSo 612 = .ok (.imul, 1) := by decide +kernel
theorem dL_isSo_613 : decode cL_isSo 613 = .ok (.iload 8, 2) := by decide +kernel
theorem dL_isSo_615 : decode cL_isSo 615 = .ok (.iadd, 1) := by decide +kernel
theorem dL_isSo_616 : decode cL_isSo 616 = .ok (.iaload, 1) := by decide +kernel
theorem dL_isSo_617 : decode cL_isSo 617 = .ok (.if_icmp .ne 7, 3) := by decide +kernel
theorem dL_isSo_620 : decode cL_isSo 620 = .ok (.iconst 1, 1) := by decide +kernel
theorem dL_isSo_621 : decode cL_isSo 621 = .ok (.goto 4, 3) := by decide +kernel
theorem dL_isSo_624 : decode cL_isSo 624 = .ok (.iconst 0, 1) := by decide +kernel
theorem dL_isSo_625 : decode cL_isSo 625 = .ok (.istore 5, 2) := by decide +kernel
theorem dL_isSo_627 : decode cL_isSo 627 = .ok (.iinc 8 1, 3) := by decide +kernel
theorem dL_isSo_630 : decode cL_isSo 630 = .ok (.goto (-41), 3) := by decide +kernel
theorem dL_isSo_633 : decode cL_isSo 633 = .ok (.iload 5, 2) := by decide +kernel
theorem dL_isSo_635 : decode cL_isSo 635 = .ok (.ifCond .eq 78, 3) := by decide +kernel
theorem dL_isSo_638 : decode cL_isSo 638 = .ok (.aload_n 0, 1) := by decide +kernel
theorem dL_isSo_639 : decode cL_isSo 639 = .ok (.iload 6, 2) := by decide +kernel
theorem dL_isSo_641 : decode cL_isSo 641 = .ok (.iconst 5, 1) := by decide +kernel
theorem dL_isSo_642 : decode cL_isSo 642 = .ok (.invokestatic 185, 3) := by decide +kernel
theorem dL_isSo_645 : decode cL_isSo 645 = .ok (.aload_n 2, 1) := by decide +kernel
theorem dL_isSo_646 : decode cL_isSo 646 = .ok (.aload_n 3, 1) := by decide +kernel
theorem dL_isSo_647 : decode cL_isSo 647 = .ok (.iload 6, 2) := by decide +kernel
theorem dL_isSo_649 : decode cL_isSo 649 = .ok (.invokestatic 19, 3) := by decide +kernel
theorem dL_isSo_652 : decode cL_isSo 652 = .ok (.if_icmp .ne 61, 3) := by decide +kernel
theorem dL_isSo_655 : decode cL_isSo 655 = .ok (.aload_n 0, 1) := by decide +kernel
theorem dL_isSo_656 : decode cL_isSo 656 = .ok (.iload 6, 2) := by decide +kernel
theorem dL_isSo_658 : decode cL_isSo 658 = .ok (.bipush 6, 2) := by decide +kernel
theorem dL_isSo_660 : decode cL_isSo 660 = .ok (.invokestatic 185, 3) := by decide +kernel
theorem dL_isSo_663 : decode cL_isSo 663 = .ok (.aload_n 1, 1) := by decide +kernel
theorem dL_isSo_664 : decode cL_isSo 664 = .ok (.aload_n 3, 1) := by decide +kernel
theorem dL_isSo_665 : decode cL_isSo 665 = .ok (.invokestatic 46, 3) := by decide +kernel
theorem dL_isSo_668 : decode cL_isSo 668 = .ok (.iload 6, 2) := by decide +kernel
theorem dL_isSo_670 : decode cL_isSo 670 = .ok (.ishr, 1) := by decide +kernel
theorem dL_isSo_671 : decode cL_isSo 671 = .ok (.iconst 1, 1) := by decide +kernel
theorem dL_isSo_672 : decode cL_isSo 672 = .ok (.iand, 1) := by decide +kernel
theorem dL_isSo_673 : decode cL_isSo 673 = .ok (.if_icmp .ne 40, 3) := by decide +kernel
theorem dL_isSo_676 : decode cL_isSo 676 = .ok (.aload_n 0, 1) := by decide +kernel
theorem dL_isSo_677 : decode cL_isSo 677 = .ok (.iload 6, 2) := by decide +kernel
theorem dL_isSo_679 : decode cL_isSo 679 = .ok (.bipush 7, 2) := by decide +kernel
theorem dL_isSo_681 : decode cL_isSo 681 = .ok (.invokestatic 185, 3) := by decide +kernel
theorem dL_isSo_684 : decode cL_isSo 684 = .ok (.aload 4, 2) := by decide +kernel
theorem dL_isSo_686 : decode cL_isSo 686 = .ok (.iconst 3, 1) := by decide +kernel
theorem dL_isSo_687 : decode cL_isSo 687 = .ok (.iaload, 1) := by decide +kernel
theorem dL_isSo_688 : decode cL_isSo 688 = .ok (.iload 6, 2) := by decide +kernel
theorem dL_isSo_690 : decode cL_isSo 690 = .ok (.ishr, 1) := by decide +kernel
theorem dL_isSo_691 : decode cL_isSo 691 = .ok (.iconst 1, 1) := by decide +kernel
theorem dL_isSo_692 : decode cL_isSo 692 = .ok (.iand, 1) := by decide +kernel
theorem dL_isSo_693 : decode cL_isSo 693 = .ok (.if_icmp .ne 20, 3) := by decide +kernel
theorem dL_isSo_696 : decode cL_isSo 696 = .ok (.aload_n 0, 1) := by decide +kernel
theorem dL_isSo_697 : decode cL_isSo 697 = .ok (.iload 6, 2) := by decide +kernel
theorem dL_isSo_699 : decode cL_isSo 699 = .ok (.bipush 8, 2) := by decide +kernel
theorem dL_isSo_701 : decode cL_isSo 701 = .ok (.invokestatic 185, 3) := by decide +kernel
theorem dL_isSo_704 : decode cL_isSo 704 = .ok (.iload 7, 2) := by decide +kernel
theorem dL_isSo_706 : decode cL_isSo 706 = .ok (.if_icmp .ne 7, 3) := by decide +kernel
theorem dL_isSo_709 : decode cL_isSo 709 = .ok (.iconst 1, 1) := by decide +kernel
theorem dL_isSo_710 : decode cL_isSo 710 = .ok (.goto 4, 3) := by decide +kernel
theorem dL_isSo_713 : decode cL_isSo 713 = .ok (.iconst 0, 1) := by decide +kernel
theorem dL_isSo_714 : decode cL_isSo 714 = .ok (.istore 5, 2) := by decide +kernel
theorem dL_isSo_716 : decode cL_isSo 716 = .ok (.iinc 6 1, 3) := by decide +kernel
theorem dL_isSo_719 : decode cL_isSo 719 = .ok (.goto (-191), 3) := by decide +kernel
theorem dL_isSo_722 : decode cL_isSo 722 = .ok (.iconst 0, 1) := by decide +kernel
theorem dL_isSo_723 : decode cL_isSo 723 = .ok (.istore 6, 2) := by decide +kernel
theorem dL_isSo_725 : decode cL_isSo 725 = .ok (.iload 6, 2) := by decide +kernel
theorem dL_isSo_727 : decode cL_isSo 727 = .ok (.iconst 4, 1) := by decide +kernel
theorem dL_isSo_728 : decode cL_isSo 728 = .ok (.if_icmp .ge 206, 3) := by decide +kernel
theorem dL_isSo_731 : decode cL_isSo 731 = .ok (.iload 5, 2) := by decide +kernel
theorem dL_isSo_733 : decode cL_isSo 733 = .ok (.ifCond .eq 201, 3) := by decide +kernel
theorem dL_isSo_736 : decode cL_isSo 736 = .ok (.iconst 0, 1) := by decide +kernel
theorem dL_isSo_737 : decode cL_isSo 737 = .ok (.istore 7, 2) := by decide +kernel
theorem dL_isSo_739 : decode cL_isSo 739 = .ok (.iconst 0, 1) := by decide +kernel
theorem dL_isSo_740 : decode cL_isSo 740 = .ok (.istore 8, 2) := by decide +kernel
theorem dL_isSo_742 : decode cL_isSo 742 = .ok (.iload 8, 2) := by decide +kernel
theorem dL_isSo_744 : decode cL_isSo 744 = .ok (.aload 4, 2) := by decide +kernel
theorem dL_isSo_746 : decode cL_isSo 746 = .ok (.iconst 0, 1) := by decide +kernel
theorem dL_isSo_747 : decode cL_isSo 747 = .ok (.iaload, 1) := by decide +kernel
theorem dL_isSo_748 : decode cL_isSo 748 = .ok (.if_icmp .ge 56, 3) := by decide +kernel
theorem dL_isSo_751 : decode cL_isSo 751 = .ok (.iload 7, 2) := by decide +kernel
theorem dL_isSo_753 : decode cL_isSo 753 = .ok (.aload 4, 2) := by decide +kernel
theorem dL_isSo_755 : decode cL_isSo 755 = .ok (.bipush 10, 2) := by decide +kernel
theorem dL_isSo_757 : decode cL_isSo 757 = .ok (.iload 8, 2) := by decide +kernel
theorem dL_isSo_759 : decode cL_isSo 759 = .ok (.iadd, 1) := by decide +kernel
theorem dL_isSo_760 : decode cL_isSo 760 = .ok (.iaload, 1) := by decide +kernel
theorem dL_isSo_761 : decode cL_isSo 761 = .ok (.sipush 20000, 3) := by decide +kernel
theorem dL_isSo_764 : decode cL_isSo 764 = .ok (.idiv, 1) := by decide +kernel
theorem dL_isSo_765 : decode cL_isSo 765 = .ok (.ifCond .ne 29, 3) := by decide +kernel
theorem dL_isSo_768 : decode cL_isSo 768 = .ok (.aload 4, 2) := by decide +kernel
theorem dL_isSo_770 : decode cL_isSo 770 = .ok (.bipush 10, 2) := by decide +kernel
theorem dL_isSo_772 : decode cL_isSo 772 = .ok (.iload 8, 2) := by decide +kernel
theorem dL_isSo_774 : decode cL_isSo 774 = .ok (.iadd, 1) := by decide +kernel
theorem dL_isSo_775 : decode cL_isSo 775 = .ok (.iaload, 1) := by decide +kernel
theorem dL_isSo_776 : decode cL_isSo 776 = .ok (.sipush 1000, 3) := by decide +kernel
theorem dL_isSo_779 : decode cL_isSo 779 = .ok (.idiv, 1) := by decide +kernel
theorem dL_isSo_780 : decode cL_isSo 780 = .ok (.bipush 20, 2) := by decide +kernel
theorem dL_isSo_782 : decode cL_isSo 782 = .ok (.irem, 1) := by decide +kernel
theorem dL_isSo_783 : decode cL_isSo 783 = .ok (.iload 6, 2) := by decide +kernel
theorem dL_isSo_785 : decode cL_isSo 785 = .ok (.iconst 1, 1) := by decide +kernel
theorem dL_isSo_786 : decode cL_isSo 786 = .ok (.iadd, 1) := by decide +kernel
theorem dL_isSo_787 : decode cL_isSo 787 = .ok (.if_icmp .ne 7, 3) := by decide +kernel
theorem dL_isSo_790 : decode cL_isSo 790 = .ok (.iconst 1, 1) := by decide +kernel
theorem dL_isSo_791 : decode cL_isSo 791 = .ok (.goto 4, 3) := by decide +kernel
theorem dL_isSo_794 : decode cL_isSo 794 = .ok (.iconst 0, 1) := by decide +kernel
theorem dL_isSo_795 : decode cL_isSo 795 = .ok (.iadd, 1) := by decide +kernel
theorem dL_isSo_796 : decode cL_isSo 796 = .ok (.istore 7, 2) := by decide +kernel
theorem dL_isSo_798 : decode cL_isSo 798 = .ok (.iinc 8 1, 3) := by decide +kernel
theorem dL_isSo_801 : decode cL_isSo 801 = .ok (.goto (-59), 3) := by decide +kernel
theorem dL_isSo_804 : decode cL_isSo 804 = .ok (.iconst 0, 1) := by decide +kernel
theorem dL_isSo_805 : decode cL_isSo 805 = .ok (.istore 8, 2) := by decide +kernel
theorem dL_isSo_807 : decode cL_isSo 807 = .ok (.iload 8, 2) := by decide +kernel
theorem dL_isSo_809 : decode cL_isSo 809 = .ok (.bipush 8, 2) := by decide +kernel
theorem dL_isSo_811 : decode cL_isSo 811 = .ok (.if_icmp .ge 68, 3) := by decide +kernel
theorem dL_isSo_814 : decode cL_isSo 814 = .ok (.iload 5, 2) := by decide +kernel
theorem dL_isSo_816 : decode cL_isSo 816 = .ok (.ifCond .eq 54, 3) := by decide +kernel
theorem dL_isSo_819 : decode cL_isSo 819 = .ok (.aload_n 0, 1) := by decide +kernel
theorem dL_isSo_820 : decode cL_isSo 820 = .ok (.iload 6, 2) := by decide +kernel
theorem dL_isSo_822 : decode cL_isSo 822 = .ok (.iload 8, 2) := by decide +kernel
theorem dL_isSo_824 : decode cL_isSo 824 = .ok (.invokestatic 188, 3) := by decide +kernel
theorem dL_isSo_827 : decode cL_isSo 827 = .ok (.iload 8, 2) := by decide +kernel
theorem dL_isSo_829 : decode cL_isSo 829 = .ok (.iconst 2, 1) := by decide +kernel
theorem dL_isSo_830 : decode cL_isSo 830 = .ok (.if_icmp .le 23, 3) := by decide +kernel
theorem dL_isSo_833 : decode cL_isSo 833 = .ok (.iload 8, 2) := by decide +kernel
theorem dL_isSo_835 : decode cL_isSo 835 = .ok (.iconst 3, 1) := by decide +kernel
theorem dL_isSo_836 : decode cL_isSo 836 = .ok (.isub, 1) := by decide +kernel
theorem dL_isSo_837 : decode cL_isSo 837 = .ok (.aload_n 2, 1) := by decide +kernel
theorem dL_isSo_838 : decode cL_isSo 838 = .ok (.bipush 8, 2) := by decide +kernel
theorem dL_isSo_840 : decode cL_isSo 840 = .ok (.iload 6, 2) := by decide +kernel
theorem dL_isSo_842 : decode cL_isSo 842 = .ok (.imul, 1) := by decide +kernel
theorem dL_isSo_843 : decode cL_isSo 843 = .ok (.iconst 2, 1) := by decide +kernel
theorem dL_isSo_844 : decode cL_isSo 844 = .ok (.iadd, 1) := by decide +kernel
theorem dL_isSo_845 : decode cL_isSo 845 = .ok (.iaload, 1) := by decide +kernel
theorem dL_isSo_846 : decode cL_isSo 846 = .ok (.if_icmp .lt 7, 3) := by decide +kernel
theorem dL_isSo_849 : decode cL_isSo 849 = .ok (.iconst (-1), 1) := by decide +kernel
theorem dL_isSo_850 : decode cL_isSo 850 = .ok (.goto 13, 3) := by decide +kernel
theorem dL_isSo_853 : decode cL_isSo 853 = .ok (.aload_n 2, 1) := by decide +kernel
theorem dL_isSo_854 : decode cL_isSo 854 = .ok (.bipush 8, 2) := by decide +kernel
theorem dL_isSo_856 : decode cL_isSo 856 = .ok (.iload 6, 2) := by decide +kernel
theorem dL_isSo_858 : decode cL_isSo 858 = .ok (.imul, 1) := by decide +kernel
theorem dL_isSo_859 : decode cL_isSo 859 = .ok (.iload 8, 2) := by decide +kernel
theorem dL_isSo_861 : decode cL_isSo 861 = .ok (.iadd, 1) := by decide +kernel
theorem dL_isSo_862 : decode cL_isSo 862 = .ok (.iaload, 1) := by decide +kernel
theorem dL_isSo_863 : decode cL_isSo 863 = .ok (.if_icmp .ne 7, 3) := by decide +kernel
theorem dL_isSo_866 : decode cL_isSo 866 = .ok (.iconst 1, 1) := by decide +kernel
theorem dL_isSo_867 : decode cL_isSo 867 = .ok (.goto 4, 3) := by decide +kernel
theorem dL_isSo_870 : decode cL_isSo 870 = .ok (.iconst 0, 1) := by decide +kernel
theorem dL_isSo_871 : decode cL_isSo 871 = .ok (.istore 5, 2) := by decide +kernel
theorem dL_isSo_873 : decode cL_isSo 873 = .ok (.iinc 8 1, 3) := by decide +kernel
theorem dL_isSo_876 : decode cL_isSo 876 = .ok (.goto (-69), 3) := by decide +kernel
theorem dL_isSo_879 : decode cL_isSo 879 = .ok (.iload 5, 2) := by decide +kernel
theorem dL_isSo_881 : decode cL_isSo 881 = .ok (.ifCond .eq 44, 3) := by decide +kernel
theorem dL_isSo_884 : decode cL_isSo 884 = .ok (.aload_n 0, 1) := by decide +kernel
theorem dL_isSo_885 : decode cL_isSo 885 = .ok (.iload 6, 2) := by decide +kernel
theorem dL_isSo_887 : decode cL_isSo 887 = .ok (.bipush 8, 2) := by decide +kernel
theorem dL_isSo_889 : decode cL_isSo 889 = .ok (.invokestatic 188, 3) := by decide +kernel
theorem dL_isSo_892 : decode cL_isSo 892 = .ok (.iload 7, 2) := by decide +kernel
theorem dL_isSo_894 : decode cL_isSo 894 = .ok (.if_icmp .ne 31, 3) := by decide +kernel
theorem dL_isSo_897 : decode cL_isSo 897 = .ok (.aload_n 0, 1) := by decide +kernel
theorem dL_isSo_898 : decode cL_isSo 898 = .ok (.iload 6, 2) := by decide +kernel
theorem dL_isSo_900 : decode cL_isSo 900 = .ok (.bipush 9, 2) := by decide +kernel
theorem dL_isSo_902 : decode cL_isSo 902 = .ok (.invokestatic 188, 3) := by decide +kernel
theorem dL_isSo_905 : decode cL_isSo 905 = .ok (.aload_n 2, 1) := by decide +kernel
theorem dL_isSo_906 : decode cL_isSo 906 = .ok (.aload_n 3, 1) := by decide +kernel
theorem dL_isSo_907 : decode cL_isSo 907 = .ok (.aload 4, 2) := by decide +kernel
theorem dL_isSo_909 : decode cL_isSo 909 = .ok (.iconst 3, 1) := by decide +kernel
theorem dL_isSo_910 : decode cL_isSo 910 = .ok (.iaload, 1) := by decide +kernel
theorem dL_isSo_911 : decode cL_isSo 911 = .ok (.iload 6, 2) := by decide +kernel
theorem dL_isSo_913 : decode cL_isSo 913 = .ok (.iconst 0, 1) := by decide +kernel
theorem dL_isSo_914 : decode cL_isSo 914 = .ok (.iconst 5, 1) := by decide +kernel
theorem dL_isSo_915 : decode cL_isSo 915 = .ok (.invokestatic 23, 3) := by decide +kernel
theorem dL_isSo_918 : decode cL_isSo 918 = .ok (.if_icmp .ne 7, 3) := by decide +kernel
theorem dL_isSo_921 : decode cL_isSo 921 = .ok (.iconst 1, 1) := by decide +kernel
theorem dL_isSo_922 : decode cL_isSo 922 = .ok (.goto 4, 3) := by decide +kernel
theorem dL_isSo_925 : decode cL_isSo 925 = .ok (.iconst 0, 1) := by decide +kernel
theorem dL_isSo_926 : decode cL_isSo 926 = .ok (.istore 5, 2) := by decide +kernel
theorem dL_isSo_928 : decode cL_isSo 928 = .ok (.iinc 6 1, 3) := by decide +kernel
theorem dL_isSo_931 : decode cL_isSo 931 = .ok (.goto (-206), 3) := by decide +kernel
theorem dL_isSo_934 : decode cL_isSo 934 = .ok (.iload 5, 2) := by decide +kernel
theorem dL_isSo_936 : decode cL_isSo 936 = .ok (.ifCond .eq 33, 3) := by decide +kernel
theorem dL_isSo_939 : decode cL_isSo 939 = .ok (.aload_n 0, 1) := by decide +kernel
theorem dL_isSo_940 : decode cL_isSo 940 = .ok (.aload 4, 2) := by decide +kernel
theorem dL_isSo_942 : decode cL_isSo 942 = .ok (.iconst 0, 1) := by decide +kernel
theorem dL_isSo_943 : decode cL_isSo 943 = .ok (.iaload, 1) := by decide +kernel
theorem dL_isSo_944 : decode cL_isSo 944 = .ok (.iconst 0, 1) := by decide +kernel
theorem dL_isSo_945 : decode cL_isSo 945 = .ok (.invokestatic 182, 3) := by decide +kernel
theorem dL_isSo_948 : decode cL_isSo 948 = .ok (.ldc 93, 2) := by decide +kernel
theorem dL_isSo_950 : decode cL_isSo 950 = .ok (.if_icmp .ne 19, 3) := by decide +kernel
theorem dL_isSo_953 : decode cL_isSo 953 = .ok (.aload_n 0, 1) := by decide +kernel
theorem dL_isSo_954 : decode cL_isSo 954 = .ok (.bipush 11, 2) := by decide +kernel
theorem dL_isSo_956 : decode cL_isSo 956 = .ok (.iconst 0, 1) := by decide +kernel
theorem dL_isSo_957 : decode cL_isSo 957 = .ok (.invokestatic 188, 3) := by decide +kernel
theorem dL_isSo_960 : decode cL_isSo 960 = .ok (.bipush 11, 2) := by decide +kernel
theorem dL_isSo_962 : decode cL_isSo 962 = .ok (.if_icmp .ne 7, 3) := by decide +kernel
theorem dL_isSo_965 : decode cL_isSo 965 = .ok (.iconst 1, 1) := by decide +kernel
theorem dL_isSo_966 : decode cL_isSo 966 = .ok (.goto 4, 3) := by decide +kernel
theorem dL_isSo_969 : decode cL_isSo 969 = .ok (.iconst 0, 1) := by decide +kernel
theorem dL_isSo_970 : decode cL_isSo 970 = .ok (.ireturn, 1) := by decide +kernel
theorem dL_law_0 : decode cL_law 0 = .ok (.new 106, 3) := by decide +kernel
theorem dL_law_3 : decode cL_law 3 = .ok (.dup, 1) := by decide +kernel
theorem dL_law_4 : decode cL_law 4 = .ok (.invokespecial 191, 3) := by decide +kernel
theorem dL_law_7 : decode cL_law 7 = .ok (.astore_n 1, 1) := by decide +kernel
theorem dL_law_8 : decode cL_law 8 = .ok (.bipush 15, 2) := by decide +kernel
theorem dL_law_10 : decode cL_law 10 = .ok (.newarray .int, 2) := by decide +kernel
theorem dL_law_12 : decode cL_law 12 = .ok (.astore_n 2, 1) := by decide +kernel
theorem dL_law_13 : decode cL_law 13 = .ok (.bipush 32, 2) := by decide +kernel
theorem dL_law_15 : decode cL_law 15 = .ok (.newarray .int, 2) := by decide +kernel
theorem dL_law_17 : decode cL_law 17 = .ok (.astore_n 3, 1) := by decide +kernel
theorem dL_law_18 : decode cL_law 18 = .ok (.bipush 60, 2) := by decide +kernel
theorem dL_law_20 : decode cL_law 20 = .ok (.newarray .int, 2) := by decide +kernel
theorem dL_law_22 : decode cL_law 22 = .ok (.astore 4, 2) := by decide +kernel
theorem dL_law_24 : decode cL_law 24 = .ok (.bipush 64, 2) := by decide +kernel
theorem dL_law_26 : decode cL_law 26 = .ok (.newarray .int, 2) := by decide +kernel
theorem dL_law_28 : decode cL_law 28 = .ok (.astore 5, 2) := by decide +kernel
theorem dL_law_30 : decode cL_law 30 = .ok (.aload_n 2, 1) := by decide +kernel
theorem dL_law_31 : decode cL_law 31 = .ok (.aload_n 3, 1) := by decide +kernel
theorem dL_law_32 : decode cL_law 32 = .ok (.invokestatic 192, 3) := by decide +kernel
theorem dL_law_35 : decode cL_law 35 = .ok (.aload_n 1, 1) := by decide +kernel
theorem dL_law_36 : decode cL_law 36 = .ok (.aload_n 2, 1) := by decide +kernel
theorem dL_law_37 : decode cL_law 37 = .ok (.aload_n 3, 1) := by decide +kernel
theorem dL_law_38 : decode cL_law 38 = .ok (.aload 4, 2) := by decide +kernel
theorem dL_law_40 : decode cL_law 40 = .ok (.aload 5, 2) := by decide +kernel
theorem dL_law_42 : decode cL_law 42 = .ok (.invokestatic 196, 3) := by decide +kernel
theorem dL_law_45 : decode cL_law 45 = .ok (.istore 6, 2) := by decide +kernel
theorem dL_law_47 : decode cL_law 47 = .ok (.iconst 0, 1) := by decide +kernel
theorem dL_law_48 : decode cL_law 48 = .ok (.istore 7, 2) := by decide +kernel
theorem dL_law_50 : decode cL_law 50 = .ok (.iload 7, 2) := by decide +kernel
theorem dL_law_52 : decode cL_law 52 = .ok (.bipush 6, 2) := by decide +kernel
theorem dL_law_54 : decode cL_law 54 = .ok (.if_icmp .ge 46, 3) := by decide +kernel
theorem dL_law_57 : decode cL_law 57 = .ok (.iload 6, 2) := by decide +kernel
theorem dL_law_59 : decode cL_law 59 = .ok (.ifCond .eq 41, 3) := by decide +kernel
theorem dL_law_62 : decode cL_law 62 = .ok (.aload_n 1, 1) := by decide +kernel
theorem dL_law_63 : decode cL_law 63 = .ok (.aload_n 2, 1) := by decide +kernel
theorem dL_law_64 : decode cL_law 64 = .ok (.aload_n 3, 1) := by decide +kernel
theorem dL_law_65 : decode cL_law 65 = .ok (.aload 4, 2) := by decide +kernel
theorem dL_law_67 : decode cL_law 67 = .ok (.aload_n 0, 1) := by decide +kernel
theorem dL_law_68 : decode cL_law 68 = .ok (.iconst 1, 1) := by decide +kernel
theorem dL_law_69 : decode cL_law 69 = .ok (.iload 7, 2) := by decide +kernel
theorem dL_law_71 : decode cL_law 71 = .ok (.iadd, 1) := by decide +kernel
theorem dL_law_72 : decode cL_law 72 = .ok (.invokestatic 200, 3) := by decide +kernel
theorem dL_law_75 : decode cL_law 75 = .ok (.ldc 8, 2) := by decide +kernel
theorem dL_law_77 : decode cL_law 77 = .ok (.iand, 1) := by decide +kernel
theorem dL_law_78 : decode cL_law 78 = .ok (.sipush 640, 3) := by decide +kernel
theorem dL_law_81 : decode cL_law 81 = .ok (.idiv, 1) := by decide +kernel
theorem dL_law_82 : decode cL_law 82 = .ok (.sipush 640, 3) := by decide +kernel
theorem dL_law_85 : decode cL_law 85 = .ok (.imul, 1) := by decide +kernel
theorem dL_law_86 : decode cL_law 86 = .ok (.bipush 12, 2) := by decide +kernel
theorem dL_law_88 : decode cL_law 88 = .ok (.iadd, 1) := by decide +kernel
theorem dL_law_89 : decode cL_law 89 = .ok (.invokestatic 203, 3) := by decide +kernel
theorem dL_law_92 : decode cL_law 92 = .ok (.istore 6, 2) := by decide +kernel
theorem dL_law_94 : decode cL_law 94 = .ok (.iinc 7 1, 3) := by decide +kernel
theorem dL_law_97 : decode cL_law 97 = .ok (.goto (-47), 3) := by decide +kernel
theorem dL_law_100 : decode cL_law 100 = .ok (.iconst 4, 1) := by decide +kernel
theorem dL_law_101 : decode cL_law 101 = .ok (.aload_n 0, 1) := by decide +kernel
theorem dL_law_102 : decode cL_law 102 = .ok (.iconst 0, 1) := by decide +kernel
theorem dL_law_103 : decode cL_law 103 = .ok (.invokestatic 200, 3) := by decide +kernel
theorem dL_law_106 : decode cL_law 106 = .ok (.bipush 50, 2) := by decide +kernel
theorem dL_law_108 : decode cL_law 108 = .ok (.invokestatic 66, 3) := by decide +kernel
theorem dL_law_111 : decode cL_law 111 = .ok (.iadd, 1) := by decide +kernel
theorem dL_law_112 : decode cL_law 112 = .ok (.istore 7, 2) := by decide +kernel
theorem dL_law_114 : decode cL_law 114 = .ok (.iconst 0, 1) := by decide +kernel
theorem dL_law_115 : decode cL_law 115 = .ok (.istore 8, 2) := by decide +kernel
theorem dL_law_117 : decode cL_law 117 = .ok (.iload 8, 2) := by decide +kernel
theorem dL_law_119 : decode cL_law 119 = .ok (.iload 7, 2) := by decide +kernel
theorem dL_law_121 : decode cL_law 121 = .ok (.if_icmp .ge 68, 3) := by decide +kernel
theorem dL_law_124 : decode cL_law 124 = .ok (.iload 6, 2) := by decide +kernel
theorem dL_law_126 : decode cL_law 126 = .ok (.ifCond .eq 63, 3) := by decide +kernel
theorem dL_law_129 : decode cL_law 129 = .ok (.aload_n 1, 1) := by decide +kernel
theorem dL_law_130 : decode cL_law 130 = .ok (.aload_n 2, 1) := by decide +kernel
theorem dL_law_131 : decode cL_law 131 = .ok (.aload_n 3, 1) := by decide +kernel
theorem dL_law_132 : decode cL_law 132 = .ok (.aload 4, 2) := by decide +kernel
theorem dL_law_134 : decode cL_law 134 = .ok (.aload_n 0, 1) := by decide +kernel
theorem dL_law_135 : decode cL_law 135 = .ok (.bipush 7, 2) := by decide +kernel
theorem dL_law_137 : decode cL_law 137 = .ok (.iload 8, 2) := by decide +kernel
theorem dL_law_139 : decode cL_law 139 = .ok (.iadd, 1) := by decide +kernel
theorem dL_law_140 : decode cL_law 140 = .ok (.invokestatic 200, 3) := by decide +kernel
theorem dL_law_143 : decode cL_law 143 = .ok (.sipush 7919, 3) := by decide +kernel
theorem dL_law_146 : decode cL_law 146 = .ok (.iload 8, 2) := by decide +kernel
theorem dL_law_148 : decode cL_law 148 = .ok (.imul, 1) := by decide +kernel
theorem dL_law_149 : decode cL_law 149 = .ok (.ixor, 1) := by decide +kernel
theorem dL_law_150 : decode cL_law 150 = .ok (.invokestatic 203, 3) := by decide +kernel
theorem dL_law_153 : decode cL_law 153 = .ok (.ifCond .eq 27, 3) := by decide +kernel
theorem dL_law_156 : decode cL_law 156 = .ok (.iload 8, 2) := by decide +kernel
theorem dL_law_158 : decode cL_law 158 = .ok (.iconst 2, 1) := by decide +kernel
theorem dL_law_159 : decode cL_law 159 = .ok (.irem, 1) := by decide +kernel
theorem dL_law_160 : decode cL_law 160 = .ok (.ifCond .gt 16, 3) := by decide +kernel
theorem dL_law_163 : decode cL_law 163 = .ok (.aload_n 1, 1) := by decide +kernel
theorem dL_law_164 : decode cL_law 164 = .ok (.aload_n 2, 1) := by decide +kernel
theorem dL_law_165 : decode cL_law 165 = .ok (.aload_n 3, 1) := by decide +kernel
theorem dL_law_166 : decode cL_law 166 = .ok (.aload 4, 2) := by decide +kernel
theorem dL_law_168 : decode cL_law 168 = .ok (.aload 5, 2) := by decide +kernel
theorem dL_law_170 : decode cL_law 170 = .ok (.invokestatic 196, 3) := by decide +kernel
theorem dL_law_173 : decode cL_law 173 = .ok (.ifCond .eq 7, 3) := by decide +kernel
theorem dL_law_176 : decode cL_law 176 = .ok (.iconst 1, 1) := by decide +kernel
theorem dL_law_177 : decode cL_law 177 = .ok (.goto 4, 3) := by decide +kernel
theorem dL_law_180 : decode cL_law 180 = .ok (.iconst 0, 1) := by decide +kernel
theorem dL_law_181 : decode cL_law 181 = .ok (.istore 6, 2) := by decide +kernel
theorem dL_law_183 : decode cL_law 183 = .ok (.iinc 8 1, 3) := by decide +kernel
theorem dL_law_186 : decode cL_law 186 = .ok (.goto (-69), 3) := by decide +kernel
theorem dL_law_189 : decode cL_law 189 = .ok (.iload 6, 2) := by decide +kernel
theorem dL_law_191 : decode cL_law 191 = .ok (.ifCond .eq 20, 3) := by decide +kernel
theorem dL_law_194 : decode cL_law 194 = .ok (.aload_n 1, 1) := by decide +kernel
theorem dL_law_195 : decode cL_law 195 = .ok (.aload_n 2, 1) := by decide +kernel
theorem dL_law_196 : decode cL_law 196 = .ok (.aload_n 3, 1) := by decide +kernel
theorem dL_law_197 : decode cL_law 197 = .ok (.aload 4, 2) := by decide +kernel
theorem dL_law_199 : decode cL_law 199 = .ok (.aload 5, 2) := by decide +kernel
theorem dL_law_201 : decode cL_law 201 = .ok (.invokestatic 196, 3) := by decide +kernel
theorem dL_law_204 : decode cL_law 204 = .ok (.ifCond .eq 7, 3) := by decide +kernel
theorem dL_law_207 : decode cL_law 207 = .ok (.iconst 1, 1) := by decide +kernel
theorem dL_law_208 : decode cL_law 208 = .ok (.goto 4, 3) := by decide +kernel
theorem dL_law_211 : decode cL_law 211 = .ok (.iconst 0, 1) := by decide +kernel
theorem dL_law_212 : decode cL_law 212 = .ok (.ireturn, 1) := by decide +kernel
