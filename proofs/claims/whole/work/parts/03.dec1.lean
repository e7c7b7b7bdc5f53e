theorem dJ6_bitCount_0f7a4_0 : decode cJ6_bitCount_0f7a4 0 = .ok (.iload_n 0, 1) := by decide +kernel
theorem dJ6_bitCount_0f7a4_1 : decode cJ6_bitCount_0f7a4 1 = .ok (.iload_n 0, 1) := by decide +kernel
theorem dJ6_bitCount_0f7a4_2 : decode cJ6_bitCount_0f7a4 2 = .ok (.iconst 1, 1) := by decide +kernel
theorem dJ6_bitCount_0f7a4_3 : decode cJ6_bitCount_0f7a4 3 = .ok (.iushr, 1) := by decide +kernel
theorem dJ6_bitCount_0f7a4_4 : decode cJ6_bitCount_0f7a4 4 = .ok (.ldc_w 265, 3) := by decide +kernel
theorem dJ6_bitCount_0f7a4_7 : decode cJ6_bitCount_0f7a4 7 = .ok (.iand, 1) := by decide +kernel
theorem dJ6_bitCount_0f7a4_8 : decode cJ6_bitCount_0f7a4 8 = .ok (.isub, 1) := by decide +kernel
theorem dJ6_bitCount_0f7a4_9 : decode cJ6_bitCount_0f7a4 9 = .ok (.istore_n 0, 1) := by decide +kernel
theorem dJ6_bitCount_0f7a4_10 : decode cJ6_bitCount_0f7a4 10 = .ok (.iload_n 0, 1) := by decide +kernel
theorem dJ6_bitCount_0f7a4_11 : decode cJ6_bitCount_0f7a4 11 = .ok (.ldc_w 266, 3) := by decide +kernel
theorem dJ6_bitCount_0f7a4_14 : decode cJ6_bitCount_0f7a4 14 = .ok (.iand, 1) := by decide +kernel
theorem dJ6_bitCount_0f7a4_15 : decode cJ6_bitCount_0f7a4 15 = .ok (.iload_n 0, 1) := by decide +kernel
theorem dJ6_bitCount_0f7a4_16 : decode cJ6_bitCount_0f7a4 16 = .ok (.iconst 2, 1) := by decide +kernel
theorem dJ6_bitCount_0f7a4_17 : decode cJ6_bitCount_0f7a4 17 = .ok (.iushr, 1) := by decide +kernel
theorem dJ6_bitCount_0f7a4_18 : decode cJ6_bitCount_0f7a4 18 = .ok (.ldc_w 266, 3) := by decide +kernel
theorem dJ6_bitCount_0f7a4_21 : decode cJ6_bitCount_0f7a4 21 = .ok (.iand, 1) := by decide +kernel
theorem dJ6_bitCount_0f7a4_22 : decode cJ6_bitCount_0f7a4 22 = .ok (.iadd, 1) := by decide +kernel
theorem dJ6_bitCount_0f7a4_23 : decode cJ6_bitCount_0f7a4 23 = .ok (.istore_n 0, 1) := by decide +kernel
theorem dJ6_bitCount_0f7a4_24 : decode cJ6_bitCount_0f7a4 24 = .ok (.iload_n 0, 1) := by decide +kernel
theorem dJ6_bitCount_0f7a4_25 : decode cJ6_bitCount_0f7a4 25 = .ok (.iload_n 0, 1) := by decide +kernel
theorem dJ6_bitCount_0f7a4_26 : decode cJ6_bitCount_0f7a4 26 = .ok (.iconst 4, 1) := by decide +kernel
theorem dJ6_bitCount_0f7a4_27 : decode cJ6_bitCount_0f7a4 27 = .ok (.iushr, 1) := by decide +kernel
theorem dJ6_bitCount_0f7a4_28 : decode cJ6_bitCount_0f7a4 28 = .ok (.iadd, 1) := by decide +kernel
theorem dJ6_bitCount_0f7a4_29 : decode cJ6_bitCount_0f7a4 29 = .ok (.ldc_w 267, 3) := by decide +kernel
theorem dJ6_bitCount_0f7a4_32 : decode cJ6_bitCount_0f7a4 32 = .ok (.iand, 1) := by decide +kernel
theorem dJ6_bitCount_0f7a4_33 : decode cJ6_bitCount_0f7a4 33 = .ok (.istore_n 0, 1) := by decide +kernel
theorem dJ6_bitCount_0f7a4_34 : decode cJ6_bitCount_0f7a4 34 = .ok (.iload_n 0, 1) := by decide +kernel
theorem dJ6_bitCount_0f7a4_35 : decode cJ6_bitCount_0f7a4 35 = .ok (.iload_n 0, 1) := by decide +kernel
theorem dJ6_bitCount_0f7a4_36 : decode cJ6_bitCount_0f7a4 36 = .ok (.bipush 8, 2) := by decide +kernel
theorem dJ6_bitCount_0f7a4_38 : decode cJ6_bitCount_0f7a4 38 = .ok (.iushr, 1) := by decide +kernel
theorem dJ6_bitCount_0f7a4_39 : decode cJ6_bitCount_0f7a4 39 = .ok (.iadd, 1) := by decide +kernel
theorem dJ6_bitCount_0f7a4_40 : decode cJ6_bitCount_0f7a4 40 = .ok (.istore_n 0, 1) := by decide +kernel
theorem dJ6_bitCount_0f7a4_41 : decode cJ6_bitCount_0f7a4 41 = .ok (.iload_n 0, 1) := by decide +kernel
theorem dJ6_bitCount_0f7a4_42 : decode cJ6_bitCount_0f7a4 42 = .ok (.iload_n 0, 1) := by decide +kernel
theorem dJ6_bitCount_0f7a4_43 : decode cJ6_bitCount_0f7a4 43 = .ok (.bipush 16, 2) := by decide +kernel
theorem dJ6_bitCount_0f7a4_45 : decode cJ6_bitCount_0f7a4 45 = .ok (.iushr, 1) := by decide +kernel
theorem dJ6_bitCount_0f7a4_46 : decode cJ6_bitCount_0f7a4 46 = .ok (.iadd, 1) := by decide +kernel
theorem dJ6_bitCount_0f7a4_47 : decode cJ6_bitCount_0f7a4 47 = .ok (.istore_n 0, 1) := by decide +kernel
theorem dJ6_bitCount_0f7a4_48 : decode cJ6_bitCount_0f7a4 48 = .ok (.iload_n 0, 1) := by decide +kernel
theorem dJ6_bitCount_0f7a4_49 : decode cJ6_bitCount_0f7a4 49 = .ok (.bipush 63, 2) := by decide +kernel
theorem dJ6_bitCount_0f7a4_51 : decode cJ6_bitCount_0f7a4 51 = .ok (.iand, 1) := by decide +kernel
theorem dJ6_bitCount_0f7a4_52 : decode cJ6_bitCount_0f7a4 52 = .ok (.ireturn, 1) := by decide +kernel
theorem dL_behind_0 : decode cL_behind 0 = .ok (.aload_n 3, 1) := by decide +kernel
theorem dL_behind_1 : decode cL_behind 1 = .ok (.iconst 0, 1) := by decide +kernel
theorem dL_behind_2 : decode cL_behind 2 = .ok (.aload_n 0, 1) := by decide +kernel
theorem dL_behind_3 : decode cL_behind 3 = .ok (.iload_n 1, 1) := by decide +kernel
theorem dL_behind_4 : decode cL_behind 4 = .ok (.iload_n 2, 1) := by decide +kernel
theorem dL_behind_5 : decode cL_behind 5 = .ok (.invokevirtual 15, 3) := by decide +kernel
theorem dL_behind_8 : decode cL_behind 8 = .ok (.i2l, 1) := by decide +kernel
theorem dL_behind_9 : decode cL_behind 9 = .ok (.lastore, 1) := by decide +kernel
theorem dL_behind_10 : decode cL_behind 10 = .ok (.goto 7, 3) := by decide +kernel
theorem dL_behind_13 : decode cL_behind 13 = .ok (.astore 4, 2) := by decide +kernel
theorem dL_behind_15 : decode cL_behind 15 = .ok (.iconst 1, 1) := by decide +kernel
theorem dL_behind_16 : decode cL_behind 16 = .ok (.ireturn, 1) := by decide +kernel
theorem dL_behind_17 : decode cL_behind 17 = .ok (.iconst 0, 1) := by decide +kernel
theorem dL_behind_18 : decode cL_behind 18 = .ok (.ireturn, 1) := by decide +kernel
theorem dL_law_0 : decode cL_law 0 = .ok (.new 8, 3) := by decide +kernel
theorem dL_law_3 : decode cL_law 3 = .ok (.dup, 1) := by decide +kernel
theorem dL_law_4 : decode cL_law 4 = .ok (.invokespecial 23, 3) := by decide +kernel
theorem dL_law_7 : decode cL_law 7 = .ok (.astore_n 1, 1) := by decide +kernel
theorem dL_law_8 : decode cL_law 8 = .ok (.new 24, 3) := by decide +kernel
theorem dL_law_11 : decode cL_law 11 = .ok (.dup, 1) := by decide +kernel
theorem dL_law_12 : decode cL_law 12 = .ok (.invokespecial 26, 3) := by decide +kernel
theorem dL_law_15 : decode cL_law 15 = .ok (.astore_n 2, 1) := by decide +kernel
theorem dL_law_16 : decode cL_law 16 = .ok (.iconst 1, 1) := by decide +kernel
theorem dL_law_17 : decode cL_law 17 = .ok (.newarray .long, 2) := by decide +kernel
theorem dL_law_19 : decode cL_law 19 = .ok (.astore_n 3, 1) := by decide +kernel
theorem dL_law_20 : decode cL_law 20 = .ok (.iconst 0, 1) := by decide +kernel
theorem dL_law_21 : decode cL_law 21 = .ok (.istore 4, 2) := by decide +kernel
theorem dL_law_23 : decode cL_law 23 = .ok (.iload 4, 2) := by decide +kernel
theorem dL_law_25 : decode cL_law 25 = .ok (.aload_n 0, 1) := by decide +kernel
theorem dL_law_26 : decode cL_law 26 = .ok (.arraylength, 1) := by decide +kernel
theorem dL_law_27 : decode cL_law 27 = .ok (.bipush 7, 2) := by decide +kernel
theorem dL_law_29 : decode cL_law 29 = .ok (.isub, 1) := by decide +kernel
theorem dL_law_30 : decode cL_law 30 = .ok (.if_icmp .gt 1720, 3) := by decide +kernel
theorem dL_law_33 : decode cL_law 33 = .ok (.aload_n 0, 1) := by decide +kernel
theorem dL_law_34 : decode cL_law 34 = .ok (.iload 4, 2) := by decide +kernel
theorem dL_law_36 : decode cL_law 36 = .ok (.iaload, 1) := by decide +kernel
theorem dL_law_37 : decode cL_law 37 = .ok (.bipush 63, 2) := by decide +kernel
theorem dL_law_39 : decode cL_law 39 = .ok (.iand, 1) := by decide +kernel
theorem dL_law_40 : decode cL_law 40 = .ok (.tableswitch 1704 0 40 #[180, 327, 340, 353, 390, 427, 464, 501, 538, 587, 667, 704, 729, 766, 834, 871, 884, 921, 970, 1019, 1044, 1069, 1094, 1131, 1187, 1200, 1249, 1286, 1323, 1336, 1361, 1386, 1411, 1436, 1461, 1486, 1551, 1564, 1577, 1626, 1679], 180) := by decide +kernel
theorem dL_law_220 : decode cL_law 220 = .ok (.aload_n 1, 1) := by decide +kernel
theorem dL_law_221 : decode cL_law 221 = .ok (.aload_n 0, 1) := by decide +kernel
theorem dL_law_222 : decode cL_law 222 = .ok (.iload 4, 2) := by decide +kernel
theorem dL_law_224 : decode cL_law 224 = .ok (.iconst 1, 1) := by decide +kernel
theorem dL_law_225 : decode cL_law 225 = .ok (.iadd, 1) := by decide +kernel
theorem dL_law_226 : decode cL_law 226 = .ok (.iaload, 1) := by decide +kernel
theorem dL_law_227 : decode cL_law 227 = .ok (.i2l, 1) := by decide +kernel
theorem dL_law_228 : decode cL_law 228 = .ok (.bipush 32, 2) := by decide +kernel
theorem dL_law_230 : decode cL_law 230 = .ok (.lshl, 1) := by decide +kernel
theorem dL_law_231 : decode cL_law 231 = .ok (.aload_n 0, 1) := by decide +kernel
theorem dL_law_232 : decode cL_law 232 = .ok (.iload 4, 2) := by decide +kernel
theorem dL_law_234 : decode cL_law 234 = .ok (.iconst 2, 1) := by decide +kernel
theorem dL_law_235 : decode cL_law 235 = .ok (.iadd, 1) := by decide +kernel
theorem dL_law_236 : decode cL_law 236 = .ok (.iaload, 1) := by decide +kernel
theorem dL_law_237 : decode cL_law 237 = .ok (.i2l, 1) := by decide +kernel
theorem dL_law_238 : decode cL_law 238 = .ok (.ldc2_w 27, 3) := by decide +kernel
theorem dL_law_241 : decode cL_law 241 = .ok (.land, 1) := by decide +kernel
theorem dL_law_242 : decode cL_law 242 = .ok (.lor, 1) := by decide +kernel
theorem dL_law_243 : decode cL_law 243 = .ok (.aload_n 0, 1) := by decide +kernel
theorem dL_law_244 : decode cL_law 244 = .ok (.iload 4, 2) := by decide +kernel
theorem dL_law_246 : decode cL_law 246 = .ok (.iconst 3, 1) := by decide +kernel
theorem dL_law_247 : decode cL_law 247 = .ok (.iadd, 1) := by decide +kernel
theorem dL_law_248 : decode cL_law 248 = .ok (.iaload, 1) := by decide +kernel
theorem dL_law_249 : decode cL_law 249 = .ok (.i2l, 1) := by decide +kernel
theorem dL_law_250 : decode cL_law 250 = .ok (.bipush 32, 2) := by decide +kernel
theorem dL_law_252 : decode cL_law 252 = .ok (.lshl, 1) := by decide +kernel
theorem dL_law_253 : decode cL_law 253 = .ok (.aload_n 0, 1) := by decide +kernel
theorem dL_law_254 : decode cL_law 254 = .ok (.iload 4, 2) := by decide +kernel
theorem dL_law_256 : decode cL_law 256 = .ok (.iconst 4, 1) := by decide +kernel
theorem dL_law_257 : decode cL_law 257 = .ok (.iadd, 1) := by decide +kernel
theorem dL_law_258 : decode cL_law 258 = .ok (.iaload, 1) := by decide +kernel
theorem dL_law_259 : decode cL_law 259 = .ok (.i2l, 1) := by decide +kernel
theorem dL_law_260 : decode cL_law 260 = .ok (.ldc2_w 27, 3) := by decide +kernel
theorem dL_law_263 : decode cL_law 263 = .ok (.land, 1) := by decide +kernel
theorem dL_law_264 : decode cL_law 264 = .ok (.lor, 1) := by decide +kernel
theorem dL_law_265 : decode cL_law 265 = .ok (.aload_n 0, 1) := by decide +kernel
theorem dL_law_266 : decode cL_law 266 = .ok (.iload 4, 2) := by decide +kernel
theorem dL_law_268 : decode cL_law 268 = .ok (.iconst 5, 1) := by decide +kernel
theorem dL_law_269 : decode cL_law 269 = .ok (.iadd, 1) := by decide +kernel
theorem dL_law_270 : decode cL_law 270 = .ok (.iaload, 1) := by decide +kernel
theorem dL_law_271 : decode cL_law 271 = .ok (.i2l, 1) := by decide +kernel
theorem dL_law_272 : decode cL_law 272 = .ok (.bipush 32, 2) := by decide +kernel
theorem dL_law_274 : decode cL_law 274 = .ok (.lshl, 1) := by decide +kernel
theorem dL_law_275 : decode cL_law 275 = .ok (.aload_n 0, 1) := by decide +kernel
theorem dL_law_276 : decode cL_law 276 = .ok (.iload 4, 2) := by decide +kernel
theorem dL_law_278 : decode cL_law 278 = .ok (.bipush 6, 2) := by decide +kernel
theorem dL_law_280 : decode cL_law 280 = .ok (.iadd, 1) := by decide +kernel
theorem dL_law_281 : decode cL_law 281 = .ok (.iaload, 1) := by decide +kernel
theorem dL_law_282 : decode cL_law 282 = .ok (.i2l, 1) := by decide +kernel
theorem dL_law_283 : decode cL_law 283 = .ok (.ldc2_w 27, 3) := by decide +kernel
theorem dL_law_286 : decode cL_law 286 = .ok (.land, 1) := by decide +kernel
theorem dL_law_287 : decode cL_law 287 = .ok (.lor, 1) := by decide +kernel
theorem dL_law_288 : decode cL_law 288 = .ok (.invokevirtual 29, 3) := by decide +kernel
theorem dL_law_291 : decode cL_law 291 = .ok (.aload_n 2, 1) := by decide +kernel
theorem dL_law_292 : decode cL_law 292 = .ok (.aload_n 0, 1) := by decide +kernel
theorem dL_law_293 : decode cL_law 293 = .ok (.iload 4, 2) := by decide +kernel
theorem dL_law_295 : decode cL_law 295 = .ok (.iconst 1, 1) := by decide +kernel
theorem dL_law_296 : decode cL_law 296 = .ok (.iadd, 1) := by decide +kernel
theorem dL_law_297 : decode cL_law 297 = .ok (.iaload, 1) := by decide +kernel
theorem dL_law_298 : decode cL_law 298 = .ok (.i2l, 1) := by decide +kernel
theorem dL_law_299 : decode cL_law 299 = .ok (.bipush 32, 2) := by decide +kernel
theorem dL_law_301 : decode cL_law 301 = .ok (.lshl, 1) := by decide +kernel
theorem dL_law_302 : decode cL_law 302 = .ok (.aload_n 0, 1) := by decide +kernel
theorem dL_law_303 : decode cL_law 303 = .ok (.iload 4, 2) := by decide +kernel
theorem dL_law_305 : decode cL_law 305 = .ok (.iconst 2, 1) := by decide +kernel
theorem dL_law_306 : decode cL_law 306 = .ok (.iadd, 1) := by decide +kernel
theorem dL_law_307 : decode cL_law 307 = .ok (.iaload, 1) := by decide +kernel
theorem dL_law_308 : decode cL_law 308 = .ok (.i2l, 1) := by decide +kernel
theorem dL_law_309 : decode cL_law 309 = .ok (.ldc2_w 27, 3) := by decide +kernel
theorem dL_law_312 : decode cL_law 312 = .ok (.land, 1) := by decide +kernel
theorem dL_law_313 : decode cL_law 313 = .ok (.lor, 1) := by decide +kernel
theorem dL_law_314 : decode cL_law 314 = .ok (.aload_n 0, 1) := by decide +kernel
theorem dL_law_315 : decode cL_law 315 = .ok (.iload 4, 2) := by decide +kernel
theorem dL_law_317 : decode cL_law 317 = .ok (.iconst 3, 1) := by decide +kernel
theorem dL_law_318 : decode cL_law 318 = .ok (.iadd, 1) := by decide +kernel
theorem dL_law_319 : decode cL_law 319 = .ok (.iaload, 1) := by decide +kernel
theorem dL_law_320 : decode cL_law 320 = .ok (.i2l, 1) := by decide +kernel
theorem dL_law_321 : decode cL_law 321 = .ok (.bipush 32, 2) := by decide +kernel
theorem dL_law_323 : decode cL_law 323 = .ok (.lshl, 1) := by decide +kernel
theorem dL_law_324 : decode cL_law 324 = .ok (.aload_n 0, 1) := by decide +kernel
theorem dL_law_325 : decode cL_law 325 = .ok (.iload 4, 2) := by decide +kernel
theorem dL_law_327 : decode cL_law 327 = .ok (.iconst 4, 1) := by decide +kernel
theorem dL_law_328 : decode cL_law 328 = .ok (.iadd, 1) := by decide +kernel
theorem dL_law_329 : decode cL_law 329 = .ok (.iaload, 1) := by decide +kernel
theorem dL_law_330 : decode cL_law 330 = .ok (.i2l, 1) := by decide +kernel
theorem dL_law_331 : decode cL_law 331 = .ok (.ldc2_w 27, 3) := by decide +kernel
theorem dL_law_334 : decode cL_law 334 = .ok (.land, 1) := by decide +kernel
theorem dL_law_335 : decode cL_law 335 = .ok (.lor, 1) := by decide +kernel
theorem dL_law_336 : decode cL_law 336 = .ok (.aload_n 0, 1) := by decide +kernel
theorem dL_law_337 : decode cL_law 337 = .ok (.iload 4, 2) := by decide +kernel
theorem dL_law_339 : decode cL_law 339 = .ok (.iconst 5, 1) := by decide +kernel
theorem dL_law_340 : decode cL_law 340 = .ok (.iadd, 1) := by decide +kernel
theorem dL_law_341 : decode cL_law 341 = .ok (.iaload, 1) := by decide +kernel
theorem dL_law_342 : decode cL_law 342 = .ok (.i2l, 1) := by decide +kernel
theorem dL_law_343 : decode cL_law 343 = .ok (.bipush 32, 2) := by decide +kernel
theorem dL_law_345 : decode cL_law 345 = .ok (.lshl, 1) := by decide +kernel
theorem dL_law_346 : decode cL_law 346 = .ok (.aload_n 0, 1) := by decide +kernel
theorem dL_law_347 : decode cL_law 347 = .ok (.iload 4, 2) := by decide +kernel
theorem dL_law_349 : decode cL_law 349 = .ok (.bipush 6, 2) := by decide +kernel
theorem dL_law_351 : decode cL_law 351 = .ok (.iadd, 1) := by decide +kernel
theorem dL_law_352 : decode cL_law 352 = .ok (.iaload, 1) := by decide +kernel
theorem dL_law_353 : decode cL_law 353 = .ok (.i2l, 1) := by decide +kernel
theorem dL_law_354 : decode cL_law 354 = .ok (.ldc2_w 27, 3) := by decide +kernel
theorem dL_law_357 : decode cL_law 357 = .ok (.land, 1) := by decide +kernel
theorem dL_law_358 : decode cL_law 358 = .ok (.lor, 1) := by decide +kernel
theorem dL_law_359 : decode cL_law 359 = .ok (.invokevirtual 33, 3) := by decide +kernel
theorem dL_law_362 : decode cL_law 362 = .ok (.if_icmp .eq 1382, 3) := by decide +kernel
theorem dL_law_365 : decode cL_law 365 = .ok (.iconst 0, 1) := by decide +kernel
theorem dL_law_366 : decode cL_law 366 = .ok (.ireturn, 1) := by decide +kernel
theorem dL_law_367 : decode cL_law 367 = .ok (.aload_n 1, 1) := by decide +kernel
theorem dL_law_368 : decode cL_law 368 = .ok (.invokevirtual 34, 3) := by decide +kernel
theorem dL_law_371 : decode cL_law 371 = .ok (.aload_n 2, 1) := by decide +kernel
theorem dL_law_372 : decode cL_law 372 = .ok (.invokevirtual 38, 3) := by decide +kernel
theorem dL_law_375 : decode cL_law 375 = .ok (.if_icmp .eq 1369, 3) := by decide +kernel
theorem dL_law_378 : decode cL_law 378 = .ok (.iconst 0, 1) := by decide +kernel
theorem dL_law_379 : decode cL_law 379 = .ok (.ireturn, 1) := by decide +kernel
theorem dL_law_380 : decode cL_law 380 = .ok (.aload_n 1, 1) := by decide +kernel
theorem dL_law_381 : decode cL_law 381 = .ok (.invokevirtual 39, 3) := by decide +kernel
theorem dL_law_384 : decode cL_law 384 = .ok (.aload_n 2, 1) := by decide +kernel
theorem dL_law_385 : decode cL_law 385 = .ok (.invokevirtual 42, 3) := by decide +kernel
theorem dL_law_388 : decode cL_law 388 = .ok (.if_icmp .eq 1356, 3) := by decide +kernel
theorem dL_law_391 : decode cL_law 391 = .ok (.iconst 0, 1) := by decide +kernel
theorem dL_law_392 : decode cL_law 392 = .ok (.ireturn, 1) := by decide +kernel
theorem dL_law_393 : decode cL_law 393 = .ok (.aload_n 1, 1) := by decide +kernel
theorem dL_law_394 : decode cL_law 394 = .ok (.aload_n 0, 1) := by decide +kernel
theorem dL_law_395 : decode cL_law 395 = .ok (.iload 4, 2) := by decide +kernel
theorem dL_law_397 : decode cL_law 397 = .ok (.iconst 1, 1) := by decide +kernel
theorem dL_law_398 : decode cL_law 398 = .ok (.iadd, 1) := by decide +kernel
theorem dL_law_399 : decode cL_law 399 = .ok (.iaload, 1) := by decide +kernel
theorem dL_law_400 : decode cL_law 400 = .ok (.aload_n 0, 1) := by decide +kernel
theorem dL_law_401 : decode cL_law 401 = .ok (.iload 4, 2) := by decide +kernel
theorem dL_law_403 : decode cL_law 403 = .ok (.iconst 2, 1) := by decide +kernel
theorem dL_law_404 : decode cL_law 404 = .ok (.iadd, 1) := by decide +kernel
theorem dL_law_405 : decode cL_law 405 = .ok (.iaload, 1) := by decide +kernel
theorem dL_law_406 : decode cL_law 406 = .ok (.invokevirtual 43, 3) := by decide +kernel
theorem dL_law_409 : decode cL_law 409 = .ok (.aload_n 2, 1) := by decide +kernel
theorem dL_law_410 : decode cL_law 410 = .ok (.aload_n 0, 1) := by decide +kernel
theorem dL_law_411 : decode cL_law 411 = .ok (.iload 4, 2) := by decide +kernel
theorem dL_law_413 : decode cL_law 413 = .ok (.iconst 1, 1) := by decide +kernel
theorem dL_law_414 : decode cL_law 414 = .ok (.iadd, 1) := by decide +kernel
theorem dL_law_415 : decode cL_law 415 = .ok (.iaload, 1) := by decide +kernel
theorem dL_law_416 : decode cL_law 416 = .ok (.aload_n 0, 1) := by decide +kernel
theorem dL_law_417 : decode cL_law 417 = .ok (.iload 4, 2) := by decide +kernel
theorem dL_law_419 : decode cL_law 419 = .ok (.iconst 2, 1) := by decide +kernel
theorem dL_law_420 : decode cL_law 420 = .ok (.iadd, 1) := by decide +kernel
theorem dL_law_421 : decode cL_law 421 = .ok (.iaload, 1) := by decide +kernel
theorem dL_law_422 : decode cL_law 422 = .ok (.invokevirtual 46, 3) := by decide +kernel
theorem dL_law_425 : decode cL_law 425 = .ok (.if_icmp .eq 1319, 3) := by decide +kernel
theorem dL_law_428 : decode cL_law 428 = .ok (.iconst 0, 1) := by decide +kernel
theorem dL_law_429 : decode cL_law 429 = .ok (.ireturn, 1) := by decide +kernel
theorem dL_law_430 : decode cL_law 430 = .ok (.aload_n 1, 1) := by decide +kernel
theorem dL_law_431 : decode cL_law 431 = .ok (.aload_n 0, 1) := by decide +kernel
theorem dL_law_432 : decode cL_law 432 = .ok (.iload 4, 2) := by decide +kernel
theorem dL_law_434 : decode cL_law 434 = .ok (.iconst 1, 1) := by decide +kernel
theorem dL_law_435 : decode cL_law 435 = .ok (.iadd, 1) := by decide +kernel
theorem dL_law_436 : decode cL_law 436 = .ok (.iaload, 1) := by decide +kernel
theorem dL_law_437 : decode cL_law 437 = .ok (.aload_n 0, 1) := by decide +kernel
theorem dL_law_438 : decode cL_law 438 = .ok (.iload 4, 2) := by decide +kernel
theorem dL_law_440 : decode cL_law 440 = .ok (.iconst 2, 1) := by decide +kernel
theorem dL_law_441 : decode cL_law 441 = .ok (.iadd, 1) := by decide +kernel
theorem dL_law_442 : decode cL_law 442 = .ok (.iaload, 1) := by decide +kernel
theorem dL_law_443 : decode cL_law 443 = .ok (.invokevirtual 47, 3) := by decide +kernel
theorem dL_law_446 : decode cL_law 446 = .ok (.aload_n 2, 1) := by decide +kernel
theorem dL_law_447 : decode cL_law 447 = .ok (.aload_n 0, 1) := by decide +kernel
theorem dL_law_448 : decode cL_law 448 = .ok (.iload 4, 2) := by decide +kernel
theorem dL_law_450 : decode cL_law 450 = .ok (.iconst 1, 1) := by decide +kernel
theorem dL_law_451 : decode cL_law 451 = .ok (.iadd, 1) := by decide +kernel
theorem dL_law_452 : decode cL_law 452 = .ok (.iaload, 1) := by decide +kernel
theorem dL_law_453 : decode cL_law 453 = .ok (.aload_n 0, 1) := by decide +kernel
theorem dL_law_454 : decode cL_law 454 = .ok (.iload 4, 2) := by decide +kernel
theorem dL_law_456 : decode cL_law 456 = .ok (.iconst 2, 1) := by decide +kernel
theorem dL_law_457 : decode cL_law 457 = .ok (.iadd, 1) := by decide +kernel
theorem dL_law_458 : decode cL_law 458 = .ok (.iaload, 1) := by decide +kernel
theorem dL_law_459 : decode cL_law 459 = .ok (.invokevirtual 50, 3) := by decide +kernel
theorem dL_law_462 : decode cL_law 462 = .ok (.if_icmp .eq 1282, 3) := by decide +kernel
theorem dL_law_465 : decode cL_law 465 = .ok (.iconst 0, 1) := by decide +kernel
theorem dL_law_466 : decode cL_law 466 = .ok (.ireturn, 1) := by decide +kernel
theorem dL_law_467 : decode cL_law 467 = .ok (.aload_n 1, 1) := by decide +kernel
theorem dL_law_468 : decode cL_law 468 = .ok (.aload_n 0, 1) := by decide +kernel
theorem dL_law_469 : decode cL_law 469 = .ok (.iload 4, 2) := by decide +kernel
theorem dL_law_471 : decode cL_law 471 = .ok (.iconst 1, 1) := by decide +kernel
theorem dL_law_472 : decode cL_law 472 = .ok (.iadd, 1) := by decide +kernel
theorem dL_law_473 : decode cL_law 473 = .ok (.iaload, 1) := by decide +kernel
theorem dL_law_474 : decode cL_law 474 = .ok (.aload_n 0, 1) := by decide +kernel
theorem dL_law_475 : decode cL_law 475 = .ok (.iload 4, 2) := by decide +kernel
theorem dL_law_477 : decode cL_law 477 = .ok (.iconst 2, 1) := by decide +kernel
theorem dL_law_478 : decode cL_law 478 = .ok (.iadd, 1) := by decide +kernel
theorem dL_law_479 : decode cL_law 479 = .ok (.iaload, 1) := by decide +kernel
theorem dL_law_480 : decode cL_law 480 = .ok (.invokevirtual 51, 3) := by decide +kernel
theorem dL_law_483 : decode cL_law 483 = .ok (.aload_n 2, 1) := by decide +kernel
theorem dL_law_484 : decode cL_law 484 = .ok (.aload_n 0, 1) := by decide +kernel
theorem dL_law_485 : decode cL_law 485 = .ok (.iload 4, 2) := by decide +kernel
theorem dL_law_487 : decode cL_law 487 = .ok (.iconst 1, 1) := by decide +kernel
theorem dL_law_488 : decode cL_law 488 = .ok (.iadd, 1) := by decide +kernel
theorem dL_law_489 : decode cL_law 489 = .ok (.iaload, 1) := by decide +kernel
theorem dL_law_490 : decode cL_law 490 = .ok (.aload_n 0, 1) := by decide +kernel
theorem dL_law_491 : decode cL_law 491 = .ok (.iload 4, 2) := by decide +kernel
theorem dL_law_493 : decode cL_law 493 = .ok (.iconst 2, 1) := by decide +kernel
theorem dL_law_494 : decode cL_law 494 = .ok (.iadd, 1) := by decide +kernel
theorem dL_law_495 : decode cL_law 495 = .ok (.iaload, 1) := by decide +kernel
theorem dL_law_496 : decode cL_law 496 = .ok (.invokevirtual 54, 3) := by decide +kernel
theorem dL_law_499 : decode cL_law 499 = .ok (.if_icmp .eq 1245, 3) := by decide +kernel
theorem dL_law_502 : decode cL_law 502 = .ok (.iconst 0, 1) := by decide +kernel
theorem dL_law_503 : decode cL_law 503 = .ok (.ireturn, 1) := by decide +kernel
theorem dL_law_504 : decode cL_law 504 = .ok (.aload_n 1, 1) := by decide +kernel
theorem dL_law_505 : decode cL_law 505 = .ok (.aload_n 0, 1) := by decide +kernel
theorem dL_law_506 : decode cL_law 506 = .ok (.iload 4, 2) := by decide +kernel
theorem dL_law_508 : decode cL_law 508 = .ok (.iconst 1, 1) := by decide +kernel
theorem dL_law_509 : decode cL_law 509 = .ok (.iadd, 1) := by decide +kernel
theorem dL_law_510 : decode cL_law 510 = .ok (.iaload, 1) := by decide +kernel
theorem dL_law_511 : decode cL_law 511 = .ok (.aload_n 0, 1) := by decide +kernel
theorem dL_law_512 : decode cL_law 512 = .ok (.iload 4, 2) := by decide +kernel
theorem dL_law_514 : decode cL_law 514 = .ok (.iconst 2, 1) := by decide +kernel
theorem dL_law_515 : decode cL_law 515 = .ok (.iadd, 1) := by decide +kernel
theorem dL_law_516 : decode cL_law 516 = .ok (.iaload, 1) := by decide +kernel
theorem dL_law_517 : decode cL_law 517 = .ok (.invokevirtual 55, 3) := by decide +kernel
theorem dL_law_520 : decode cL_law 520 = .ok (.aload_n 2, 1) := by decide +kernel
theorem dL_law_521 : decode cL_law 521 = .ok (.aload_n 0, 1) := by decide +kernel
theorem dL_law_522 : decode cL_law 522 = .ok (.iload 4, 2) := by decide +kernel
theorem dL_law_524 : decode cL_law 524 = .ok (.iconst 1, 1) := by decide +kernel
theorem dL_law_525 : decode cL_law 525 = .ok (.iadd, 1) := by decide +kernel
theorem dL_law_526 : decode cL_law 526 = .ok (.iaload, 1) := by decide +kernel
theorem dL_law_527 : decode cL_law 527 = .ok (.aload_n 0, 1) := by decide +kernel
theorem dL_law_528 : decode cL_law 528 = .ok (.iload 4, 2) := by decide +kernel
theorem dL_law_530 : decode cL_law 530 = .ok (.iconst 2, 1) := by decide +kernel
theorem dL_law_531 : decode cL_law 531 = .ok (.iadd, 1) := by decide +kernel
theorem dL_law_532 : decode cL_law 532 = .ok (.iaload, 1) := by decide +kernel
theorem dL_law_533 : decode cL_law 533 = .ok (.invokevirtual 58, 3) := by decide +kernel
theorem dL_law_536 : decode cL_law 536 = .ok (.if_icmp .eq 1208, 3) := by decide +kernel
theorem dL_law_539 : decode cL_law 539 = .ok (.iconst 0, 1) := by decide +kernel
theorem dL_law_540 : decode cL_law 540 = .ok (.ireturn, 1) := by decide +kernel
theorem dL_law_541 : decode cL_law 541 = .ok (.aload_n 1, 1) := by decide +kernel
theorem dL_law_542 : decode cL_law 542 = .ok (.aload_n 0, 1) := by decide +kernel
theorem dL_law_543 : decode cL_law 543 = .ok (.iload 4, 2) := by decide +kernel
theorem dL_law_545 : decode cL_law 545 = .ok (.iconst 1, 1) := by decide +kernel
theorem dL_law_546 : decode cL_law 546 = .ok (.iadd, 1) := by decide +kernel
theorem dL_law_547 : decode cL_law 547 = .ok (.iaload, 1) := by decide +kernel
theorem dL_law_548 : decode cL_law 548 = .ok (.aload_n 0, 1) := by decide +kernel
theorem dL_law_549 : decode cL_law 549 = .ok (.iload 4, 2) := by decide +kernel
theorem dL_law_551 : decode cL_law 551 = .ok (.iconst 2, 1) := by decide +kernel
theorem dL_law_552 : decode cL_law 552 = .ok (.iadd, 1) := by decide +kernel
theorem dL_law_553 : decode cL_law 553 = .ok (.iaload, 1) := by decide +kernel
theorem dL_law_554 : decode cL_law 554 = .ok (.invokevirtual 59, 3) := by decide +kernel
theorem dL_law_557 : decode cL_law 557 = .ok (.aload_n 2, 1) := by decide +kernel
theorem dL_law_558 : decode cL_law 558 = .ok (.aload_n 0, 1) := by decide +kernel
theorem dL_law_559 : decode cL_law 559 = .ok (.iload 4, 2) := by decide +kernel
theorem dL_law_561 : decode cL_law 561 = .ok (.iconst 1, 1) := by decide +kernel
theorem dL_law_562 : decode cL_law 562 = .ok (.iadd, 1) := by decide +kernel
theorem dL_law_563 : decode cL_law 563 = .ok (.iaload, 1) := by decide +kernel
theorem dL_law_564 : decode cL_law 564 = .ok (.aload_n 0, 1) := by decide +kernel
theorem dL_law_565 : decode cL_law 565 = .ok (.iload 4, 2) := by decide +kernel
theorem dL_law_567 : decode cL_law 567 = .ok (.iconst 2, 1) := by decide +kernel
theorem dL_law_568 : decode cL_law 568 = .ok (.iadd, 1) := by decide +kernel
theorem dL_law_569 : decode cL_law 569 = .ok (.iaload, 1) := by decide +kernel
theorem dL_law_570 : decode cL_law 570 = .ok (.invokevirtual 62, 3) := by decide +kernel
theorem dL_law_573 : decode cL_law 573 = .ok (.if_icmp .eq 1171, 3) := by decide +kernel
theorem dL_law_576 : decode cL_law 576 = .ok (.iconst 0, 1) := by decide +kernel
theorem dL_law_577 : decode cL_law 577 = .ok (.ireturn, 1) := by decide +kernel
theorem dL_law_578 : decode cL_law 578 = .ok (.aload_n 1, 1) := by decide +kernel
theorem dL_law_579 : decode cL_law 579 = .ok (.aload_n 0, 1) := by decide +kernel
theorem dL_law_580 : decode cL_law 580 = .ok (.iload 4, 2) := by decide +kernel
theorem dL_law_582 : decode cL_law 582 = .ok (.iconst 1, 1) := by decide +kernel
theorem dL_law_583 : decode cL_law 583 = .ok (.iadd, 1) := by decide +kernel
theorem dL_law_584 : decode cL_law 584 = .ok (.iaload, 1) := by decide +kernel
theorem dL_law_585 : decode cL_law 585 = .ok (.aload_n 0, 1) := by decide +kernel
theorem dL_law_586 : decode cL_law 586 = .ok (.iload 4, 2) := by decide +kernel
theorem dL_law_588 : decode cL_law 588 = .ok (.iconst 2, 1) := by decide +kernel
theorem dL_law_589 : decode cL_law 589 = .ok (.iadd, 1) := by decide +kernel
theorem dL_law_590 : decode cL_law 590 = .ok (.iaload, 1) := by decide +kernel
theorem dL_law_591 : decode cL_law 591 = .ok (.aload_n 0, 1) := by decide +kernel
theorem dL_law_592 : decode cL_law 592 = .ok (.iload 4, 2) := by decide +kernel
theorem dL_law_594 : decode cL_law 594 = .ok (.iconst 3, 1) := by decide +kernel
theorem dL_law_595 : decode cL_law 595 = .ok (.iadd, 1) := by decide +kernel
theorem dL_law_596 : decode cL_law 596 = .ok (.iaload, 1) := by decide +kernel
theorem dL_law_597 : decode cL_law 597 = .ok (.invokevirtual 63, 3) := by decide +kernel
theorem dL_law_600 : decode cL_law 600 = .ok (.aload_n 2, 1) := by decide +kernel
theorem dL_law_601 : decode cL_law 601 = .ok (.aload_n 0, 1) := by decide +kernel
theorem dL_law_602 : decode cL_law 602 = .ok (.iload 4, 2) := by decide +kernel
theorem dL_law_604 : decode cL_law 604 = .ok (.iconst 1, 1) := by decide +kernel
theorem dL_law_605 : decode cL_law 605 = .ok (.iadd, 1) := by decide +kernel
theorem dL_law_606 : decode cL_law 606 = .ok (.iaload, 1) := by decide +kernel
theorem dL_law_607 : decode cL_law 607 = .ok (.aload_n 0, 1) := by decide +kernel
theorem dL_law_608 : decode cL_law 608 = .ok (.iload 4, 2) := by decide +kernel
theorem dL_law_610 : decode cL_law 610 = .ok (.iconst 2, 1) := by decide +kernel
theorem dL_law_611 : decode cL_law 611 = .ok (.iadd, 1) := by decide +kernel
theorem dL_law_612 : decode cL_law 612 = .ok (.iaload, 1) := by decide +kernel
theorem dL_law_613 : decode cL_law 613 = .ok (.aload_n 0, 1) := by decide +kernel
theorem dL_law_614 : decode cL_law 614 = .ok (.iload 4, 2) := by decide +kernel
theorem dL_law_616 : decode cL_law 616 = .ok (.iconst 3, 1) := by decide +kernel
theorem dL_law_617 : decode cL_law 617 = .ok (.iadd, 1) := by decide +kernel
theorem dL_law_618 : decode cL_law 618 = .ok (.iaload, 1) := by decide +kernel
theorem dL_law_619 : decode cL_law 619 = .ok (.invokevirtual 66, 3) := by decide +kernel
theorem dL_law_622 : decode cL_law 622 = .ok (.if_icmp .eq 1122, 3) := by decide +kernel
theorem dL_law_625 : decode cL_law 625 = .ok (.iconst 0, 1) := by decide +kernel
theorem dL_law_626 : decode cL_law 626 = .ok (.ireturn, 1) := by decide +kernel
theorem dL_law_627 : decode cL_law 627 = .ok (.aload_n 1, 1) := by decide +kernel
theorem dL_law_628 : decode cL_law 628 = .ok (.aload_n 0, 1) := by decide +kernel
theorem dL_law_629 : decode cL_law 629 = .ok (.iload 4, 2) := by decide +kernel
theorem dL_law_631 : decode cL_law 631 = .ok (.iconst 1, 1) := by decide +kernel
theorem dL_law_632 : decode cL_law 632 = .ok (.iadd, 1) := by decide +kernel
theorem dL_law_633 : decode cL_law 633 = .ok (.iaload, 1) := by decide +kernel
theorem dL_law_634 : decode cL_law 634 = .ok (.aload_n 0, 1) := by decide +kernel
theorem dL_law_635 : decode cL_law 635 = .ok (.iload 4, 2) := by decide +kernel
theorem dL_law_637 : decode cL_law 637 = .ok (.iconst 2, 1) := by decide +kernel
theorem dL_law_638 : decode cL_law 638 = .ok (.iadd, 1) := by decide +kernel
theorem dL_law_639 : decode cL_law 639 = .ok (.iaload, 1) := by decide +kernel
theorem dL_law_640 : decode cL_law 640 = .ok (.aload_n 0, 1) := by decide +kernel
theorem dL_law_641 : decode cL_law 641 = .ok (.iload 4, 2) := by decide +kernel
theorem dL_law_643 : decode cL_law 643 = .ok (.iconst 3, 1) := by decide +kernel
theorem dL_law_644 : decode cL_law 644 = .ok (.iadd, 1) := by decide +kernel
theorem dL_law_645 : decode cL_law 645 = .ok (.iaload, 1) := by decide +kernel
theorem dL_law_646 : decode cL_law 646 = .ok (.aload_n 3, 1) := by decide +kernel
theorem dL_law_647 : decode cL_law 647 = .ok (.invokestatic 67, 3) := by decide +kernel
theorem dL_law_650 : decode cL_law 650 = .ok (.istore 5, 2) := by decide +kernel
theorem dL_law_652 : decode cL_law 652 = .ok (.aload_n 2, 1) := by decide +kernel
theorem dL_law_653 : decode cL_law 653 = .ok (.aload_n 0, 1) := by decide +kernel
theorem dL_law_654 : decode cL_law 654 = .ok (.iload 4, 2) := by decide +kernel
theorem dL_law_656 : decode cL_law 656 = .ok (.iconst 1, 1) := by decide +kernel
theorem dL_law_657 : decode cL_law 657 = .ok (.iadd, 1) := by decide +kernel
theorem dL_law_658 : decode cL_law 658 = .ok (.iaload, 1) := by decide +kernel
theorem dL_law_659 : decode cL_law 659 = .ok (.aload_n 0, 1) := by decide +kernel
theorem dL_law_660 : decode cL_law 660 = .ok (.iload 4, 2) := by decide +kernel
theorem dL_law_662 : decode cL_law 662 = .ok (.iconst 2, 1) := by decide +kernel
theorem dL_law_663 : decode cL_law 663 = .ok (.iadd, 1) := by decide +kernel
theorem dL_law_664 : decode cL_law 664 = .ok (.iaload, 1) := by decide +kernel
theorem dL_law_665 : decode cL_law 665 = .ok (.aload_n 0, 1) := by decide +kernel
theorem dL_law_666 : decode cL_law 666 = .ok (.iload 4, 2) := by decide +kernel
theorem dL_law_668 : decode cL_law 668 = .ok (.iconst 3, 1) := by decide +kernel
theorem dL_law_669 : decode cL_law 669 = .ok (.iadd, 1) := by decide +kernel
theorem dL_law_670 : decode cL_law 670 = .ok (.iaload, 1) := by decide +kernel
theorem dL_law_671 : decode cL_law 671 = .ok (.invokevirtual 72, 3) := by decide +kernel
theorem dL_law_674 : decode cL_law 674 = .ok (.istore 6, 2) := by decide +kernel
theorem dL_law_676 : decode cL_law 676 = .ok (.aload_n 2, 1) := by decide +kernel
theorem dL_law_677 : decode cL_law 677 = .ok (.invokevirtual 73, 3) := by decide +kernel
theorem dL_law_680 : decode cL_law 680 = .ok (.iload 5, 2) := by decide +kernel
theorem dL_law_682 : decode cL_law 682 = .ok (.if_icmp .eq 5, 3) := by decide +kernel
theorem dL_law_685 : decode cL_law 685 = .ok (.iconst 0, 1) := by decide +kernel
theorem dL_law_686 : decode cL_law 686 = .ok (.ireturn, 1) := by decide +kernel
theorem dL_law_687 : decode cL_law 687 = .ok (.iload 5, 2) := by decide +kernel
theorem dL_law_689 : decode cL_law 689 = .ok (.ifCond .ne 15, 3) := by decide +kernel
theorem dL_law_692 : decode cL_law 692 = .ok (.aload_n 3, 1) := by decide +kernel
theorem dL_law_693 : decode cL_law 693 = .ok (.iconst 0, 1) := by decide +kernel
theorem dL_law_694 : decode cL_law 694 = .ok (.laload, 1) := by decide +kernel
theorem dL_law_695 : decode cL_law 695 = .ok (.iload 6, 2) := by decide +kernel
theorem dL_law_697 : decode cL_law 697 = .ok (.i2l, 1) := by decide +kernel
theorem dL_law_698 : decode cL_law 698 = .ok (.lcmp, 1) := by decide +kernel
theorem dL_law_699 : decode cL_law 699 = .ok (.ifCond .eq 5, 3) := by decide +kernel
theorem dL_law_702 : decode cL_law 702 = .ok (.iconst 0, 1) := by decide +kernel
theorem dL_law_703 : decode cL_law 703 = .ok (.ireturn, 1) := by decide +kernel
theorem dL_law_704 : decode cL_law 704 = .ok (.goto 1040, 3) := by decide +kernel
theorem dL_law_707 : decode cL_law 707 = .ok (.aload_n 1, 1) := by decide +kernel
theorem dL_law_708 : decode cL_law 708 = .ok (.aload_n 0, 1) := by decide +kernel
theorem dL_law_709 : decode cL_law 709 = .ok (.iload 4, 2) := by decide +kernel
theorem dL_law_711 : decode cL_law 711 = .ok (.iconst 1, 1) := by decide +kernel
theorem dL_law_712 : decode cL_law 712 = .ok (.iadd, 1) := by decide +kernel
theorem dL_law_713 : decode cL_law 713 = .ok (.iaload, 1) := by decide +kernel
theorem dL_law_714 : decode cL_law 714 = .ok (.aload_n 0, 1) := by decide +kernel
theorem dL_law_715 : decode cL_law 715 = .ok (.iload 4, 2) := by decide +kernel
theorem dL_law_717 : decode cL_law 717 = .ok (.iconst 2, 1) := by decide +kernel
theorem dL_law_718 : decode cL_law 718 = .ok (.iadd, 1) := by decide +kernel
theorem dL_law_719 : decode cL_law 719 = .ok (.iaload, 1) := by decide +kernel
theorem dL_law_720 : decode cL_law 720 = .ok (.invokevirtual 76, 3) := by decide +kernel
theorem dL_law_723 : decode cL_law 723 = .ok (.aload_n 2, 1) := by decide +kernel
theorem dL_law_724 : decode cL_law 724 = .ok (.aload_n 0, 1) := by decide +kernel
theorem dL_law_725 : decode cL_law 725 = .ok (.iload 4, 2) := by decide +kernel
theorem dL_law_727 : decode cL_law 727 = .ok (.iconst 1, 1) := by decide +kernel
theorem dL_law_728 : decode cL_law 728 = .ok (.iadd, 1) := by decide +kernel
theorem dL_law_729 : decode cL_law 729 = .ok (.iaload, 1) := by decide +kernel
theorem dL_law_730 : decode cL_law 730 = .ok (.aload_n 0, 1) := by decide +kernel
theorem dL_law_731 : decode cL_law 731 = .ok (.iload 4, 2) := by decide +kernel
theorem dL_law_733 : decode cL_law 733 = .ok (.iconst 2, 1) := by decide +kernel
theorem dL_law_734 : decode cL_law 734 = .ok (.iadd, 1) := by decide +kernel
theorem dL_law_735 : decode cL_law 735 = .ok (.iaload, 1) := by decide +kernel
theorem dL_law_736 : decode cL_law 736 = .ok (.invokevirtual 79, 3) := by decide +kernel
theorem dL_law_739 : decode cL_law 739 = .ok (.if_icmp .eq 1005, 3) := by decide +kernel
theorem dL_law_742 : decode cL_law 742 = .ok (.iconst 0, 1) := by decide +kernel
theorem dL_law_743 : decode cL_law 743 = .ok (.ireturn, 1) := by decide +kernel
theorem dL_law_744 : decode cL_law 744 = .ok (.aload_n 1, 1) := by decide +kernel
theorem dL_law_745 : decode cL_law 745 = .ok (.aload_n 0, 1) := by decide +kernel
theorem dL_law_746 : decode cL_law 746 = .ok (.iload 4, 2) := by decide +kernel
theorem dL_law_748 : decode cL_law 748 = .ok (.iconst 1, 1) := by decide +kernel
theorem dL_law_749 : decode cL_law 749 = .ok (.iadd, 1) := by decide +kernel
theorem dL_law_750 : decode cL_law 750 = .ok (.iaload, 1) := by decide +kernel
theorem dL_law_751 : decode cL_law 751 = .ok (.invokevirtual 80, 3) := by decide +kernel
theorem dL_law_754 : decode cL_law 754 = .ok (.aload_n 2, 1) := by decide +kernel
theorem dL_law_755 : decode cL_law 755 = .ok (.aload_n 0, 1) := by decide +kernel
theorem dL_law_756 : decode cL_law 756 = .ok (.iload 4, 2) := by decide +kernel
theorem dL_law_758 : decode cL_law 758 = .ok (.iconst 1, 1) := by decide +kernel
theorem dL_law_759 : decode cL_law 759 = .ok (.iadd, 1) := by decide +kernel
theorem dL_law_760 : decode cL_law 760 = .ok (.iaload, 1) := by decide +kernel
theorem dL_law_761 : decode cL_law 761 = .ok (.invokevirtual 84, 3) := by decide +kernel
theorem dL_law_764 : decode cL_law 764 = .ok (.if_icmp .eq 980, 3) := by decide +kernel
theorem dL_law_767 : decode cL_law 767 = .ok (.iconst 0, 1) := by decide +kernel
theorem dL_law_768 : decode cL_law 768 = .ok (.ireturn, 1) := by decide +kernel
theorem dL_law_769 : decode cL_law 769 = .ok (.aload_n 1, 1) := by decide +kernel
theorem dL_law_770 : decode cL_law 770 = .ok (.aload_n 0, 1) := by decide +kernel
theorem dL_law_771 : decode cL_law 771 = .ok (.iload 4, 2) := by decide +kernel
theorem dL_law_773 : decode cL_law 773 = .ok (.iconst 1, 1) := by decide +kernel
theorem dL_law_774 : decode cL_law 774 = .ok (.iadd, 1) := by decide +kernel
theorem dL_law_775 : decode cL_law 775 = .ok (.iaload, 1) := by decide +kernel
theorem dL_law_776 : decode cL_law 776 = .ok (.aload_n 0, 1) := by decide +kernel
theorem dL_law_777 : decode cL_law 777 = .ok (.iload 4, 2) := by decide +kernel
theorem dL_law_779 : decode cL_law 779 = .ok (.iconst 2, 1) := by decide +kernel
theorem dL_law_780 : decode cL_law 780 = .ok (.iadd, 1) := by decide +kernel
theorem dL_law_781 : decode cL_law 781 = .ok (.iaload, 1) := by decide +kernel
theorem dL_law_782 : decode cL_law 782 = .ok (.invokevirtual 85, 3) := by decide +kernel
theorem dL_law_785 : decode cL_law 785 = .ok (.aload_n 2, 1) := by decide +kernel
theorem dL_law_786 : decode cL_law 786 = .ok (.aload_n 0, 1) := by decide +kernel
theorem dL_law_787 : decode cL_law 787 = .ok (.iload 4, 2) := by decide +kernel
theorem dL_law_789 : decode cL_law 789 = .ok (.iconst 1, 1) := by decide +kernel
theorem dL_law_790 : decode cL_law 790 = .ok (.iadd, 1) := by decide +kernel
theorem dL_law_791 : decode cL_law 791 = .ok (.iaload, 1) := by decide +kernel
theorem dL_law_792 : decode cL_law 792 = .ok (.aload_n 0, 1) := by decide +kernel
theorem dL_law_793 : decode cL_law 793 = .ok (.iload 4, 2) := by decide +kernel
theorem dL_law_795 : decode cL_law 795 = .ok (.iconst 2, 1) := by decide +kernel
theorem dL_law_796 : decode cL_law 796 = .ok (.iadd, 1) := by decide +kernel
theorem dL_law_797 : decode cL_law 797 = .ok (.iaload, 1) := by decide +kernel
theorem dL_law_798 : decode cL_law 798 = .ok (.invokevirtual 88, 3) := by decide +kernel
theorem dL_law_801 : decode cL_law 801 = .ok (.if_icmp .eq 943, 3) := by decide +kernel
theorem dL_law_804 : decode cL_law 804 = .ok (.iconst 0, 1) := by decide +kernel
theorem dL_law_805 : decode cL_law 805 = .ok (.ireturn, 1) := by decide +kernel
theorem dL_law_806 : decode cL_law 806 = .ok (.aload_n 1, 1) := by decide +kernel
theorem dL_law_807 : decode cL_law 807 = .ok (.aload_n 0, 1) := by decide +kernel
theorem dL_law_808 : decode cL_law 808 = .ok (.iload 4, 2) := by decide +kernel
theorem dL_law_810 : decode cL_law 810 = .ok (.iconst 1, 1) := by decide +kernel
theorem dL_law_811 : decode cL_law 811 = .ok (.iadd, 1) := by decide +kernel
theorem dL_law_812 : decode cL_law 812 = .ok (.iaload, 1) := by decide +kernel
theorem dL_law_813 : decode cL_law 813 = .ok (.aload_n 0, 1) := by decide +kernel
theorem dL_law_814 : decode cL_law 814 = .ok (.iload 4, 2) := by decide +kernel
theorem dL_law_816 : decode cL_law 816 = .ok (.iconst 2, 1) := by decide +kernel
theorem dL_law_817 : decode cL_law 817 = .ok (.iadd, 1) := by decide +kernel
theorem dL_law_818 : decode cL_law 818 = .ok (.iaload, 1) := by decide +kernel
theorem dL_law_819 : decode cL_law 819 = .ok (.aload_n 3, 1) := by decide +kernel
theorem dL_law_820 : decode cL_law 820 = .ok (.invokestatic 89, 3) := by decide +kernel
theorem dL_law_823 : decode cL_law 823 = .ok (.istore 5, 2) := by decide +kernel
theorem dL_law_825 : decode cL_law 825 = .ok (.aload_n 2, 1) := by decide +kernel
theorem dL_law_826 : decode cL_law 826 = .ok (.aload_n 0, 1) := by decide +kernel
theorem dL_law_827 : decode cL_law 827 = .ok (.iload 4, 2) := by decide +kernel
theorem dL_law_829 : decode cL_law 829 = .ok (.iconst 1, 1) := by decide +kernel
theorem dL_law_830 : decode cL_law 830 = .ok (.iadd, 1) := by decide +kernel
theorem dL_law_831 : decode cL_law 831 = .ok (.iaload, 1) := by decide +kernel
theorem dL_law_832 : decode cL_law 832 = .ok (.aload_n 0, 1) := by decide +kernel
theorem dL_law_833 : decode cL_law 833 = .ok (.iload 4, 2) := by decide +kernel
theorem dL_law_835 : decode cL_law 835 = .ok (.iconst 2, 1) := by decide +kernel
theorem dL_law_836 : decode cL_law 836 = .ok (.iadd, 1) := by decide +kernel
theorem dL_law_837 : decode cL_law 837 = .ok (.iaload, 1) := by decide +kernel
theorem dL_law_838 : decode cL_law 838 = .ok (.invokevirtual 92, 3) := by decide +kernel
theorem dL_law_841 : decode cL_law 841 = .ok (.istore 6, 2) := by decide +kernel
theorem dL_law_843 : decode cL_law 843 = .ok (.aload_n 2, 1) := by decide +kernel
theorem dL_law_844 : decode cL_law 844 = .ok (.invokevirtual 73, 3) := by decide +kernel
theorem dL_law_847 : decode cL_law 847 = .ok (.iload 5, 2) := by decide +kernel
theorem dL_law_849 : decode cL_law 849 = .ok (.if_icmp .eq 5, 3) := by decide +kernel
theorem dL_law_852 : decode cL_law 852 = .ok (.iconst 0, 1) := by decide +kernel
theorem dL_law_853 : decode cL_law 853 = .ok (.ireturn, 1) := by decide +kernel
theorem dL_law_854 : decode cL_law 854 = .ok (.iload 5, 2) := by decide +kernel
theorem dL_law_856 : decode cL_law 856 = .ok (.ifCond .ne 15, 3) := by decide +kernel
theorem dL_law_859 : decode cL_law 859 = .ok (.aload_n 3, 1) := by decide +kernel
theorem dL_law_860 : decode cL_law 860 = .ok (.iconst 0, 1) := by decide +kernel
theorem dL_law_861 : decode cL_law 861 = .ok (.laload, 1) := by decide +kernel
theorem dL_law_862 : decode cL_law 862 = .ok (.iload 6, 2) := by decide +kernel
theorem dL_law_864 : decode cL_law 864 = .ok (.i2l, 1) := by decide +kernel
theorem dL_law_865 : decode cL_law 865 = .ok (.lcmp, 1) := by decide +kernel
theorem dL_law_866 : decode cL_law 866 = .ok (.ifCond .eq 5, 3) := by decide +kernel
theorem dL_law_869 : decode cL_law 869 = .ok (.iconst 0, 1) := by decide +kernel
theorem dL_law_870 : decode cL_law 870 = .ok (.ireturn, 1) := by decide +kernel
theorem dL_law_871 : decode cL_law 871 = .ok (.goto 873, 3) := by decide +kernel
theorem dL_law_874 : decode cL_law 874 = .ok (.aload_n 1, 1) := by decide +kernel
theorem dL_law_875 : decode cL_law 875 = .ok (.aload_n 0, 1) := by decide +kernel
theorem dL_law_876 : decode cL_law 876 = .ok (.iload 4, 2) := by decide +kernel
theorem dL_law_878 : decode cL_law 878 = .ok (.iconst 1, 1) := by decide +kernel
theorem dL_law_879 : decode cL_law 879 = .ok (.iadd, 1) := by decide +kernel
theorem dL_law_880 : decode cL_law 880 = .ok (.iaload, 1) := by decide +kernel
theorem dL_law_881 : decode cL_law 881 = .ok (.aload_n 0, 1) := by decide +kernel
theorem dL_law_882 : decode cL_law 882 = .ok (.iload 4, 2) := by decide +kernel
theorem dL_law_884 : decode cL_law 884 = .ok (.iconst 2, 1) := by decide +kernel
theorem dL_law_885 : decode cL_law 885 = .ok (.iadd, 1) := by decide +kernel
theorem dL_law_886 : decode cL_law 886 = .ok (.iaload, 1) := by decide +kernel
theorem dL_law_887 : decode cL_law 887 = .ok (.invokevirtual 93, 3) := by decide +kernel
theorem dL_law_890 : decode cL_law 890 = .ok (.aload_n 2, 1) := by decide +kernel
theorem dL_law_891 : decode cL_law 891 = .ok (.aload_n 0, 1) := by decide +kernel
theorem dL_law_892 : decode cL_law 892 = .ok (.iload 4, 2) := by decide +kernel
theorem dL_law_894 : decode cL_law 894 = .ok (.iconst 1, 1) := by decide +kernel
theorem dL_law_895 : decode cL_law 895 = .ok (.iadd, 1) := by decide +kernel
theorem dL_law_896 : decode cL_law 896 = .ok (.iaload, 1) := by decide +kernel
theorem dL_law_897 : decode cL_law 897 = .ok (.aload_n 0, 1) := by decide +kernel
theorem dL_law_898 : decode cL_law 898 = .ok (.iload 4, 2) := by decide +kernel
theorem dL_law_900 : decode cL_law 900 = .ok (.iconst 2, 1) := by decide +kernel
theorem dL_law_901 : decode cL_law 901 = .ok (.iadd, 1) := by decide +kernel
theorem dL_law_902 : decode cL_law 902 = .ok (.iaload, 1) := by decide +kernel
theorem dL_law_903 : decode cL_law 903 = .ok (.invokevirtual 96, 3) := by decide +kernel
theorem dL_law_906 : decode cL_law 906 = .ok (.if_icmp .eq 838, 3) := by decide +kernel
theorem dL_law_909 : decode cL_law 909 = .ok (.iconst 0, 1) := by decide +kernel
theorem dL_law_910 : decode cL_law 910 = .ok (.ireturn, 1) := by decide +kernel
theorem dL_law_911 : decode cL_law 911 = .ok (.aload_n 1, 1) := by decide +kernel
theorem dL_law_912 : decode cL_law 912 = .ok (.invokevirtual 97, 3) := by decide +kernel
theorem dL_law_915 : decode cL_law 915 = .ok (.aload_n 2, 1) := by decide +kernel
theorem dL_law_916 : decode cL_law 916 = .ok (.invokevirtual 100, 3) := by decide +kernel
theorem dL_law_919 : decode cL_law 919 = .ok (.if_icmp .eq 825, 3) := by decide +kernel
theorem dL_law_922 : decode cL_law 922 = .ok (.iconst 0, 1) := by decide +kernel
theorem dL_law_923 : decode cL_law 923 = .ok (.ireturn, 1) := by decide +kernel
theorem dL_law_924 : decode cL_law 924 = .ok (.aload_n 1, 1) := by decide +kernel
theorem dL_law_925 : decode cL_law 925 = .ok (.aload_n 0, 1) := by decide +kernel
theorem dL_law_926 : decode cL_law 926 = .ok (.iload 4, 2) := by decide +kernel
theorem dL_law_928 : decode cL_law 928 = .ok (.iconst 1, 1) := by decide +kernel
theorem dL_law_929 : decode cL_law 929 = .ok (.iadd, 1) := by decide +kernel
theorem dL_law_930 : decode cL_law 930 = .ok (.iaload, 1) := by decide +kernel
theorem dL_law_931 : decode cL_law 931 = .ok (.aload_n 0, 1) := by decide +kernel
theorem dL_law_932 : decode cL_law 932 = .ok (.iload 4, 2) := by decide +kernel
theorem dL_law_934 : decode cL_law 934 = .ok (.iconst 2, 1) := by decide +kernel
theorem dL_law_935 : decode cL_law 935 = .ok (.iadd, 1) := by decide +kernel
theorem dL_law_936 : decode cL_law 936 = .ok (.iaload, 1) := by decide +kernel
theorem dL_law_937 : decode cL_law 937 = .ok (.invokevirtual 101, 3) := by decide +kernel
theorem dL_law_940 : decode cL_law 940 = .ok (.aload_n 2, 1) := by decide +kernel
theorem dL_law_941 : decode cL_law 941 = .ok (.aload_n 0, 1) := by decide +kernel
theorem dL_law_942 : decode cL_law 942 = .ok (.iload 4, 2) := by decide +kernel
theorem dL_law_944 : decode cL_law 944 = .ok (.iconst 1, 1) := by decide +kernel
theorem dL_law_945 : decode cL_law 945 = .ok (.iadd, 1) := by decide +kernel
theorem dL_law_946 : decode cL_law 946 = .ok (.iaload, 1) := by decide +kernel
theorem dL_law_947 : decode cL_law 947 = .ok (.aload_n 0, 1) := by decide +kernel
theorem dL_law_948 : decode cL_law 948 = .ok (.iload 4, 2) := by decide +kernel
theorem dL_law_950 : decode cL_law 950 = .ok (.iconst 2, 1) := by decide +kernel
theorem dL_law_951 : decode cL_law 951 = .ok (.iadd, 1) := by decide +kernel
theorem dL_law_952 : decode cL_law 952 = .ok (.iaload, 1) := by decide +kernel
theorem dL_law_953 : decode cL_law 953 = .ok (.invokevirtual 104, 3) := by decide +kernel
theorem dL_law_956 : decode cL_law 956 = .ok (.if_icmp .eq 788, 3) := by decide +kernel
theorem dL_law_959 : decode cL_law 959 = .ok (.iconst 0, 1) := by decide +kernel
theorem dL_law_960 : decode cL_law 960 = .ok (.ireturn, 1) := by decide +kernel
theorem dL_law_961 : decode cL_law 961 = .ok (.aload_n 1, 1) := by decide +kernel
theorem dL_law_962 : decode cL_law 962 = .ok (.aload_n 0, 1) := by decide +kernel
theorem dL_law_963 : decode cL_law 963 = .ok (.iload 4, 2) := by decide +kernel
theorem dL_law_965 : decode cL_law 965 = .ok (.iconst 1, 1) := by decide +kernel
theorem dL_law_966 : decode cL_law 966 = .ok (.iadd, 1) := by decide +kernel
theorem dL_law_967 : decode cL_law 967 = .ok (.iaload, 1) := by decide +kernel
theorem dL_law_968 : decode cL_law 968 = .ok (.aload_n 0, 1) := by decide +kernel
theorem dL_law_969 : decode cL_law 969 = .ok (.iload 4, 2) := by decide +kernel
theorem dL_law_971 : decode cL_law 971 = .ok (.iconst 2, 1) := by decide +kernel
theorem dL_law_972 : decode cL_law 972 = .ok (.iadd, 1) := by decide +kernel
theorem dL_law_973 : decode cL_law 973 = .ok (.iaload, 1) := by decide +kernel
theorem dL_law_974 : decode cL_law 974 = .ok (.aload_n 0, 1) := by decide +kernel
theorem dL_law_975 : decode cL_law 975 = .ok (.iload 4, 2) := by decide +kernel
theorem dL_law_977 : decode cL_law 977 = .ok (.iconst 3, 1) := by decide +kernel
theorem dL_law_978 : decode cL_law 978 = .ok (.iadd, 1) := by decide +kernel
theorem dL_law_979 : decode cL_law 979 = .ok (.iaload, 1) := by decide +kernel
theorem dL_law_980 : decode cL_law 980 = .ok (.invokevirtual 105, 3) := by decide +kernel
theorem dL_law_983 : decode cL_law 983 = .ok (.aload_n 2, 1) := by decide +kernel
theorem dL_law_984 : decode cL_law 984 = .ok (.aload_n 0, 1) := by decide +kernel
theorem dL_law_985 : decode cL_law 985 = .ok (.iload 4, 2) := by decide +kernel
theorem dL_law_987 : decode cL_law 987 = .ok (.iconst 1, 1) := by decide +kernel
theorem dL_law_988 : decode cL_law 988 = .ok (.iadd, 1) := by decide +kernel
theorem dL_law_989 : decode cL_law 989 = .ok (.iaload, 1) := by decide +kernel
theorem dL_law_990 : decode cL_law 990 = .ok (.aload_n 0, 1) := by decide +kernel
theorem dL_law_991 : decode cL_law 991 = .ok (.iload 4, 2) := by decide +kernel
theorem dL_law_993 : decode cL_law 993 = .ok (.iconst 2, 1) := by decide +kernel
theorem dL_law_994 : decode cL_law 994 = .ok (.iadd, 1) := by decide +kernel
theorem dL_law_995 : decode cL_law 995 = .ok (.iaload, 1) := by decide +kernel
theorem dL_law_996 : decode cL_law 996 = .ok (.aload_n 0, 1) := by decide +kernel
theorem dL_law_997 : decode cL_law 997 = .ok (.iload 4, 2) := by decide +kernel
theorem dL_law_999 : decode cL_law 999 = .ok (.iconst 3, 1) := by decide +kernel
theorem dL_law_1000 : decode cL_law 1000 = .ok (.iadd, 1) := by decide +kernel
theorem dL_law_1001 : decode cL_law 1001 = .ok (.iaload, 1) := by decide +kernel
theorem dL_law_1002 : decode cL_law 1002 = .ok (.invokevirtual 108, 3) := by decide +kernel
theorem dL_law_1005 : decode cL_law 1005 = .ok (.if_icmp .eq 739, 3) := by decide +kernel
theorem dL_law_1008 : decode cL_law 1008 = .ok (.iconst 0, 1) := by decide +kernel
theorem dL_law_1009 : decode cL_law 1009 = .ok (.ireturn, 1) := by decide +kernel
theorem dL_law_1010 : decode cL_law 1010 = .ok (.aload_n 1, 1) := by decide +kernel
theorem dL_law_1011 : decode cL_law 1011 = .ok (.aload_n 0, 1) := by decide +kernel
theorem dL_law_1012 : decode cL_law 1012 = .ok (.iload 4, 2) := by decide +kernel
theorem dL_law_1014 : decode cL_law 1014 = .ok (.iconst 1, 1) := by decide +kernel
theorem dL_law_1015 : decode cL_law 1015 = .ok (.iadd, 1) := by decide +kernel
theorem dL_law_1016 : decode cL_law 1016 = .ok (.iaload, 1) := by decide +kernel
theorem dL_law_1017 : decode cL_law 1017 = .ok (.aload_n 0, 1) := by decide +kernel
theorem dL_law_1018 : decode cL_law 1018 = .ok (.iload 4, 2) := by decide +kernel
theorem dL_law_1020 : decode cL_law 1020 = .ok (.iconst 2, 1) := by decide +kernel
theorem dL_law_1021 : decode cL_law 1021 = .ok (.iadd, 1) := by decide +kernel
theorem dL_law_1022 : decode cL_law 1022 = .ok (.iaload, 1) := by decide +kernel
theorem dL_law_1023 : decode cL_law 1023 = .ok (.aload_n 0, 1) := by decide +kernel
theorem dL_law_1024 : decode cL_law 1024 = .ok (.iload 4, 2) := by decide +kernel
theorem dL_law_1026 : decode cL_law 1026 = .ok (.iconst 3, 1) := by decide +kernel
theorem dL_law_1027 : decode cL_law 1027 = .ok (.iadd, 1) := by decide +kernel
theorem dL_law_1028 : decode cL_law 1028 = .ok (.iaload, 1) := by decide +kernel
theorem dL_law_1029 : decode cL_law 1029 = .ok (.invokevirtual 109, 3) := by decide +kernel
theorem dL_law_1032 : decode cL_law 1032 = .ok (.aload_n 2, 1) := by decide +kernel
theorem dL_law_1033 : decode cL_law 1033 = .ok (.aload_n 0, 1) := by decide +kernel
theorem dL_law_1034 : decode cL_law 1034 = .ok (.iload 4, 2) := by decide +kernel
theorem dL_law_1036 : decode cL_law 1036 = .ok (.iconst 1, 1) := by decide +kernel
theorem dL_law_1037 : decode cL_law 1037 = .ok (.iadd, 1) := by decide +kernel
theorem dL_law_1038 : decode cL_law 1038 = .ok (.iaload, 1) := by decide +kernel
theorem dL_law_1039 : decode cL_law 1039 = .ok (.aload_n 0, 1) := by decide +kernel
theorem dL_law_1040 : decode cL_law 1040 = .ok (.iload 4, 2) := by decide +kernel
theorem dL_law_1042 : decode cL_law 1042 = .ok (.iconst 2, 1) := by decide +kernel
theorem dL_law_1043 : decode cL_law 1043 = .ok (.iadd, 1) := by decide +kernel
theorem dL_law_1044 : decode cL_law 1044 = .ok (.iaload, 1) := by decide +kernel
theorem dL_law_1045 : decode cL_law 1045 = .ok (.aload_n 0, 1) := by decide +kernel
theorem dL_law_1046 : decode cL_law 1046 = .ok (.iload 4, 2) := by decide +kernel
theorem dL_law_1048 : decode cL_law 1048 = .ok (.iconst 3, 1) := by decide +kernel
theorem dL_law_1049 : decode cL_law 1049 = .ok (.iadd, 1) := by decide +kernel
theorem dL_law_1050 : decode cL_law 1050 = .ok (.iaload, 1) := by decide +kernel
theorem dL_law_1051 : decode cL_law 1051 = .ok (.invokevirtual 112, 3) := by decide +kernel
theorem dL_law_1054 : decode cL_law 1054 = .ok (.if_icmp .eq 690, 3) := by decide +kernel
theorem dL_law_1057 : decode cL_law 1057 = .ok (.iconst 0, 1) := by decide +kernel
theorem dL_law_1058 : decode cL_law 1058 = .ok (.ireturn, 1) := by decide +kernel
theorem dL_law_1059 : decode cL_law 1059 = .ok (.aload_n 1, 1) := by decide +kernel
theorem dL_law_1060 : decode cL_law 1060 = .ok (.aload_n 0, 1) := by decide +kernel
theorem dL_law_1061 : decode cL_law 1061 = .ok (.iload 4, 2) := by decide +kernel
theorem dL_law_1063 : decode cL_law 1063 = .ok (.iconst 1, 1) := by decide +kernel
theorem dL_law_1064 : decode cL_law 1064 = .ok (.iadd, 1) := by decide +kernel
theorem dL_law_1065 : decode cL_law 1065 = .ok (.iaload, 1) := by decide +kernel
theorem dL_law_1066 : decode cL_law 1066 = .ok (.invokevirtual 113, 3) := by decide +kernel
theorem dL_law_1069 : decode cL_law 1069 = .ok (.aload_n 2, 1) := by decide +kernel
theorem dL_law_1070 : decode cL_law 1070 = .ok (.aload_n 0, 1) := by decide +kernel
theorem dL_law_1071 : decode cL_law 1071 = .ok (.iload 4, 2) := by decide +kernel
theorem dL_law_1073 : decode cL_law 1073 = .ok (.iconst 1, 1) := by decide +kernel
theorem dL_law_1074 : decode cL_law 1074 = .ok (.iadd, 1) := by decide +kernel
theorem dL_law_1075 : decode cL_law 1075 = .ok (.iaload, 1) := by decide +kernel
theorem dL_law_1076 : decode cL_law 1076 = .ok (.invokevirtual 116, 3) := by decide +kernel
theorem dL_law_1079 : decode cL_law 1079 = .ok (.if_icmp .eq 665, 3) := by decide +kernel
theorem dL_law_1082 : decode cL_law 1082 = .ok (.iconst 0, 1) := by decide +kernel
theorem dL_law_1083 : decode cL_law 1083 = .ok (.ireturn, 1) := by decide +kernel
theorem dL_law_1084 : decode cL_law 1084 = .ok (.aload_n 1, 1) := by decide +kernel
theorem dL_law_1085 : decode cL_law 1085 = .ok (.aload_n 0, 1) := by decide +kernel
theorem dL_law_1086 : decode cL_law 1086 = .ok (.iload 4, 2) := by decide +kernel
theorem dL_law_1088 : decode cL_law 1088 = .ok (.iconst 1, 1) := by decide +kernel
theorem dL_law_1089 : decode cL_law 1089 = .ok (.iadd, 1) := by decide +kernel
theorem dL_law_1090 : decode cL_law 1090 = .ok (.iaload, 1) := by decide +kernel
theorem dL_law_1091 : decode cL_law 1091 = .ok (.invokevirtual 117, 3) := by decide +kernel
theorem dL_law_1094 : decode cL_law 1094 = .ok (.aload_n 2, 1) := by decide +kernel
theorem dL_law_1095 : decode cL_law 1095 = .ok (.aload_n 0, 1) := by decide +kernel
theorem dL_law_1096 : decode cL_law 1096 = .ok (.iload 4, 2) := by decide +kernel
theorem dL_law_1098 : decode cL_law 1098 = .ok (.iconst 1, 1) := by decide +kernel
theorem dL_law_1099 : decode cL_law 1099 = .ok (.iadd, 1) := by decide +kernel
theorem dL_law_1100 : decode cL_law 1100 = .ok (.iaload, 1) := by decide +kernel
theorem dL_law_1101 : decode cL_law 1101 = .ok (.invokevirtual 120, 3) := by decide +kernel
theorem dL_law_1104 : decode cL_law 1104 = .ok (.if_icmp .eq 640, 3) := by decide +kernel
theorem dL_law_1107 : decode cL_law 1107 = .ok (.iconst 0, 1) := by decide +kernel
theorem dL_law_1108 : decode cL_law 1108 = .ok (.ireturn, 1) := by decide +kernel
theorem dL_law_1109 : decode cL_law 1109 = .ok (.aload_n 1, 1) := by decide +kernel
theorem dL_law_1110 : decode cL_law 1110 = .ok (.aload_n 0, 1) := by decide +kernel
theorem dL_law_1111 : decode cL_law 1111 = .ok (.iload 4, 2) := by decide +kernel
theorem dL_law_1113 : decode cL_law 1113 = .ok (.iconst 1, 1) := by decide +kernel
theorem dL_law_1114 : decode cL_law 1114 = .ok (.iadd, 1) := by decide +kernel
theorem dL_law_1115 : decode cL_law 1115 = .ok (.iaload, 1) := by decide +kernel
theorem dL_law_1116 : decode cL_law 1116 = .ok (.invokevirtual 121, 3) := by decide +kernel
theorem dL_law_1119 : decode cL_law 1119 = .ok (.aload_n 2, 1) := by decide +kernel
theorem dL_law_1120 : decode cL_law 1120 = .ok (.aload_n 0, 1) := by decide +kernel
theorem dL_law_1121 : decode cL_law 1121 = .ok (.iload 4, 2) := by decide +kernel
theorem dL_law_1123 : decode cL_law 1123 = .ok (.iconst 1, 1) := by decide +kernel
theorem dL_law_1124 : decode cL_law 1124 = .ok (.iadd, 1) := by decide +kernel
theorem dL_law_1125 : decode cL_law 1125 = .ok (.iaload, 1) := by decide +kernel
theorem dL_law_1126 : decode cL_law 1126 = .ok (.invokevirtual 124, 3) := by decide +kernel
theorem dL_law_1129 : decode cL_law 1129 = .ok (.if_icmp .eq 615, 3) := by decide +kernel
theorem dL_law_1132 : decode cL_law 1132 = .ok (.iconst 0, 1) := by decide +kernel
theorem dL_law_1133 : decode cL_law 1133 = .ok (.ireturn, 1) := by decide +kernel
theorem dL_law_1134 : decode cL_law 1134 = .ok (.aload_n 1, 1) := by decide +kernel
theorem dL_law_1135 : decode cL_law 1135 = .ok (.aload_n 0, 1) := by decide +kernel
theorem dL_law_1136 : decode cL_law 1136 = .ok (.iload 4, 2) := by decide +kernel
theorem dL_law_1138 : decode cL_law 1138 = .ok (.iconst 1, 1) := by decide +kernel
theorem dL_law_1139 : decode cL_law 1139 = .ok (.iadd, 1) := by decide +kernel
theorem dL_law_1140 : decode cL_law 1140 = .ok (.iaload, 1) := by decide +kernel
theorem dL_law_1141 : decode cL_law 1141 = .ok (.aload_n 0, 1) := by decide +kernel
theorem dL_law_1142 : decode cL_law 1142 = .ok (.iload 4, 2) := by decide +kernel
theorem dL_law_1144 : decode cL_law 1144 = .ok (.iconst 2, 1) := by decide +kernel
theorem dL_law_1145 : decode cL_law 1145 = .ok (.iadd, 1) := by decide +kernel
theorem dL_law_1146 : decode cL_law 1146 = .ok (.iaload, 1) := by decide +kernel
theorem dL_law_1147 : decode cL_law 1147 = .ok (.invokevirtual 125, 3) := by decide +kernel
theorem dL_law_1150 : decode cL_law 1150 = .ok (.aload_n 2, 1) := by decide +kernel
theorem dL_law_1151 : decode cL_law 1151 = .ok (.aload_n 0, 1) := by decide +kernel
theorem dL_law_1152 : decode cL_law 1152 = .ok (.iload 4, 2) := by decide +kernel
theorem dL_law_1154 : decode cL_law 1154 = .ok (.iconst 1, 1) := by decide +kernel
theorem dL_law_1155 : decode cL_law 1155 = .ok (.iadd, 1) := by decide +kernel
theorem dL_law_1156 : decode cL_law 1156 = .ok (.iaload, 1) := by decide +kernel
theorem dL_law_1157 : decode cL_law 1157 = .ok (.aload_n 0, 1) := by decide +kernel
theorem dL_law_1158 : decode cL_law 1158 = .ok (.iload 4, 2) := by decide +kernel
theorem dL_law_1160 : decode cL_law 1160 = .ok (.iconst 2, 1) := by decide +kernel
theorem dL_law_1161 : decode cL_law 1161 = .ok (.iadd, 1) := by decide +kernel
theorem dL_law_1162 : decode cL_law 1162 = .ok (.iaload, 1) := by decide +kernel
theorem dL_law_1163 : decode cL_law 1163 = .ok (.invokevirtual 128, 3) := by decide +kernel
theorem dL_law_1166 : decode cL_law 1166 = .ok (.if_icmp .eq 578, 3) := by decide +kernel
theorem dL_law_1169 : decode cL_law 1169 = .ok (.iconst 0, 1) := by decide +kernel
theorem dL_law_1170 : decode cL_law 1170 = .ok (.ireturn, 1) := by decide +kernel
theorem dL_law_1171 : decode cL_law 1171 = .ok (.aload_n 1, 1) := by decide +kernel
theorem dL_law_1172 : decode cL_law 1172 = .ok (.aload_n 0, 1) := by decide +kernel
theorem dL_law_1173 : decode cL_law 1173 = .ok (.iload 4, 2) := by decide +kernel
theorem dL_law_1175 : decode cL_law 1175 = .ok (.iconst 1, 1) := by decide +kernel
theorem dL_law_1176 : decode cL_law 1176 = .ok (.iadd, 1) := by decide +kernel
theorem dL_law_1177 : decode cL_law 1177 = .ok (.iaload, 1) := by decide +kernel
theorem dL_law_1178 : decode cL_law 1178 = .ok (.aload_n 3, 1) := by decide +kernel
theorem dL_law_1179 : decode cL_law 1179 = .ok (.invokestatic 129, 3) := by decide +kernel
theorem dL_law_1182 : decode cL_law 1182 = .ok (.istore 5, 2) := by decide +kernel
theorem dL_law_1184 : decode cL_law 1184 = .ok (.aload_n 2, 1) := by decide +kernel
theorem dL_law_1185 : decode cL_law 1185 = .ok (.aload_n 0, 1) := by decide +kernel
theorem dL_law_1186 : decode cL_law 1186 = .ok (.iload 4, 2) := by decide +kernel
theorem dL_law_1188 : decode cL_law 1188 = .ok (.iconst 1, 1) := by decide +kernel
theorem dL_law_1189 : decode cL_law 1189 = .ok (.iadd, 1) := by decide +kernel
theorem dL_law_1190 : decode cL_law 1190 = .ok (.iaload, 1) := by decide +kernel
theorem dL_law_1191 : decode cL_law 1191 = .ok (.invokevirtual 132, 3) := by decide +kernel
theorem dL_law_1194 : decode cL_law 1194 = .ok (.istore 6, 2) := by decide +kernel
theorem dL_law_1196 : decode cL_law 1196 = .ok (.aload_n 2, 1) := by decide +kernel
theorem dL_law_1197 : decode cL_law 1197 = .ok (.invokevirtual 73, 3) := by decide +kernel
theorem dL_law_1200 : decode cL_law 1200 = .ok (.iload 5, 2) := by decide +kernel
theorem dL_law_1202 : decode cL_law 1202 = .ok (.if_icmp .eq 5, 3) := by decide +kernel
theorem dL_law_1205 : decode cL_law 1205 = .ok (.iconst 0, 1) := by decide +kernel
theorem dL_law_1206 : decode cL_law 1206 = .ok (.ireturn, 1) := by decide +kernel
theorem dL_law_1207 : decode cL_law 1207 = .ok (.iload 5, 2) := by decide +kernel
theorem dL_law_1209 : decode cL_law 1209 = .ok (.ifCond .ne 15, 3) := by decide +kernel
theorem dL_law_1212 : decode cL_law 1212 = .ok (.aload_n 3, 1) := by decide +kernel
theorem dL_law_1213 : decode cL_law 1213 = .ok (.iconst 0, 1) := by decide +kernel
theorem dL_law_1214 : decode cL_law 1214 = .ok (.laload, 1) := by decide +kernel
theorem dL_law_1215 : decode cL_law 1215 = .ok (.iload 6, 2) := by decide +kernel
theorem dL_law_1217 : decode cL_law 1217 = .ok (.i2l, 1) := by decide +kernel
theorem dL_law_1218 : decode cL_law 1218 = .ok (.lcmp, 1) := by decide +kernel
theorem dL_law_1219 : decode cL_law 1219 = .ok (.ifCond .eq 5, 3) := by decide +kernel
theorem dL_law_1222 : decode cL_law 1222 = .ok (.iconst 0, 1) := by decide +kernel
theorem dL_law_1223 : decode cL_law 1223 = .ok (.ireturn, 1) := by decide +kernel
theorem dL_law_1224 : decode cL_law 1224 = .ok (.goto 520, 3) := by decide +kernel
theorem dL_law_1227 : decode cL_law 1227 = .ok (.aload_n 1, 1) := by decide +kernel
theorem dL_law_1228 : decode cL_law 1228 = .ok (.invokevirtual 133, 3) := by decide +kernel
theorem dL_law_1231 : decode cL_law 1231 = .ok (.aload_n 2, 1) := by decide +kernel
theorem dL_law_1232 : decode cL_law 1232 = .ok (.invokevirtual 136, 3) := by decide +kernel
theorem dL_law_1235 : decode cL_law 1235 = .ok (.if_icmp .eq 509, 3) := by decide +kernel
theorem dL_law_1238 : decode cL_law 1238 = .ok (.iconst 0, 1) := by decide +kernel
theorem dL_law_1239 : decode cL_law 1239 = .ok (.ireturn, 1) := by decide +kernel
theorem dL_law_1240 : decode cL_law 1240 = .ok (.aload_n 1, 1) := by decide +kernel
theorem dL_law_1241 : decode cL_law 1241 = .ok (.aload_n 0, 1) := by decide +kernel
theorem dL_law_1242 : decode cL_law 1242 = .ok (.iload 4, 2) := by decide +kernel
theorem dL_law_1244 : decode cL_law 1244 = .ok (.iconst 1, 1) := by decide +kernel
theorem dL_law_1245 : decode cL_law 1245 = .ok (.iadd, 1) := by decide +kernel
theorem dL_law_1246 : decode cL_law 1246 = .ok (.iaload, 1) := by decide +kernel
theorem dL_law_1247 : decode cL_law 1247 = .ok (.aload_n 0, 1) := by decide +kernel
theorem dL_law_1248 : decode cL_law 1248 = .ok (.iload 4, 2) := by decide +kernel
theorem dL_law_1250 : decode cL_law 1250 = .ok (.iconst 2, 1) := by decide +kernel
theorem dL_law_1251 : decode cL_law 1251 = .ok (.iadd, 1) := by decide +kernel
theorem dL_law_1252 : decode cL_law 1252 = .ok (.iaload, 1) := by decide +kernel
theorem dL_law_1253 : decode cL_law 1253 = .ok (.aload_n 0, 1) := by decide +kernel
theorem dL_law_1254 : decode cL_law 1254 = .ok (.iload 4, 2) := by decide +kernel
theorem dL_law_1256 : decode cL_law 1256 = .ok (.iconst 3, 1) := by decide +kernel
theorem dL_law_1257 : decode cL_law 1257 = .ok (.iadd, 1) := by decide +kernel
theorem dL_law_1258 : decode cL_law 1258 = .ok (.iaload, 1) := by decide +kernel
theorem dL_law_1259 : decode cL_law 1259 = .ok (.invokevirtual 137, 3) := by decide +kernel
theorem dL_law_1262 : decode cL_law 1262 = .ok (.aload_n 2, 1) := by decide +kernel
theorem dL_law_1263 : decode cL_law 1263 = .ok (.aload_n 0, 1) := by decide +kernel
theorem dL_law_1264 : decode cL_law 1264 = .ok (.iload 4, 2) := by decide +kernel
theorem dL_law_1266 : decode cL_law 1266 = .ok (.iconst 1, 1) := by decide +kernel
theorem dL_law_1267 : decode cL_law 1267 = .ok (.iadd, 1) := by decide +kernel
theorem dL_law_1268 : decode cL_law 1268 = .ok (.iaload, 1) := by decide +kernel
theorem dL_law_1269 : decode cL_law 1269 = .ok (.aload_n 0, 1) := by decide +kernel
theorem dL_law_1270 : decode cL_law 1270 = .ok (.iload 4, 2) := by decide +kernel
theorem dL_law_1272 : decode cL_law 1272 = .ok (.iconst 2, 1) := by decide +kernel
theorem dL_law_1273 : decode cL_law 1273 = .ok (.iadd, 1) := by decide +kernel
theorem dL_law_1274 : decode cL_law 1274 = .ok (.iaload, 1) := by decide +kernel
theorem dL_law_1275 : decode cL_law 1275 = .ok (.aload_n 0, 1) := by decide +kernel
theorem dL_law_1276 : decode cL_law 1276 = .ok (.iload 4, 2) := by decide +kernel
theorem dL_law_1278 : decode cL_law 1278 = .ok (.iconst 3, 1) := by decide +kernel
theorem dL_law_1279 : decode cL_law 1279 = .ok (.iadd, 1) := by decide +kernel
theorem dL_law_1280 : decode cL_law 1280 = .ok (.iaload, 1) := by decide +kernel
theorem dL_law_1281 : decode cL_law 1281 = .ok (.invokevirtual 140, 3) := by decide +kernel
theorem dL_law_1284 : decode cL_law 1284 = .ok (.if_icmp .eq 460, 3) := by decide +kernel
theorem dL_law_1287 : decode cL_law 1287 = .ok (.iconst 0, 1) := by decide +kernel
theorem dL_law_1288 : decode cL_law 1288 = .ok (.ireturn, 1) := by decide +kernel
theorem dL_law_1289 : decode cL_law 1289 = .ok (.aload_n 1, 1) := by decide +kernel
theorem dL_law_1290 : decode cL_law 1290 = .ok (.aload_n 0, 1) := by decide +kernel
theorem dL_law_1291 : decode cL_law 1291 = .ok (.iload 4, 2) := by decide +kernel
theorem dL_law_1293 : decode cL_law 1293 = .ok (.iconst 1, 1) := by decide +kernel
theorem dL_law_1294 : decode cL_law 1294 = .ok (.iadd, 1) := by decide +kernel
theorem dL_law_1295 : decode cL_law 1295 = .ok (.iaload, 1) := by decide +kernel
theorem dL_law_1296 : decode cL_law 1296 = .ok (.aload_n 0, 1) := by decide +kernel
theorem dL_law_1297 : decode cL_law 1297 = .ok (.iload 4, 2) := by decide +kernel
theorem dL_law_1299 : decode cL_law 1299 = .ok (.iconst 2, 1) := by decide +kernel
theorem dL_law_1300 : decode cL_law 1300 = .ok (.iadd, 1) := by decide +kernel
theorem dL_law_1301 : decode cL_law 1301 = .ok (.iaload, 1) := by decide +kernel
theorem dL_law_1302 : decode cL_law 1302 = .ok (.invokevirtual 141, 3) := by decide +kernel
theorem dL_law_1305 : decode cL_law 1305 = .ok (.aload_n 2, 1) := by decide +kernel
theorem dL_law_1306 : decode cL_law 1306 = .ok (.aload_n 0, 1) := by decide +kernel
theorem dL_law_1307 : decode cL_law 1307 = .ok (.iload 4, 2) := by decide +kernel
theorem dL_law_1309 : decode cL_law 1309 = .ok (.iconst 1, 1) := by decide +kernel
theorem dL_law_1310 : decode cL_law 1310 = .ok (.iadd, 1) := by decide +kernel
theorem dL_law_1311 : decode cL_law 1311 = .ok (.iaload, 1) := by decide +kernel
theorem dL_law_1312 : decode cL_law 1312 = .ok (.aload_n 0, 1) := by decide +kernel
theorem dL_law_1313 : decode cL_law 1313 = .ok (.iload 4, 2) := by decide +kernel
theorem dL_law_1315 : decode cL_law 1315 = .ok (.iconst 2, 1) := by decide +kernel
theorem dL_law_1316 : decode cL_law 1316 = .ok (.iadd, 1) := by decide +kernel
theorem dL_law_1317 : decode cL_law 1317 = .ok (.iaload, 1) := by decide +kernel
theorem dL_law_1318 : decode cL_law 1318 = .ok (.invokevirtual 144, 3) := by decide +kernel
theorem dL_law_1321 : decode cL_law 1321 = .ok (.if_icmp .eq 423, 3) := by decide +kernel
theorem dL_law_1324 : decode cL_law 1324 = .ok (.iconst 0, 1) := by decide +kernel
theorem dL_law_1325 : decode cL_law 1325 = .ok (.ireturn, 1) := by decide +kernel
theorem dL_law_1326 : decode cL_law 1326 = .ok (.aload_n 1, 1) := by decide +kernel
theorem dL_law_1327 : decode cL_law 1327 = .ok (.aload_n 0, 1) := by decide +kernel
theorem dL_law_1328 : decode cL_law 1328 = .ok (.iload 4, 2) := by decide +kernel
theorem dL_law_1330 : decode cL_law 1330 = .ok (.iconst 1, 1) := by decide +kernel
theorem dL_law_1331 : decode cL_law 1331 = .ok (.iadd, 1) := by decide +kernel
theorem dL_law_1332 : decode cL_law 1332 = .ok (.iaload, 1) := by decide +kernel
theorem dL_law_1333 : decode cL_law 1333 = .ok (.aload_n 0, 1) := by decide +kernel
theorem dL_law_1334 : decode cL_law 1334 = .ok (.iload 4, 2) := by decide +kernel
theorem dL_law_1336 : decode cL_law 1336 = .ok (.iconst 2, 1) := by decide +kernel
theorem dL_law_1337 : decode cL_law 1337 = .ok (.iadd, 1) := by decide +kernel
theorem dL_law_1338 : decode cL_law 1338 = .ok (.iaload, 1) := by decide +kernel
theorem dL_law_1339 : decode cL_law 1339 = .ok (.invokevirtual 145, 3) := by decide +kernel
theorem dL_law_1342 : decode cL_law 1342 = .ok (.aload_n 2, 1) := by decide +kernel
theorem dL_law_1343 : decode cL_law 1343 = .ok (.aload_n 0, 1) := by decide +kernel
theorem dL_law_1344 : decode cL_law 1344 = .ok (.iload 4, 2) := by decide +kernel
theorem dL_law_1346 : decode cL_law 1346 = .ok (.iconst 1, 1) := by decide +kernel
theorem dL_law_1347 : decode cL_law 1347 = .ok (.iadd, 1) := by decide +kernel
theorem dL_law_1348 : decode cL_law 1348 = .ok (.iaload, 1) := by decide +kernel
theorem dL_law_1349 : decode cL_law 1349 = .ok (.aload_n 0, 1) := by decide +kernel
theorem dL_law_1350 : decode cL_law 1350 = .ok (.iload 4, 2) := by decide +kernel
theorem dL_law_1352 : decode cL_law 1352 = .ok (.iconst 2, 1) := by decide +kernel
theorem dL_law_1353 : decode cL_law 1353 = .ok (.iadd, 1) := by decide +kernel
theorem dL_law_1354 : decode cL_law 1354 = .ok (.iaload, 1) := by decide +kernel
theorem dL_law_1355 : decode cL_law 1355 = .ok (.invokevirtual 148, 3) := by decide +kernel
theorem dL_law_1358 : decode cL_law 1358 = .ok (.if_icmp .eq 386, 3) := by decide +kernel
theorem dL_law_1361 : decode cL_law 1361 = .ok (.iconst 0, 1) := by decide +kernel
theorem dL_law_1362 : decode cL_law 1362 = .ok (.ireturn, 1) := by decide +kernel
theorem dL_law_1363 : decode cL_law 1363 = .ok (.aload_n 1, 1) := by decide +kernel
theorem dL_law_1364 : decode cL_law 1364 = .ok (.invokevirtual 149, 3) := by decide +kernel
theorem dL_law_1367 : decode cL_law 1367 = .ok (.aload_n 2, 1) := by decide +kernel
theorem dL_law_1368 : decode cL_law 1368 = .ok (.invokevirtual 152, 3) := by decide +kernel
theorem dL_law_1371 : decode cL_law 1371 = .ok (.if_icmp .eq 373, 3) := by decide +kernel
theorem dL_law_1374 : decode cL_law 1374 = .ok (.iconst 0, 1) := by decide +kernel
theorem dL_law_1375 : decode cL_law 1375 = .ok (.ireturn, 1) := by decide +kernel
theorem dL_law_1376 : decode cL_law 1376 = .ok (.aload_n 1, 1) := by decide +kernel
theorem dL_law_1377 : decode cL_law 1377 = .ok (.aload_n 0, 1) := by decide +kernel
theorem dL_law_1378 : decode cL_law 1378 = .ok (.iload 4, 2) := by decide +kernel
theorem dL_law_1380 : decode cL_law 1380 = .ok (.iconst 1, 1) := by decide +kernel
theorem dL_law_1381 : decode cL_law 1381 = .ok (.iadd, 1) := by decide +kernel
theorem dL_law_1382 : decode cL_law 1382 = .ok (.iaload, 1) := by decide +kernel
theorem dL_law_1383 : decode cL_law 1383 = .ok (.invokevirtual 153, 3) := by decide +kernel
theorem dL_law_1386 : decode cL_law 1386 = .ok (.aload_n 2, 1) := by decide +kernel
theorem dL_law_1387 : decode cL_law 1387 = .ok (.aload_n 0, 1) := by decide +kernel
theorem dL_law_1388 : decode cL_law 1388 = .ok (.iload 4, 2) := by decide +kernel
theorem dL_law_1390 : decode cL_law 1390 = .ok (.iconst 1, 1) := by decide +kernel
theorem dL_law_1391 : decode cL_law 1391 = .ok (.iadd, 1) := by decide +kernel
theorem dL_law_1392 : decode cL_law 1392 = .ok (.iaload, 1) := by decide +kernel
theorem dL_law_1393 : decode cL_law 1393 = .ok (.invokevirtual 156, 3) := by decide +kernel
theorem dL_law_1396 : decode cL_law 1396 = .ok (.if_icmp .eq 348, 3) := by decide +kernel
theorem dL_law_1399 : decode cL_law 1399 = .ok (.iconst 0, 1) := by decide +kernel
theorem dL_law_1400 : decode cL_law 1400 = .ok (.ireturn, 1) := by decide +kernel
theorem dL_law_1401 : decode cL_law 1401 = .ok (.aload_n 1, 1) := by decide +kernel
theorem dL_law_1402 : decode cL_law 1402 = .ok (.aload_n 0, 1) := by decide +kernel
theorem dL_law_1403 : decode cL_law 1403 = .ok (.iload 4, 2) := by decide +kernel
theorem dL_law_1405 : decode cL_law 1405 = .ok (.iconst 1, 1) := by decide +kernel
theorem dL_law_1406 : decode cL_law 1406 = .ok (.iadd, 1) := by decide +kernel
theorem dL_law_1407 : decode cL_law 1407 = .ok (.iaload, 1) := by decide +kernel
theorem dL_law_1408 : decode cL_law 1408 = .ok (.invokevirtual 157, 3) := by decide +kernel
theorem dL_law_1411 : decode cL_law 1411 = .ok (.aload_n 2, 1) := by decide +kernel
theorem dL_law_1412 : decode cL_law 1412 = .ok (.aload_n 0, 1) := by decide +kernel
theorem dL_law_1413 : decode cL_law 1413 = .ok (.iload 4, 2) := by decide +kernel
theorem dL_law_1415 : decode cL_law 1415 = .ok (.iconst 1, 1) := by decide +kernel
theorem dL_law_1416 : decode cL_law 1416 = .ok (.iadd, 1) := by decide +kernel
theorem dL_law_1417 : decode cL_law 1417 = .ok (.iaload, 1) := by decide +kernel
theorem dL_law_1418 : decode cL_law 1418 = .ok (.invokevirtual 160, 3) := by decide +kernel
theorem dL_law_1421 : decode cL_law 1421 = .ok (.if_icmp .eq 323, 3) := by decide +kernel
theorem dL_law_1424 : decode cL_law 1424 = .ok (.iconst 0, 1) := by decide +kernel
theorem dL_law_1425 : decode cL_law 1425 = .ok (.ireturn, 1) := by decide +kernel
theorem dL_law_1426 : decode cL_law 1426 = .ok (.aload_n 1, 1) := by decide +kernel
theorem dL_law_1427 : decode cL_law 1427 = .ok (.aload_n 0, 1) := by decide +kernel
theorem dL_law_1428 : decode cL_law 1428 = .ok (.iload 4, 2) := by decide +kernel
theorem dL_law_1430 : decode cL_law 1430 = .ok (.iconst 1, 1) := by decide +kernel
theorem dL_law_1431 : decode cL_law 1431 = .ok (.iadd, 1) := by decide +kernel
theorem dL_law_1432 : decode cL_law 1432 = .ok (.iaload, 1) := by decide +kernel
theorem dL_law_1433 : decode cL_law 1433 = .ok (.invokevirtual 161, 3) := by decide +kernel
theorem dL_law_1436 : decode cL_law 1436 = .ok (.aload_n 2, 1) := by decide +kernel
theorem dL_law_1437 : decode cL_law 1437 = .ok (.aload_n 0, 1) := by decide +kernel
theorem dL_law_1438 : decode cL_law 1438 = .ok (.iload 4, 2) := by decide +kernel
theorem dL_law_1440 : decode cL_law 1440 = .ok (.iconst 1, 1) := by decide +kernel
theorem dL_law_1441 : decode cL_law 1441 = .ok (.iadd, 1) := by decide +kernel
theorem dL_law_1442 : decode cL_law 1442 = .ok (.iaload, 1) := by decide +kernel
theorem dL_law_1443 : decode cL_law 1443 = .ok (.invokevirtual 164, 3) := by decide +kernel
theorem dL_law_1446 : decode cL_law 1446 = .ok (.if_icmp .eq 298, 3) := by decide +kernel
theorem dL_law_1449 : decode cL_law 1449 = .ok (.iconst 0, 1) := by decide +kernel
theorem dL_law_1450 : decode cL_law 1450 = .ok (.ireturn, 1) := by decide +kernel
theorem dL_law_1451 : decode cL_law 1451 = .ok (.aload_n 1, 1) := by decide +kernel
theorem dL_law_1452 : decode cL_law 1452 = .ok (.aload_n 0, 1) := by decide +kernel
theorem dL_law_1453 : decode cL_law 1453 = .ok (.iload 4, 2) := by decide +kernel
theorem dL_law_1455 : decode cL_law 1455 = .ok (.iconst 1, 1) := by decide +kernel
theorem dL_law_1456 : decode cL_law 1456 = .ok (.iadd, 1) := by decide +kernel
theorem dL_law_1457 : decode cL_law 1457 = .ok (.iaload, 1) := by decide +kernel
theorem dL_law_1458 : decode cL_law 1458 = .ok (.invokevirtual 165, 3) := by decide +kernel
theorem dL_law_1461 : decode cL_law 1461 = .ok (.aload_n 2, 1) := by decide +kernel
theorem dL_law_1462 : decode cL_law 1462 = .ok (.aload_n 0, 1) := by decide +kernel
theorem dL_law_1463 : decode cL_law 1463 = .ok (.iload 4, 2) := by decide +kernel
theorem dL_law_1465 : decode cL_law 1465 = .ok (.iconst 1, 1) := by decide +kernel
theorem dL_law_1466 : decode cL_law 1466 = .ok (.iadd, 1) := by decide +kernel
theorem dL_law_1467 : decode cL_law 1467 = .ok (.iaload, 1) := by decide +kernel
theorem dL_law_1468 : decode cL_law 1468 = .ok (.invokevirtual 168, 3) := by decide +kernel
theorem dL_law_1471 : decode cL_law 1471 = .ok (.if_icmp .eq 273, 3) := by decide +kernel
theorem dL_law_1474 : decode cL_law 1474 = .ok (.iconst 0, 1) := by decide +kernel
theorem dL_law_1475 : decode cL_law 1475 = .ok (.ireturn, 1) := by decide +kernel
theorem dL_law_1476 : decode cL_law 1476 = .ok (.aload_n 1, 1) := by decide +kernel
theorem dL_law_1477 : decode cL_law 1477 = .ok (.aload_n 0, 1) := by decide +kernel
theorem dL_law_1478 : decode cL_law 1478 = .ok (.iload 4, 2) := by decide +kernel
theorem dL_law_1480 : decode cL_law 1480 = .ok (.iconst 1, 1) := by decide +kernel
theorem dL_law_1481 : decode cL_law 1481 = .ok (.iadd, 1) := by decide +kernel
theorem dL_law_1482 : decode cL_law 1482 = .ok (.iaload, 1) := by decide +kernel
theorem dL_law_1483 : decode cL_law 1483 = .ok (.invokevirtual 169, 3) := by decide +kernel
theorem dL_law_1486 : decode cL_law 1486 = .ok (.aload_n 2, 1) := by decide +kernel
theorem dL_law_1487 : decode cL_law 1487 = .ok (.aload_n 0, 1) := by decide +kernel
theorem dL_law_1488 : decode cL_law 1488 = .ok (.iload 4, 2) := by decide +kernel
theorem dL_law_1490 : decode cL_law 1490 = .ok (.iconst 1, 1) := by decide +kernel
theorem dL_law_1491 : decode cL_law 1491 = .ok (.iadd, 1) := by decide +kernel
theorem dL_law_1492 : decode cL_law 1492 = .ok (.iaload, 1) := by decide +kernel
theorem dL_law_1493 : decode cL_law 1493 = .ok (.invokevirtual 172, 3) := by decide +kernel
theorem dL_law_1496 : decode cL_law 1496 = .ok (.if_icmp .eq 248, 3) := by decide +kernel
theorem dL_law_1499 : decode cL_law 1499 = .ok (.iconst 0, 1) := by decide +kernel
theorem dL_law_1500 : decode cL_law 1500 = .ok (.ireturn, 1) := by decide +kernel
theorem dL_law_1501 : decode cL_law 1501 = .ok (.aload_n 1, 1) := by decide +kernel
theorem dL_law_1502 : decode cL_law 1502 = .ok (.aload_n 0, 1) := by decide +kernel
theorem dL_law_1503 : decode cL_law 1503 = .ok (.iload 4, 2) := by decide +kernel
theorem dL_law_1505 : decode cL_law 1505 = .ok (.iconst 1, 1) := by decide +kernel
theorem dL_law_1506 : decode cL_law 1506 = .ok (.iadd, 1) := by decide +kernel
theorem dL_law_1507 : decode cL_law 1507 = .ok (.iaload, 1) := by decide +kernel
theorem dL_law_1508 : decode cL_law 1508 = .ok (.invokevirtual 173, 3) := by decide +kernel
theorem dL_law_1511 : decode cL_law 1511 = .ok (.aload_n 2, 1) := by decide +kernel
theorem dL_law_1512 : decode cL_law 1512 = .ok (.aload_n 0, 1) := by decide +kernel
theorem dL_law_1513 : decode cL_law 1513 = .ok (.iload 4, 2) := by decide +kernel
theorem dL_law_1515 : decode cL_law 1515 = .ok (.iconst 1, 1) := by decide +kernel
theorem dL_law_1516 : decode cL_law 1516 = .ok (.iadd, 1) := by decide +kernel
theorem dL_law_1517 : decode cL_law 1517 = .ok (.iaload, 1) := by decide +kernel
theorem dL_law_1518 : decode cL_law 1518 = .ok (.invokevirtual 176, 3) := by decide +kernel
theorem dL_law_1521 : decode cL_law 1521 = .ok (.if_icmp .eq 223, 3) := by decide +kernel
theorem dL_law_1524 : decode cL_law 1524 = .ok (.iconst 0, 1) := by decide +kernel
theorem dL_law_1525 : decode cL_law 1525 = .ok (.ireturn, 1) := by decide +kernel
theorem dL_law_1526 : decode cL_law 1526 = .ok (.aload_n 1, 1) := by decide +kernel
theorem dL_law_1527 : decode cL_law 1527 = .ok (.aload_n 0, 1) := by decide +kernel
theorem dL_law_1528 : decode cL_law 1528 = .ok (.iload 4, 2) := by decide +kernel
theorem dL_law_1530 : decode cL_law 1530 = .ok (.iconst 1, 1) := by decide +kernel
theorem dL_law_1531 : decode cL_law 1531 = .ok (.iadd, 1) := by decide +kernel
theorem dL_law_1532 : decode cL_law 1532 = .ok (.iaload, 1) := by decide +kernel
theorem dL_law_1533 : decode cL_law 1533 = .ok (.aload_n 0, 1) := by decide +kernel
theorem dL_law_1534 : decode cL_law 1534 = .ok (.iload 4, 2) := by decide +kernel
theorem dL_law_1536 : decode cL_law 1536 = .ok (.iconst 2, 1) := by decide +kernel
theorem dL_law_1537 : decode cL_law 1537 = .ok (.iadd, 1) := by decide +kernel
theorem dL_law_1538 : decode cL_law 1538 = .ok (.iaload, 1) := by decide +kernel
theorem dL_law_1539 : decode cL_law 1539 = .ok (.aload_n 0, 1) := by decide +kernel
theorem dL_law_1540 : decode cL_law 1540 = .ok (.iload 4, 2) := by decide +kernel
theorem dL_law_1542 : decode cL_law 1542 = .ok (.iconst 3, 1) := by decide +kernel
theorem dL_law_1543 : decode cL_law 1543 = .ok (.iadd, 1) := by decide +kernel
theorem dL_law_1544 : decode cL_law 1544 = .ok (.iaload, 1) := by decide +kernel
theorem dL_law_1545 : decode cL_law 1545 = .ok (.ifCond .eq 7, 3) := by decide +kernel
theorem dL_law_1548 : decode cL_law 1548 = .ok (.iconst 1, 1) := by decide +kernel
theorem dL_law_1549 : decode cL_law 1549 = .ok (.goto 4, 3) := by decide +kernel
theorem dL_law_1552 : decode cL_law 1552 = .ok (.iconst 0, 1) := by decide +kernel
theorem dL_law_1553 : decode cL_law 1553 = .ok (.invokevirtual 177, 3) := by decide +kernel
theorem dL_law_1556 : decode cL_law 1556 = .ok (.aload_n 2, 1) := by decide +kernel
theorem dL_law_1557 : decode cL_law 1557 = .ok (.aload_n 0, 1) := by decide +kernel
theorem dL_law_1558 : decode cL_law 1558 = .ok (.iload 4, 2) := by decide +kernel
theorem dL_law_1560 : decode cL_law 1560 = .ok (.iconst 1, 1) := by decide +kernel
theorem dL_law_1561 : decode cL_law 1561 = .ok (.iadd, 1) := by decide +kernel
theorem dL_law_1562 : decode cL_law 1562 = .ok (.iaload, 1) := by decide +kernel
theorem dL_law_1563 : decode cL_law 1563 = .ok (.aload_n 0, 1) := by decide +kernel
theorem dL_law_1564 : decode cL_law 1564 = .ok (.iload 4, 2) := by decide +kernel
theorem dL_law_1566 : decode cL_law 1566 = .ok (.iconst 2, 1) := by decide +kernel
theorem dL_law_1567 : decode cL_law 1567 = .ok (.iadd, 1) := by decide +kernel
theorem dL_law_1568 : decode cL_law 1568 = .ok (.iaload, 1) := by decide +kernel
theorem dL_law_1569 : decode cL_law 1569 = .ok (.aload_n 0, 1) := by decide +kernel
theorem dL_law_1570 : decode cL_law 1570 = .ok (.iload 4, 2) := by decide +kernel
theorem dL_law_1572 : decode cL_law 1572 = .ok (.iconst 3, 1) := by decide +kernel
theorem dL_law_1573 : decode cL_law 1573 = .ok (.iadd, 1) := by decide +kernel
theorem dL_law_1574 : decode cL_law 1574 = .ok (.iaload, 1) := by decide +kernel
theorem dL_law_1575 : decode cL_law 1575 = .ok (.ifCond .eq 7, 3) := by decide +kernel
theorem dL_law_1578 : decode cL_law 1578 = .ok (.iconst 1, 1) := by decide +kernel
theorem dL_law_1579 : decode cL_law 1579 = .ok (.goto 4, 3) := by decide +kernel
theorem dL_law_1582 : decode cL_law 1582 = .ok (.iconst 0, 1) := by decide +kernel
theorem dL_law_1583 : decode cL_law 1583 = .ok (.invokevirtual 181, 3) := by decide +kernel
theorem dL_law_1586 : decode cL_law 1586 = .ok (.if_icmp .eq 158, 3) := by decide +kernel
theorem dL_law_1589 : decode cL_law 1589 = .ok (.iconst 0, 1) := by decide +kernel
theorem dL_law_1590 : decode cL_law 1590 = .ok (.ireturn, 1) := by decide +kernel
theorem dL_law_1591 : decode cL_law 1591 = .ok (.aload_n 1, 1) := by decide +kernel
theorem dL_law_1592 : decode cL_law 1592 = .ok (.invokevirtual 182, 3) := by decide +kernel
theorem dL_law_1595 : decode cL_law 1595 = .ok (.aload_n 2, 1) := by decide +kernel
theorem dL_law_1596 : decode cL_law 1596 = .ok (.invokevirtual 185, 3) := by decide +kernel
theorem dL_law_1599 : decode cL_law 1599 = .ok (.if_icmp .eq 145, 3) := by decide +kernel
theorem dL_law_1602 : decode cL_law 1602 = .ok (.iconst 0, 1) := by decide +kernel
theorem dL_law_1603 : decode cL_law 1603 = .ok (.ireturn, 1) := by decide +kernel
theorem dL_law_1604 : decode cL_law 1604 = .ok (.aload_n 1, 1) := by decide +kernel
theorem dL_law_1605 : decode cL_law 1605 = .ok (.invokevirtual 186, 3) := by decide +kernel
theorem dL_law_1608 : decode cL_law 1608 = .ok (.aload_n 2, 1) := by decide +kernel
theorem dL_law_1609 : decode cL_law 1609 = .ok (.invokevirtual 189, 3) := by decide +kernel
theorem dL_law_1612 : decode cL_law 1612 = .ok (.if_icmp .eq 132, 3) := by decide +kernel
theorem dL_law_1615 : decode cL_law 1615 = .ok (.iconst 0, 1) := by decide +kernel
theorem dL_law_1616 : decode cL_law 1616 = .ok (.ireturn, 1) := by decide +kernel
theorem dL_law_1617 : decode cL_law 1617 = .ok (.aload_n 1, 1) := by decide +kernel
theorem dL_law_1618 : decode cL_law 1618 = .ok (.aload_n 0, 1) := by decide +kernel
theorem dL_law_1619 : decode cL_law 1619 = .ok (.iload 4, 2) := by decide +kernel
theorem dL_law_1621 : decode cL_law 1621 = .ok (.iconst 1, 1) := by decide +kernel
theorem dL_law_1622 : decode cL_law 1622 = .ok (.iadd, 1) := by decide +kernel
theorem dL_law_1623 : decode cL_law 1623 = .ok (.iaload, 1) := by decide +kernel
theorem dL_law_1624 : decode cL_law 1624 = .ok (.aload_n 0, 1) := by decide +kernel
theorem dL_law_1625 : decode cL_law 1625 = .ok (.iload 4, 2) := by decide +kernel
theorem dL_law_1627 : decode cL_law 1627 = .ok (.iconst 2, 1) := by decide +kernel
theorem dL_law_1628 : decode cL_law 1628 = .ok (.iadd, 1) := by decide +kernel
theorem dL_law_1629 : decode cL_law 1629 = .ok (.iaload, 1) := by decide +kernel
theorem dL_law_1630 : decode cL_law 1630 = .ok (.aload_n 0, 1) := by decide +kernel
theorem dL_law_1631 : decode cL_law 1631 = .ok (.iload 4, 2) := by decide +kernel
theorem dL_law_1633 : decode cL_law 1633 = .ok (.iconst 3, 1) := by decide +kernel
theorem dL_law_1634 : decode cL_law 1634 = .ok (.iadd, 1) := by decide +kernel
theorem dL_law_1635 : decode cL_law 1635 = .ok (.iaload, 1) := by decide +kernel
theorem dL_law_1636 : decode cL_law 1636 = .ok (.invokevirtual 190, 3) := by decide +kernel
theorem dL_law_1639 : decode cL_law 1639 = .ok (.aload_n 2, 1) := by decide +kernel
theorem dL_law_1640 : decode cL_law 1640 = .ok (.aload_n 0, 1) := by decide +kernel
theorem dL_law_1641 : decode cL_law 1641 = .ok (.iload 4, 2) := by decide +kernel
theorem dL_law_1643 : decode cL_law 1643 = .ok (.iconst 1, 1) := by decide +kernel
theorem dL_law_1644 : decode cL_law 1644 = .ok (.iadd, 1) := by decide +kernel
theorem dL_law_1645 : decode cL_law 1645 = .ok (.iaload, 1) := by decide +kernel
theorem dL_law_1646 : decode cL_law 1646 = .ok (.aload_n 0, 1) := by decide +kernel
theorem dL_law_1647 : decode cL_law 1647 = .ok (.iload 4, 2) := by decide +kernel
theorem dL_law_1649 : decode cL_law 1649 = .ok (.iconst 2, 1) := by decide +kernel
theorem dL_law_1650 : decode cL_law 1650 = .ok (.iadd, 1) := by decide +kernel
theorem dL_law_1651 : decode cL_law 1651 = .ok (.iaload, 1) := by decide +kernel
theorem dL_law_1652 : decode cL_law 1652 = .ok (.aload_n 0, 1) := by decide +kernel
theorem dL_law_1653 : decode cL_law 1653 = .ok (.iload 4, 2) := by decide +kernel
theorem dL_law_1655 : decode cL_law 1655 = .ok (.iconst 3, 1) := by decide +kernel
theorem dL_law_1656 : decode cL_law 1656 = .ok (.iadd, 1) := by decide +kernel
theorem dL_law_1657 : decode cL_law 1657 = .ok (.iaload, 1) := by decide +kernel
theorem dL_law_1658 : decode cL_law 1658 = .ok (.invokevirtual 193, 3) := by decide +kernel
theorem dL_law_1661 : decode cL_law 1661 = .ok (.if_icmp .eq 83, 3) := by decide +kernel
theorem dL_law_1664 : decode cL_law 1664 = .ok (.iconst 0, 1) := by decide +kernel
theorem dL_law_1665 : decode cL_law 1665 = .ok (.ireturn, 1) := by decide +kernel
theorem dL_law_1666 : decode cL_law 1666 = .ok (.aload_n 1, 1) := by decide +kernel
theorem dL_law_1667 : decode cL_law 1667 = .ok (.aload_n 0, 1) := by decide +kernel
theorem dL_law_1668 : decode cL_law 1668 = .ok (.iload 4, 2) := by decide +kernel
theorem dL_law_1670 : decode cL_law 1670 = .ok (.iconst 1, 1) := by decide +kernel
theorem dL_law_1671 : decode cL_law 1671 = .ok (.iadd, 1) := by decide +kernel
theorem dL_law_1672 : decode cL_law 1672 = .ok (.iaload, 1) := by decide +kernel
theorem dL_law_1673 : decode cL_law 1673 = .ok (.aload_n 0, 1) := by decide +kernel
theorem dL_law_1674 : decode cL_law 1674 = .ok (.iload 4, 2) := by decide +kernel
theorem dL_law_1676 : decode cL_law 1676 = .ok (.iconst 2, 1) := by decide +kernel
theorem dL_law_1677 : decode cL_law 1677 = .ok (.iadd, 1) := by decide +kernel
theorem dL_law_1678 : decode cL_law 1678 = .ok (.iaload, 1) := by decide +kernel
theorem dL_law_1679 : decode cL_law 1679 = .ok (.ifCond .eq 7, 3) := by decide +kernel
theorem dL_law_1682 : decode cL_law 1682 = .ok (.iconst 1, 1) := by decide +kernel
theorem dL_law_1683 : decode cL_law 1683 = .ok (.goto 4, 3) := by decide +kernel
theorem dL_law_1686 : decode cL_law 1686 = .ok (.iconst 0, 1) := by decide +kernel
theorem dL_law_1687 : decode cL_law 1687 = .ok (.invokevirtual 194, 3) := by decide +kernel
theorem dL_law_1690 : decode cL_law 1690 = .ok (.aload_n 2, 1) := by decide +kernel
theorem dL_law_1691 : decode cL_law 1691 = .ok (.aload_n 0, 1) := by decide +kernel
theorem dL_law_1692 : decode cL_law 1692 = .ok (.iload 4, 2) := by decide +kernel
theorem dL_law_1694 : decode cL_law 1694 = .ok (.iconst 1, 1) := by decide +kernel
theorem dL_law_1695 : decode cL_law 1695 = .ok (.iadd, 1) := by decide +kernel
theorem dL_law_1696 : decode cL_law 1696 = .ok (.iaload, 1) := by decide +kernel
theorem dL_law_1697 : decode cL_law 1697 = .ok (.aload_n 0, 1) := by decide +kernel
theorem dL_law_1698 : decode cL_law 1698 = .ok (.iload 4, 2) := by decide +kernel
theorem dL_law_1700 : decode cL_law 1700 = .ok (.iconst 2, 1) := by decide +kernel
theorem dL_law_1701 : decode cL_law 1701 = .ok (.iadd, 1) := by decide +kernel
theorem dL_law_1702 : decode cL_law 1702 = .ok (.iaload, 1) := by decide +kernel
theorem dL_law_1703 : decode cL_law 1703 = .ok (.ifCond .eq 7, 3) := by decide +kernel
theorem dL_law_1706 : decode cL_law 1706 = .ok (.iconst 1, 1) := by decide +kernel
theorem dL_law_1707 : decode cL_law 1707 = .ok (.goto 4, 3) := by decide +kernel
theorem dL_law_1710 : decode cL_law 1710 = .ok (.iconst 0, 1) := by decide +kernel
theorem dL_law_1711 : decode cL_law 1711 = .ok (.invokevirtual 198, 3) := by decide +kernel
theorem dL_law_1714 : decode cL_law 1714 = .ok (.if_icmp .eq 30, 3) := by decide +kernel
theorem dL_law_1717 : decode cL_law 1717 = .ok (.iconst 0, 1) := by decide +kernel
theorem dL_law_1718 : decode cL_law 1718 = .ok (.ireturn, 1) := by decide +kernel
theorem dL_law_1719 : decode cL_law 1719 = .ok (.aload_n 1, 1) := by decide +kernel
theorem dL_law_1720 : decode cL_law 1720 = .ok (.aload_n 0, 1) := by decide +kernel
theorem dL_law_1721 : decode cL_law 1721 = .ok (.iload 4, 2) := by decide +kernel
theorem dL_law_1723 : decode cL_law 1723 = .ok (.iconst 1, 1) := by decide +kernel
theorem dL_law_1724 : decode cL_law 1724 = .ok (.iadd, 1) := by decide +kernel
theorem dL_law_1725 : decode cL_law 1725 = .ok (.iaload, 1) := by decide +kernel
theorem dL_law_1726 : decode cL_law 1726 = .ok (.invokevirtual 199, 3) := by decide +kernel
theorem dL_law_1729 : decode cL_law 1729 = .ok (.aload_n 2, 1) := by decide +kernel
theorem dL_law_1730 : decode cL_law 1730 = .ok (.aload_n 0, 1) := by decide +kernel
theorem dL_law_1731 : decode cL_law 1731 = .ok (.iload 4, 2) := by decide +kernel
theorem dL_law_1733 : decode cL_law 1733 = .ok (.iconst 1, 1) := by decide +kernel
theorem dL_law_1734 : decode cL_law 1734 = .ok (.iadd, 1) := by decide +kernel
theorem dL_law_1735 : decode cL_law 1735 = .ok (.iaload, 1) := by decide +kernel
theorem dL_law_1736 : decode cL_law 1736 = .ok (.invokevirtual 202, 3) := by decide +kernel
theorem dL_law_1739 : decode cL_law 1739 = .ok (.if_icmp .eq 5, 3) := by decide +kernel
theorem dL_law_1742 : decode cL_law 1742 = .ok (.iconst 0, 1) := by decide +kernel
theorem dL_law_1743 : decode cL_law 1743 = .ok (.ireturn, 1) := by decide +kernel
theorem dL_law_1744 : decode cL_law 1744 = .ok (.iinc 4 7, 3) := by decide +kernel
theorem dL_law_1747 : decode cL_law 1747 = .ok (.goto (-1724), 3) := by decide +kernel
theorem dL_law_1750 : decode cL_law 1750 = .ok (.iconst 1, 1) := by decide +kernel
theorem dL_law_1751 : decode cL_law 1751 = .ok (.ireturn, 1) := by decide +kernel
theorem dL_saves_0 : decode cL_saves 0 = .ok (.aload_n 2, 1) := by decide +kernel
theorem dL_saves_1 : decode cL_saves 1 = .ok (.iconst 0, 1) := by decide +kernel
theorem dL_saves_2 : decode cL_saves 2 = .ok (.aload_n 0, 1) := by decide +kernel
theorem dL_saves_3 : decode cL_saves 3 = .ok (.iload_n 1, 1) := by decide +kernel
theorem dL_saves_4 : decode cL_saves 4 = .ok (.invokevirtual 19, 3) := by decide +kernel
theorem dL_saves_7 : decode cL_saves 7 = .ok (.i2l, 1) := by decide +kernel
theorem dL_saves_8 : decode cL_saves 8 = .ok (.lastore, 1) := by decide +kernel
theorem dL_saves_9 : decode cL_saves 9 = .ok (.goto 6, 3) := by decide +kernel
theorem dL_saves_12 : decode cL_saves 12 = .ok (.astore_n 3, 1) := by decide +kernel
theorem dL_saves_13 : decode cL_saves 13 = .ok (.iconst 1, 1) := by decide +kernel
theorem dL_saves_14 : decode cL_saves 14 = .ok (.ireturn, 1) := by decide +kernel
theorem dL_saves_15 : decode cL_saves 15 = .ok (.iconst 0, 1) := by decide +kernel
theorem dL_saves_16 : decode cL_saves 16 = .ok (.ireturn, 1) := by decide +kernel
theorem dL_unfold_0 : decode cL_unfold 0 = .ok (.aload 4, 2) := by decide +kernel
theorem dL_unfold_2 : decode cL_unfold 2 = .ok (.iconst 0, 1) := by decide +kernel
theorem dL_unfold_3 : decode cL_unfold 3 = .ok (.aload_n 0, 1) := by decide +kernel
theorem dL_unfold_4 : decode cL_unfold 4 = .ok (.iload_n 1, 1) := by decide +kernel
theorem dL_unfold_5 : decode cL_unfold 5 = .ok (.iload_n 2, 1) := by decide +kernel
theorem dL_unfold_6 : decode cL_unfold 6 = .ok (.iload_n 3, 1) := by decide +kernel
theorem dL_unfold_7 : decode cL_unfold 7 = .ok (.invokevirtual 7, 3) := by decide +kernel
theorem dL_unfold_10 : decode cL_unfold 10 = .ok (.i2l, 1) := by decide +kernel
theorem dL_unfold_11 : decode cL_unfold 11 = .ok (.lastore, 1) := by decide +kernel
theorem dL_unfold_12 : decode cL_unfold 12 = .ok (.goto 7, 3) := by decide +kernel
theorem dL_unfold_15 : decode cL_unfold 15 = .ok (.astore 5, 2) := by decide +kernel
theorem dL_unfold_17 : decode cL_unfold 17 = .ok (.iconst 1, 1) := by decide +kernel
theorem dL_unfold_18 : decode cL_unfold 18 = .ok (.ireturn, 1) := by decide +kernel
theorem dL_unfold_19 : decode cL_unfold 19 = .ok (.iconst 0, 1) := by decide +kernel
theorem dL_unfold_20 : decode cL_unfold 20 = .ok (.ireturn, 1) := by decide +kernel
theorem dX0_at_0 : decode cX0_at 0 = .ok (.iload_n 1, 1) := by decide +kernel
theorem dX0_at_1 : decode cX0_at 1 = .ok (.ifCond .lt 22, 3) := by decide +kernel
theorem dX0_at_4 : decode cX0_at 4 = .ok (.aload_n 0, 1) := by decide +kernel
theorem dX0_at_5 : decode cX0_at 5 = .ok (.getfield 15, 3) := by decide +kernel
theorem dX0_at_8 : decode cX0_at 8 = .ok (.iconst 1, 1) := by decide +kernel
theorem dX0_at_9 : decode cX0_at 9 = .ok (.if_icmp .lt 14, 3) := by decide +kernel
theorem dX0_at_12 : decode cX0_at 12 = .ok (.aload_n 0, 1) := by decide +kernel
theorem dX0_at_13 : decode cX0_at 13 = .ok (.getfield 15, 3) := by decide +kernel
theorem dX0_at_16 : decode cX0_at 16 = .ok (.aload_n 0, 1) := by decide +kernel
theorem dX0_at_17 : decode cX0_at 17 = .ok (.getfield 19, 3) := by decide +kernel
theorem dX0_at_20 : decode cX0_at 20 = .ok (.if_icmp .le 5, 3) := by decide +kernel
theorem dX0_at_23 : decode cX0_at 23 = .ok (.iconst 0, 1) := by decide +kernel
theorem dX0_at_24 : decode cX0_at 24 = .ok (.ireturn, 1) := by decide +kernel
theorem dX0_at_25 : decode cX0_at 25 = .ok (.iload_n 1, 1) := by decide +kernel
theorem dX0_at_26 : decode cX0_at 26 = .ok (.aload_n 0, 1) := by decide +kernel
theorem dX0_at_27 : decode cX0_at 27 = .ok (.getfield 19, 3) := by decide +kernel
theorem dX0_at_30 : decode cX0_at 30 = .ok (.if_icmp .ge 10, 3) := by decide +kernel
theorem dX0_at_33 : decode cX0_at 33 = .ok (.aload_n 0, 1) := by decide +kernel
theorem dX0_at_34 : decode cX0_at 34 = .ok (.getfield 9, 3) := by decide +kernel
theorem dX0_at_37 : decode cX0_at 37 = .ok (.iload_n 1, 1) := by decide +kernel
theorem dX0_at_38 : decode cX0_at 38 = .ok (.iaload, 1) := by decide +kernel
theorem dX0_at_39 : decode cX0_at 39 = .ok (.ireturn, 1) := by decide +kernel
theorem dX0_at_40 : decode cX0_at 40 = .ok (.iload_n 1, 1) := by decide +kernel
theorem dX0_at_41 : decode cX0_at 41 = .ok (.aload_n 0, 1) := by decide +kernel
theorem dX0_at_42 : decode cX0_at 42 = .ok (.getfield 19, 3) := by decide +kernel
theorem dX0_at_45 : decode cX0_at 45 = .ok (.isub, 1) := by decide +kernel
theorem dX0_at_46 : decode cX0_at 46 = .ok (.aload_n 0, 1) := by decide +kernel
theorem dX0_at_47 : decode cX0_at 47 = .ok (.getfield 15, 3) := by decide +kernel
theorem dX0_at_50 : decode cX0_at 50 = .ok (.idiv, 1) := by decide +kernel
theorem dX0_at_51 : decode cX0_at 51 = .ok (.iconst 1, 1) := by decide +kernel
theorem dX0_at_52 : decode cX0_at 52 = .ok (.iadd, 1) := by decide +kernel
theorem dX0_at_53 : decode cX0_at 53 = .ok (.istore_n 2, 1) := by decide +kernel
theorem dX0_at_54 : decode cX0_at 54 = .ok (.aload_n 0, 1) := by decide +kernel
theorem dX0_at_55 : decode cX0_at 55 = .ok (.getfield 9, 3) := by decide +kernel
theorem dX0_at_58 : decode cX0_at 58 = .ok (.iload_n 1, 1) := by decide +kernel
theorem dX0_at_59 : decode cX0_at 59 = .ok (.iload_n 2, 1) := by decide +kernel
theorem dX0_at_60 : decode cX0_at 60 = .ok (.aload_n 0, 1) := by decide +kernel
theorem dX0_at_61 : decode cX0_at 61 = .ok (.getfield 15, 3) := by decide +kernel
theorem dX0_at_64 : decode cX0_at 64 = .ok (.imul, 1) := by decide +kernel
theorem dX0_at_65 : decode cX0_at 65 = .ok (.isub, 1) := by decide +kernel
theorem dX0_at_66 : decode cX0_at 66 = .ok (.iaload, 1) := by decide +kernel
theorem dX0_at_67 : decode cX0_at 67 = .ok (.iload_n 2, 1) := by decide +kernel
theorem dX0_at_68 : decode cX0_at 68 = .ok (.aload_n 0, 1) := by decide +kernel
theorem dX0_at_69 : decode cX0_at 69 = .ok (.getfield 22, 3) := by decide +kernel
theorem dX0_at_72 : decode cX0_at 72 = .ok (.imul, 1) := by decide +kernel
theorem dX0_at_73 : decode cX0_at 73 = .ok (.iadd, 1) := by decide +kernel
theorem dX0_at_74 : decode cX0_at 74 = .ok (.ireturn, 1) := by decide +kernel
theorem dX0_bends_0 : decode cX0_bends 0 = .ok (.iconst 1, 1) := by decide +kernel
theorem dX0_bends_1 : decode cX0_bends 1 = .ok (.istore_n 1, 1) := by decide +kernel
theorem dX0_bends_2 : decode cX0_bends 2 = .ok (.iconst 1, 1) := by decide +kernel
theorem dX0_bends_3 : decode cX0_bends 3 = .ok (.istore_n 2, 1) := by decide +kernel
theorem dX0_bends_4 : decode cX0_bends 4 = .ok (.aload_n 0, 1) := by decide +kernel
theorem dX0_bends_5 : decode cX0_bends 5 = .ok (.iconst 1, 1) := by decide +kernel
theorem dX0_bends_6 : decode cX0_bends 6 = .ok (.invokevirtual 25, 3) := by decide +kernel
theorem dX0_bends_9 : decode cX0_bends 9 = .ok (.aload_n 0, 1) := by decide +kernel
theorem dX0_bends_10 : decode cX0_bends 10 = .ok (.iconst 0, 1) := by decide +kernel
theorem dX0_bends_11 : decode cX0_bends 11 = .ok (.invokevirtual 25, 3) := by decide +kernel
theorem dX0_bends_14 : decode cX0_bends 14 = .ok (.isub, 1) := by decide +kernel
theorem dX0_bends_15 : decode cX0_bends 15 = .ok (.istore_n 3, 1) := by decide +kernel
theorem dX0_bends_16 : decode cX0_bends 16 = .ok (.iconst 1, 1) := by decide +kernel
theorem dX0_bends_17 : decode cX0_bends 17 = .ok (.istore 4, 2) := by decide +kernel
theorem dX0_bends_19 : decode cX0_bends 19 = .ok (.iload 4, 2) := by decide +kernel
theorem dX0_bends_21 : decode cX0_bends 21 = .ok (.bipush 60, 2) := by decide +kernel
theorem dX0_bends_23 : decode cX0_bends 23 = .ok (.if_icmp .gt 61, 3) := by decide +kernel
theorem dX0_bends_26 : decode cX0_bends 26 = .ok (.aload_n 0, 1) := by decide +kernel
theorem dX0_bends_27 : decode cX0_bends 27 = .ok (.iload 4, 2) := by decide +kernel
theorem dX0_bends_29 : decode cX0_bends 29 = .ok (.iconst 1, 1) := by decide +kernel
theorem dX0_bends_30 : decode cX0_bends 30 = .ok (.iadd, 1) := by decide +kernel
theorem dX0_bends_31 : decode cX0_bends 31 = .ok (.invokevirtual 25, 3) := by decide +kernel
theorem dX0_bends_34 : decode cX0_bends 34 = .ok (.aload_n 0, 1) := by decide +kernel
theorem dX0_bends_35 : decode cX0_bends 35 = .ok (.iload 4, 2) := by decide +kernel
theorem dX0_bends_37 : decode cX0_bends 37 = .ok (.invokevirtual 25, 3) := by decide +kernel
theorem dX0_bends_40 : decode cX0_bends 40 = .ok (.isub, 1) := by decide +kernel
theorem dX0_bends_41 : decode cX0_bends 41 = .ok (.istore 5, 2) := by decide +kernel
theorem dX0_bends_43 : decode cX0_bends 43 = .ok (.iload_n 1, 1) := by decide +kernel
theorem dX0_bends_44 : decode cX0_bends 44 = .ok (.ifCond .eq 13, 3) := by decide +kernel
theorem dX0_bends_47 : decode cX0_bends 47 = .ok (.iload 5, 2) := by decide +kernel
theorem dX0_bends_49 : decode cX0_bends 49 = .ok (.iload_n 3, 1) := by decide +kernel
theorem dX0_bends_50 : decode cX0_bends 50 = .ok (.if_icmp .gt 7, 3) := by decide +kernel
theorem dX0_bends_53 : decode cX0_bends 53 = .ok (.iconst 1, 1) := by decide +kernel
theorem dX0_bends_54 : decode cX0_bends 54 = .ok (.goto 4, 3) := by decide +kernel
theorem dX0_bends_57 : decode cX0_bends 57 = .ok (.iconst 0, 1) := by decide +kernel
theorem dX0_bends_58 : decode cX0_bends 58 = .ok (.istore_n 1, 1) := by decide +kernel
theorem dX0_bends_59 : decode cX0_bends 59 = .ok (.iload_n 2, 1) := by decide +kernel
theorem dX0_bends_60 : decode cX0_bends 60 = .ok (.ifCond .eq 13, 3) := by decide +kernel
theorem dX0_bends_63 : decode cX0_bends 63 = .ok (.iload 5, 2) := by decide +kernel
theorem dX0_bends_65 : decode cX0_bends 65 = .ok (.iload_n 3, 1) := by decide +kernel
theorem dX0_bends_66 : decode cX0_bends 66 = .ok (.if_icmp .lt 7, 3) := by decide +kernel
theorem dX0_bends_69 : decode cX0_bends 69 = .ok (.iconst 1, 1) := by decide +kernel
theorem dX0_bends_70 : decode cX0_bends 70 = .ok (.goto 4, 3) := by decide +kernel
theorem dX0_bends_73 : decode cX0_bends 73 = .ok (.iconst 0, 1) := by decide +kernel
theorem dX0_bends_74 : decode cX0_bends 74 = .ok (.istore_n 2, 1) := by decide +kernel
theorem dX0_bends_75 : decode cX0_bends 75 = .ok (.iload 5, 2) := by decide +kernel
theorem dX0_bends_77 : decode cX0_bends 77 = .ok (.istore_n 3, 1) := by decide +kernel
theorem dX0_bends_78 : decode cX0_bends 78 = .ok (.iinc 4 1, 3) := by decide +kernel
theorem dX0_bends_81 : decode cX0_bends 81 = .ok (.goto (-62), 3) := by decide +kernel
theorem dX0_bends_84 : decode cX0_bends 84 = .ok (.iload_n 1, 1) := by decide +kernel
theorem dX0_bends_85 : decode cX0_bends 85 = .ok (.ifCond .eq 7, 3) := by decide +kernel
theorem dX0_bends_88 : decode cX0_bends 88 = .ok (.iconst 1, 1) := by decide +kernel
theorem dX0_bends_89 : decode cX0_bends 89 = .ok (.goto 4, 3) := by decide +kernel
theorem dX0_bends_92 : decode cX0_bends 92 = .ok (.iconst 0, 1) := by decide +kernel
theorem dX0_bends_93 : decode cX0_bends 93 = .ok (.iload_n 2, 1) := by decide +kernel
theorem dX0_bends_94 : decode cX0_bends 94 = .ok (.ifCond .eq 7, 3) := by decide +kernel
theorem dX0_bends_97 : decode cX0_bends 97 = .ok (.iconst 2, 1) := by decide +kernel
theorem dX0_bends_98 : decode cX0_bends 98 = .ok (.goto 4, 3) := by decide +kernel
theorem dX0_bends_101 : decode cX0_bends 101 = .ok (.iconst 0, 1) := by decide +kernel
theorem dX0_bends_102 : decode cX0_bends 102 = .ok (.iadd, 1) := by decide +kernel
theorem dX0_bends_103 : decode cX0_bends 103 = .ok (.ireturn, 1) := by decide +kernel
theorem dX0_fill_0 : decode cX0_fill 0 = .ok (.iconst 0, 1) := by decide +kernel
theorem dX0_fill_1 : decode cX0_fill 1 = .ok (.istore_n 3, 1) := by decide +kernel
theorem dX0_fill_2 : decode cX0_fill 2 = .ok (.iload_n 3, 1) := by decide +kernel
theorem dX0_fill_3 : decode cX0_fill 3 = .ok (.aload_n 1, 1) := by decide +kernel
theorem dX0_fill_4 : decode cX0_fill 4 = .ok (.arraylength, 1) := by decide +kernel
theorem dX0_fill_5 : decode cX0_fill 5 = .ok (.if_icmp .ge 19, 3) := by decide +kernel
theorem dX0_fill_8 : decode cX0_fill 8 = .ok (.aload_n 1, 1) := by decide +kernel
theorem dX0_fill_9 : decode cX0_fill 9 = .ok (.iload_n 3, 1) := by decide +kernel
theorem dX0_fill_10 : decode cX0_fill 10 = .ok (.aload_n 0, 1) := by decide +kernel
theorem dX0_fill_11 : decode cX0_fill 11 = .ok (.iload_n 3, 1) := by decide +kernel
theorem dX0_fill_12 : decode cX0_fill 12 = .ok (.iload_n 2, 1) := by decide +kernel
theorem dX0_fill_13 : decode cX0_fill 13 = .ok (.iadd, 1) := by decide +kernel
theorem dX0_fill_14 : decode cX0_fill 14 = .ok (.invokevirtual 25, 3) := by decide +kernel
theorem dX0_fill_17 : decode cX0_fill 17 = .ok (.iastore, 1) := by decide +kernel
theorem dX0_fill_18 : decode cX0_fill 18 = .ok (.iinc 3 1, 3) := by decide +kernel
theorem dX0_fill_21 : decode cX0_fill 21 = .ok (.goto (-19), 3) := by decide +kernel
theorem dX0_fill_24 : decode cX0_fill 24 = .ok (.return_, 1) := by decide +kernel
theorem dX0_init_0 : decode cX0_init 0 = .ok (.aload_n 0, 1) := by decide +kernel
theorem dX0_init_1 : decode cX0_init 1 = .ok (.invokespecial 3, 3) := by decide +kernel
theorem dX0_init_4 : decode cX0_init 4 = .ok (.aload_n 0, 1) := by decide +kernel
theorem dX0_init_5 : decode cX0_init 5 = .ok (.bipush 8, 2) := by decide +kernel
theorem dX0_init_7 : decode cX0_init 7 = .ok (.newarray .int, 2) := by decide +kernel
theorem dX0_init_9 : decode cX0_init 9 = .ok (.putfield 9, 3) := by decide +kernel
theorem dX0_init_12 : decode cX0_init 12 = .ok (.return_, 1) := by decide +kernel
theorem dX10_above_0 : decode cX10_above 0 = .ok (.aload_n 0, 1) := by decide +kernel
theorem dX10_above_1 : decode cX10_above 1 = .ok (.iload_n 1, 1) := by decide +kernel
theorem dX10_above_2 : decode cX10_above 2 = .ok (.invokevirtual 151, 3) := by decide +kernel
theorem dX10_above_5 : decode cX10_above 5 = .ok (.ifCond .eq 11, 3) := by decide +kernel
theorem dX10_above_8 : decode cX10_above 8 = .ok (.aload_n 0, 1) := by decide +kernel
theorem dX10_above_9 : decode cX10_above 9 = .ok (.iload_n 2, 1) := by decide +kernel
theorem dX10_above_10 : decode cX10_above 10 = .ok (.invokevirtual 151, 3) := by decide +kernel
theorem dX10_above_13 : decode cX10_above 13 = .ok (.ifCond .ne 5, 3) := by decide +kernel
theorem dX10_above_16 : decode cX10_above 16 = .ok (.iconst (-1), 1) := by decide +kernel
theorem dX10_above_17 : decode cX10_above 17 = .ok (.ireturn, 1) := by decide +kernel
theorem dX10_above_18 : decode cX10_above 18 = .ok (.iconst 0, 1) := by decide +kernel
theorem dX10_above_19 : decode cX10_above 19 = .ok (.istore_n 3, 1) := by decide +kernel
theorem dX10_above_20 : decode cX10_above 20 = .ok (.iload_n 3, 1) := by decide +kernel
theorem dX10_above_21 : decode cX10_above 21 = .ok (.bipush 60, 2) := by decide +kernel
theorem dX10_above_23 : decode cX10_above 23 = .ok (.if_icmp .gt 40, 3) := by decide +kernel
theorem dX10_above_26 : decode cX10_above 26 = .ok (.aload_n 0, 1) := by decide +kernel
theorem dX10_above_27 : decode cX10_above 27 = .ok (.getfield 19, 3) := by decide +kernel
theorem dX10_above_30 : decode cX10_above 30 = .ok (.getfield 154, 3) := by decide +kernel
theorem dX10_above_33 : decode cX10_above 33 = .ok (.iload_n 1, 1) := by decide +kernel
theorem dX10_above_34 : decode cX10_above 34 = .ok (.aaload, 1) := by decide +kernel
theorem dX10_above_35 : decode cX10_above 35 = .ok (.iload_n 3, 1) := by decide +kernel
theorem dX10_above_36 : decode cX10_above 36 = .ok (.invokevirtual 213, 3) := by decide +kernel
theorem dX10_above_39 : decode cX10_above 39 = .ok (.aload_n 0, 1) := by decide +kernel
theorem dX10_above_40 : decode cX10_above 40 = .ok (.getfield 19, 3) := by decide +kernel
theorem dX10_above_43 : decode cX10_above 43 = .ok (.getfield 154, 3) := by decide +kernel
theorem dX10_above_46 : decode cX10_above 46 = .ok (.iload_n 2, 1) := by decide +kernel
theorem dX10_above_47 : decode cX10_above 47 = .ok (.aaload, 1) := by decide +kernel
theorem dX10_above_48 : decode cX10_above 48 = .ok (.iload_n 3, 1) := by decide +kernel
theorem dX10_above_49 : decode cX10_above 49 = .ok (.invokevirtual 213, 3) := by decide +kernel
theorem dX10_above_52 : decode cX10_above 52 = .ok (.if_icmp .le 5, 3) := by decide +kernel
theorem dX10_above_55 : decode cX10_above 55 = .ok (.iload_n 3, 1) := by decide +kernel
theorem dX10_above_56 : decode cX10_above 56 = .ok (.ireturn, 1) := by decide +kernel
theorem dX10_above_57 : decode cX10_above 57 = .ok (.iinc 3 1, 3) := by decide +kernel
theorem dX10_above_60 : decode cX10_above 60 = .ok (.goto (-40), 3) := by decide +kernel
theorem dX10_above_63 : decode cX10_above 63 = .ok (.iconst (-1), 1) := by decide +kernel
theorem dX10_above_64 : decode cX10_above 64 = .ok (.ireturn, 1) := by decide +kernel
theorem dX10_appendBytes_0 : decode cX10_appendBytes 0 = .ok (.bipush 56, 2) := by decide +kernel
theorem dX10_appendBytes_2 : decode cX10_appendBytes 2 = .ok (.istore_n 3, 1) := by decide +kernel
theorem dX10_appendBytes_3 : decode cX10_appendBytes 3 = .ok (.iload_n 3, 1) := by decide +kernel
theorem dX10_appendBytes_4 : decode cX10_appendBytes 4 = .ok (.ifCond .lt 25, 3) := by decide +kernel
theorem dX10_appendBytes_7 : decode cX10_appendBytes 7 = .ok (.aload_n 0, 1) := by decide +kernel
theorem dX10_appendBytes_8 : decode cX10_appendBytes 8 = .ok (.getfield 10, 3) := by decide +kernel
theorem dX10_appendBytes_11 : decode cX10_appendBytes 11 = .ok (.lload_n 1, 1) := by decide +kernel
theorem dX10_appendBytes_12 : decode cX10_appendBytes 12 = .ok (.iload_n 3, 1) := by decide +kernel
theorem dX10_appendBytes_13 : decode cX10_appendBytes 13 = .ok (.lushr, 1) := by decide +kernel
theorem dX10_appendBytes_14 : decode cX10_appendBytes 14 = .ok (.ldc2_w 104, 3) := by decide +kernel
theorem dX10_appendBytes_17 : decode cX10_appendBytes 17 = .ok (.land, 1) := by decide +kernel
theorem dX10_appendBytes_18 : decode cX10_appendBytes 18 = .ok (.l2i, 1) := by decide +kernel
theorem dX10_appendBytes_19 : decode cX10_appendBytes 19 = .ok (.i2c, 1) := by decide +kernel
theorem dX10_appendBytes_20 : decode cX10_appendBytes 20 = .ok (.invokevirtual 106, 3) := by decide +kernel
theorem dX10_appendBytes_23 : decode cX10_appendBytes 23 = .ok (.iinc 3 (-8), 3) := by decide +kernel
theorem dX10_appendBytes_26 : decode cX10_appendBytes 26 = .ok (.goto (-23), 3) := by decide +kernel
theorem dX10_appendBytes_29 : decode cX10_appendBytes 29 = .ok (.return_, 1) := by decide +kernel
theorem dX10_arrives_0 : decode cX10_arrives 0 = .ok (.aload_n 0, 1) := by decide +kernel
theorem dX10_arrives_1 : decode cX10_arrives 1 = .ok (.iload_n 1, 1) := by decide +kernel
theorem dX10_arrives_2 : decode cX10_arrives 2 = .ok (.iload_n 2, 1) := by decide +kernel
theorem dX10_arrives_3 : decode cX10_arrives 3 = .ok (.invokevirtual 202, 3) := by decide +kernel
theorem dX10_arrives_6 : decode cX10_arrives 6 = .ok (.ifCond .eq 19, 3) := by decide +kernel
theorem dX10_arrives_9 : decode cX10_arrives 9 = .ok (.iload_n 3, 1) := by decide +kernel
theorem dX10_arrives_10 : decode cX10_arrives 10 = .ok (.bipush 60, 2) := by decide +kernel
theorem dX10_arrives_12 : decode cX10_arrives 12 = .ok (.invokestatic 210, 3) := by decide +kernel
theorem dX10_arrives_15 : decode cX10_arrives 15 = .ok (.ifCond .eq 10, 3) := by decide +kernel
theorem dX10_arrives_18 : decode cX10_arrives 18 = .ok (.aload_n 0, 1) := by decide +kernel
theorem dX10_arrives_19 : decode cX10_arrives 19 = .ok (.invokevirtual 246, 3) := by decide +kernel
theorem dX10_arrives_22 : decode cX10_arrives 22 = .ok (.ifCond .eq 5, 3) := by decide +kernel
theorem dX10_arrives_25 : decode cX10_arrives 25 = .ok (.iconst (-1), 1) := by decide +kernel
theorem dX10_arrives_26 : decode cX10_arrives 26 = .ok (.ireturn, 1) := by decide +kernel
theorem dX10_arrives_27 : decode cX10_arrives 27 = .ok (.aload_n 0, 1) := by decide +kernel
theorem dX10_arrives_28 : decode cX10_arrives 28 = .ok (.getfield 79, 3) := by decide +kernel
theorem dX10_arrives_31 : decode cX10_arrives 31 = .ok (.iload_n 1, 1) := by decide +kernel
theorem dX10_arrives_32 : decode cX10_arrives 32 = .ok (.aload_n 0, 1) := by decide +kernel
theorem dX10_arrives_33 : decode cX10_arrives 33 = .ok (.getfield 19, 3) := by decide +kernel
theorem dX10_arrives_36 : decode cX10_arrives 36 = .ok (.getfield 206, 3) := by decide +kernel
theorem dX10_arrives_39 : decode cX10_arrives 39 = .ok (.iload_n 1, 1) := by decide +kernel
theorem dX10_arrives_40 : decode cX10_arrives 40 = .ok (.aaload, 1) := by decide +kernel
theorem dX10_arrives_41 : decode cX10_arrives 41 = .ok (.iload_n 2, 1) := by decide +kernel
theorem dX10_arrives_42 : decode cX10_arrives 42 = .ok (.iaload, 1) := by decide +kernel
theorem dX10_arrives_43 : decode cX10_arrives 43 = .ok (.iload_n 3, 1) := by decide +kernel
theorem dX10_arrives_44 : decode cX10_arrives 44 = .ok (.invokevirtual 253, 3) := by decide +kernel
theorem dX10_arrives_47 : decode cX10_arrives 47 = .ok (.ireturn, 1) := by decide +kernel
theorem dX10_beginAnew_0 : decode cX10_beginAnew 0 = .ok (.aload_n 0, 1) := by decide +kernel
theorem dX10_beginAnew_1 : decode cX10_beginAnew 1 = .ok (.getfield 48, 3) := by decide +kernel
theorem dX10_beginAnew_4 : decode cX10_beginAnew 4 = .ok (.invokevirtual 120, 3) := by decide +kernel
theorem dX10_beginAnew_7 : decode cX10_beginAnew 7 = .ok (.aload_n 0, 1) := by decide +kernel
theorem dX10_beginAnew_8 : decode cX10_beginAnew 8 = .ok (.getfield 38, 3) := by decide +kernel
theorem dX10_beginAnew_11 : decode cX10_beginAnew 11 = .ok (.iconst 0, 1) := by decide +kernel
theorem dX10_beginAnew_12 : decode cX10_beginAnew 12 = .ok (.putfield 123, 3) := by decide +kernel
theorem dX10_beginAnew_15 : decode cX10_beginAnew 15 = .ok (.aload_n 0, 1) := by decide +kernel
theorem dX10_beginAnew_16 : decode cX10_beginAnew 16 = .ok (.getfield 58, 3) := by decide +kernel
theorem dX10_beginAnew_19 : decode cX10_beginAnew 19 = .ok (.iconst 0, 1) := by decide +kernel
theorem dX10_beginAnew_20 : decode cX10_beginAnew 20 = .ok (.putfield 126, 3) := by decide +kernel
theorem dX10_beginAnew_23 : decode cX10_beginAnew 23 = .ok (.iconst 0, 1) := by decide +kernel
theorem dX10_beginAnew_24 : decode cX10_beginAnew 24 = .ok (.istore_n 1, 1) := by decide +kernel
theorem dX10_beginAnew_25 : decode cX10_beginAnew 25 = .ok (.iload_n 1, 1) := by decide +kernel
theorem dX10_beginAnew_26 : decode cX10_beginAnew 26 = .ok (.iconst 2, 1) := by decide +kernel
theorem dX10_beginAnew_27 : decode cX10_beginAnew 27 = .ok (.if_icmp .ge 16, 3) := by decide +kernel
theorem dX10_beginAnew_30 : decode cX10_beginAnew 30 = .ok (.aload_n 0, 1) := by decide +kernel
theorem dX10_beginAnew_31 : decode cX10_beginAnew 31 = .ok (.getfield 70, 3) := by decide +kernel
theorem dX10_beginAnew_34 : decode cX10_beginAnew 34 = .ok (.iload_n 1, 1) := by decide +kernel
theorem dX10_beginAnew_35 : decode cX10_beginAnew 35 = .ok (.iconst 0, 1) := by decide +kernel
theorem dX10_beginAnew_36 : decode cX10_beginAnew 36 = .ok (.bastore, 1) := by decide +kernel
theorem dX10_beginAnew_37 : decode cX10_beginAnew 37 = .ok (.iinc 1 1, 3) := by decide +kernel
theorem dX10_beginAnew_40 : decode cX10_beginAnew 40 = .ok (.goto (-15), 3) := by decide +kernel
theorem dX10_beginAnew_43 : decode cX10_beginAnew 43 = .ok (.aload_n 0, 1) := by decide +kernel
theorem dX10_beginAnew_44 : decode cX10_beginAnew 44 = .ok (.getfield 79, 3) := by decide +kernel
theorem dX10_beginAnew_47 : decode cX10_beginAnew 47 = .ok (.invokevirtual 129, 3) := by decide +kernel
theorem dX10_beginAnew_50 : decode cX10_beginAnew 50 = .ok (.iconst 0, 1) := by decide +kernel
theorem dX10_beginAnew_51 : decode cX10_beginAnew 51 = .ok (.istore_n 1, 1) := by decide +kernel
theorem dX10_beginAnew_52 : decode cX10_beginAnew 52 = .ok (.iload_n 1, 1) := by decide +kernel
theorem dX10_beginAnew_53 : decode cX10_beginAnew 53 = .ok (.aload_n 0, 1) := by decide +kernel
theorem dX10_beginAnew_54 : decode cX10_beginAnew 54 = .ok (.getfield 83, 3) := by decide +kernel
theorem dX10_beginAnew_57 : decode cX10_beginAnew 57 = .ok (.arraylength, 1) := by decide +kernel
theorem dX10_beginAnew_58 : decode cX10_beginAnew 58 = .ok (.if_icmp .ge 17, 3) := by decide +kernel
theorem dX10_beginAnew_61 : decode cX10_beginAnew 61 = .ok (.aload_n 0, 1) := by decide +kernel
theorem dX10_beginAnew_62 : decode cX10_beginAnew 62 = .ok (.getfield 83, 3) := by decide +kernel
theorem dX10_beginAnew_65 : decode cX10_beginAnew 65 = .ok (.iload_n 1, 1) := by decide +kernel
theorem dX10_beginAnew_66 : decode cX10_beginAnew 66 = .ok (.bipush (-2), 2) := by decide +kernel
theorem dX10_beginAnew_68 : decode cX10_beginAnew 68 = .ok (.iastore, 1) := by decide +kernel
theorem dX10_beginAnew_69 : decode cX10_beginAnew 69 = .ok (.iinc 1 1, 3) := by decide +kernel
theorem dX10_beginAnew_72 : decode cX10_beginAnew 72 = .ok (.goto (-20), 3) := by decide +kernel
theorem dX10_beginAnew_75 : decode cX10_beginAnew 75 = .ok (.return_, 1) := by decide +kernel
theorem dX10_behind_0 : decode cX10_behind 0 = .ok (.aload_n 0, 1) := by decide +kernel
theorem dX10_behind_1 : decode cX10_behind 1 = .ok (.iload_n 1, 1) := by decide +kernel
theorem dX10_behind_2 : decode cX10_behind 2 = .ok (.invokevirtual 151, 3) := by decide +kernel
theorem dX10_behind_5 : decode cX10_behind 5 = .ok (.ifCond .eq 11, 3) := by decide +kernel
theorem dX10_behind_8 : decode cX10_behind 8 = .ok (.aload_n 0, 1) := by decide +kernel
theorem dX10_behind_9 : decode cX10_behind 9 = .ok (.iload_n 2, 1) := by decide +kernel
theorem dX10_behind_10 : decode cX10_behind 10 = .ok (.invokevirtual 151, 3) := by decide +kernel
theorem dX10_behind_13 : decode cX10_behind 13 = .ok (.ifCond .ne 11, 3) := by decide +kernel
theorem dX10_behind_16 : decode cX10_behind 16 = .ok (.new 230, 3) := by decide +kernel
theorem dX10_behind_19 : decode cX10_behind 19 = .ok (.dup, 1) := by decide +kernel
theorem dX10_behind_20 : decode cX10_behind 20 = .ok (.invokespecial 232, 3) := by decide +kernel
theorem dX10_behind_23 : decode cX10_behind 23 = .ok (.athrow, 1) := by decide +kernel
theorem dX10_behind_24 : decode cX10_behind 24 = .ok (.aload_n 0, 1) := by decide +kernel
theorem dX10_behind_25 : decode cX10_behind 25 = .ok (.getfield 19, 3) := by decide +kernel
theorem dX10_behind_28 : decode cX10_behind 28 = .ok (.getfield 154, 3) := by decide +kernel
theorem dX10_behind_31 : decode cX10_behind 31 = .ok (.iload_n 1, 1) := by decide +kernel
theorem dX10_behind_32 : decode cX10_behind 32 = .ok (.aaload, 1) := by decide +kernel
theorem dX10_behind_33 : decode cX10_behind 33 = .ok (.aload_n 0, 1) := by decide +kernel
theorem dX10_behind_34 : decode cX10_behind 34 = .ok (.getfield 87, 3) := by decide +kernel
theorem dX10_behind_37 : decode cX10_behind 37 = .ok (.iconst 0, 1) := by decide +kernel
theorem dX10_behind_38 : decode cX10_behind 38 = .ok (.invokevirtual 216, 3) := by decide +kernel
theorem dX10_behind_41 : decode cX10_behind 41 = .ok (.aload_n 0, 1) := by decide +kernel
theorem dX10_behind_42 : decode cX10_behind 42 = .ok (.getfield 19, 3) := by decide +kernel
theorem dX10_behind_45 : decode cX10_behind 45 = .ok (.getfield 154, 3) := by decide +kernel
theorem dX10_behind_48 : decode cX10_behind 48 = .ok (.iload_n 2, 1) := by decide +kernel
theorem dX10_behind_49 : decode cX10_behind 49 = .ok (.aaload, 1) := by decide +kernel
theorem dX10_behind_50 : decode cX10_behind 50 = .ok (.aload_n 0, 1) := by decide +kernel
theorem dX10_behind_51 : decode cX10_behind 51 = .ok (.getfield 90, 3) := by decide +kernel
theorem dX10_behind_54 : decode cX10_behind 54 = .ok (.iconst 0, 1) := by decide +kernel
theorem dX10_behind_55 : decode cX10_behind 55 = .ok (.invokevirtual 216, 3) := by decide +kernel
theorem dX10_behind_58 : decode cX10_behind 58 = .ok (.aload_n 0, 1) := by decide +kernel
theorem dX10_behind_59 : decode cX10_behind 59 = .ok (.getfield 87, 3) := by decide +kernel
theorem dX10_behind_62 : decode cX10_behind 62 = .ok (.aload_n 0, 1) := by decide +kernel
theorem dX10_behind_63 : decode cX10_behind 63 = .ok (.getfield 90, 3) := by decide +kernel
theorem dX10_behind_66 : decode cX10_behind 66 = .ok (.invokestatic 240, 3) := by decide +kernel
theorem dX10_behind_69 : decode cX10_behind 69 = .ok (.ireturn, 1) := by decide +kernel
theorem dX10_comes_0 : decode cX10_comes 0 = .ok (.aload_n 0, 1) := by decide +kernel
theorem dX10_comes_1 : decode cX10_comes 1 = .ok (.iload_n 1, 1) := by decide +kernel
theorem dX10_comes_2 : decode cX10_comes 2 = .ok (.invokevirtual 171, 3) := by decide +kernel
theorem dX10_comes_5 : decode cX10_comes 5 = .ok (.ifCond .eq 19, 3) := by decide +kernel
theorem dX10_comes_8 : decode cX10_comes 8 = .ok (.iload_n 2, 1) := by decide +kernel
theorem dX10_comes_9 : decode cX10_comes 9 = .ok (.bipush 60, 2) := by decide +kernel
theorem dX10_comes_11 : decode cX10_comes 11 = .ok (.invokestatic 210, 3) := by decide +kernel
theorem dX10_comes_14 : decode cX10_comes 14 = .ok (.ifCond .eq 10, 3) := by decide +kernel
theorem dX10_comes_17 : decode cX10_comes 17 = .ok (.aload_n 0, 1) := by decide +kernel
theorem dX10_comes_18 : decode cX10_comes 18 = .ok (.invokevirtual 246, 3) := by decide +kernel
theorem dX10_comes_21 : decode cX10_comes 21 = .ok (.ifCond .eq 5, 3) := by decide +kernel
theorem dX10_comes_24 : decode cX10_comes 24 = .ok (.iconst (-1), 1) := by decide +kernel
theorem dX10_comes_25 : decode cX10_comes 25 = .ok (.ireturn, 1) := by decide +kernel
theorem dX10_comes_26 : decode cX10_comes 26 = .ok (.aload_n 0, 1) := by decide +kernel
theorem dX10_comes_27 : decode cX10_comes 27 = .ok (.getfield 79, 3) := by decide +kernel
theorem dX10_comes_30 : decode cX10_comes 30 = .ok (.iload_n 1, 1) := by decide +kernel
theorem dX10_comes_31 : decode cX10_comes 31 = .ok (.aload_n 0, 1) := by decide +kernel
theorem dX10_comes_32 : decode cX10_comes 32 = .ok (.getfield 87, 3) := by decide +kernel
theorem dX10_comes_35 : decode cX10_comes 35 = .ok (.invokevirtual 277, 3) := by decide +kernel
theorem dX10_comes_38 : decode cX10_comes 38 = .ok (.aload_n 0, 1) := by decide +kernel
theorem dX10_comes_39 : decode cX10_comes 39 = .ok (.getfield 87, 3) := by decide +kernel
theorem dX10_comes_42 : decode cX10_comes 42 = .ok (.iload_n 2, 1) := by decide +kernel
theorem dX10_comes_43 : decode cX10_comes 43 = .ok (.iaload, 1) := by decide +kernel
theorem dX10_comes_44 : decode cX10_comes 44 = .ok (.ireturn, 1) := by decide +kernel
theorem dX10_count_0 : decode cX10_count 0 = .ok (.iload_n 1, 1) := by decide +kernel
theorem dX10_count_1 : decode cX10_count 1 = .ok (.tableswitch 144 0 9 #[55, 63, 71, 79, 87, 98, 109, 120, 128, 136], 55) := by decide +kernel
theorem dX10_count_56 : decode cX10_count 56 = .ok (.aload_n 0, 1) := by decide +kernel
theorem dX10_count_57 : decode cX10_count 57 = .ok (.getfield 19, 3) := by decide +kernel
theorem dX10_count_60 : decode cX10_count 60 = .ok (.getfield 135, 3) := by decide +kernel
theorem dX10_count_63 : decode cX10_count 63 = .ok (.ireturn, 1) := by decide +kernel
theorem dX10_count_64 : decode cX10_count 64 = .ok (.aload_n 0, 1) := by decide +kernel
theorem dX10_count_65 : decode cX10_count 65 = .ok (.getfield 19, 3) := by decide +kernel
theorem dX10_count_68 : decode cX10_count 68 = .ok (.getfield 138, 3) := by decide +kernel
theorem dX10_count_71 : decode cX10_count 71 = .ok (.ireturn, 1) := by decide +kernel
theorem dX10_count_72 : decode cX10_count 72 = .ok (.aload_n 0, 1) := by decide +kernel
theorem dX10_count_73 : decode cX10_count 73 = .ok (.getfield 19, 3) := by decide +kernel
theorem dX10_count_76 : decode cX10_count 76 = .ok (.getfield 141, 3) := by decide +kernel
theorem dX10_count_79 : decode cX10_count 79 = .ok (.ireturn, 1) := by decide +kernel
theorem dX10_count_80 : decode cX10_count 80 = .ok (.aload_n 0, 1) := by decide +kernel
theorem dX10_count_81 : decode cX10_count 81 = .ok (.getfield 48, 3) := by decide +kernel
theorem dX10_count_84 : decode cX10_count 84 = .ok (.getfield 352, 3) := by decide +kernel
theorem dX10_count_87 : decode cX10_count 87 = .ok (.ireturn, 1) := by decide +kernel
theorem dX10_count_88 : decode cX10_count 88 = .ok (.aload_n 0, 1) := by decide +kernel
theorem dX10_count_89 : decode cX10_count 89 = .ok (.getfield 48, 3) := by decide +kernel
theorem dX10_count_92 : decode cX10_count 92 = .ok (.getfield 183, 3) := by decide +kernel
theorem dX10_count_95 : decode cX10_count 95 = .ok (.invokestatic 302, 3) := by decide +kernel
theorem dX10_count_98 : decode cX10_count 98 = .ok (.ireturn, 1) := by decide +kernel
theorem dX10_count_99 : decode cX10_count 99 = .ok (.aload_n 0, 1) := by decide +kernel
theorem dX10_count_100 : decode cX10_count 100 = .ok (.getfield 48, 3) := by decide +kernel
theorem dX10_count_103 : decode cX10_count 103 = .ok (.getfield 196, 3) := by decide +kernel
theorem dX10_count_106 : decode cX10_count 106 = .ok (.invokestatic 302, 3) := by decide +kernel
theorem dX10_count_109 : decode cX10_count 109 = .ok (.ireturn, 1) := by decide +kernel
theorem dX10_count_110 : decode cX10_count 110 = .ok (.aload_n 0, 1) := by decide +kernel
theorem dX10_count_111 : decode cX10_count 111 = .ok (.getfield 48, 3) := by decide +kernel
theorem dX10_count_114 : decode cX10_count 114 = .ok (.getfield 199, 3) := by decide +kernel
theorem dX10_count_117 : decode cX10_count 117 = .ok (.invokestatic 302, 3) := by decide +kernel
theorem dX10_count_120 : decode cX10_count 120 = .ok (.ireturn, 1) := by decide +kernel
theorem dX10_count_121 : decode cX10_count 121 = .ok (.aload_n 0, 1) := by decide +kernel
theorem dX10_count_122 : decode cX10_count 122 = .ok (.getfield 38, 3) := by decide +kernel
theorem dX10_count_125 : decode cX10_count 125 = .ok (.getfield 123, 3) := by decide +kernel
theorem dX10_count_128 : decode cX10_count 128 = .ok (.ireturn, 1) := by decide +kernel
theorem dX10_count_129 : decode cX10_count 129 = .ok (.aload_n 0, 1) := by decide +kernel
theorem dX10_count_130 : decode cX10_count 130 = .ok (.getfield 58, 3) := by decide +kernel
theorem dX10_count_133 : decode cX10_count 133 = .ok (.getfield 126, 3) := by decide +kernel
theorem dX10_count_136 : decode cX10_count 136 = .ok (.ireturn, 1) := by decide +kernel
theorem dX10_count_137 : decode cX10_count 137 = .ok (.aload_n 0, 1) := by decide +kernel
theorem dX10_count_138 : decode cX10_count 138 = .ok (.getfield 10, 3) := by decide +kernel
theorem dX10_count_141 : decode cX10_count 141 = .ok (.getfield 100, 3) := by decide +kernel
theorem dX10_count_144 : decode cX10_count 144 = .ok (.ireturn, 1) := by decide +kernel
theorem dX10_count_145 : decode cX10_count 145 = .ok (.iconst (-1), 1) := by decide +kernel
theorem dX10_count_146 : decode cX10_count 146 = .ok (.ireturn, 1) := by decide +kernel
theorem dX10_curve_0 : decode cX10_curve 0 = .ok (.aload_n 0, 1) := by decide +kernel
theorem dX10_curve_1 : decode cX10_curve 1 = .ok (.iload_n 1, 1) := by decide +kernel
theorem dX10_curve_2 : decode cX10_curve 2 = .ok (.invokevirtual 151, 3) := by decide +kernel
theorem dX10_curve_5 : decode cX10_curve 5 = .ok (.ifCond .ne 5, 3) := by decide +kernel
theorem dX10_curve_8 : decode cX10_curve 8 = .ok (.iconst (-1), 1) := by decide +kernel
theorem dX10_curve_9 : decode cX10_curve 9 = .ok (.ireturn, 1) := by decide +kernel
theorem dX10_curve_10 : decode cX10_curve 10 = .ok (.aload_n 0, 1) := by decide +kernel
theorem dX10_curve_11 : decode cX10_curve 11 = .ok (.getfield 19, 3) := by decide +kernel
theorem dX10_curve_14 : decode cX10_curve 14 = .ok (.getfield 154, 3) := by decide +kernel
theorem dX10_curve_17 : decode cX10_curve 17 = .ok (.iload_n 1, 1) := by decide +kernel
theorem dX10_curve_18 : decode cX10_curve 18 = .ok (.aaload, 1) := by decide +kernel
theorem dX10_curve_19 : decode cX10_curve 19 = .ok (.astore_n 3, 1) := by decide +kernel
theorem dX10_curve_20 : decode cX10_curve 20 = .ok (.iload_n 2, 1) := by decide +kernel
theorem dX10_curve_21 : decode cX10_curve 21 = .ok (.tableswitch 80 0 4 #[35, 40, 45, 50, 75], 35) := by decide +kernel
theorem dX10_curve_56 : decode cX10_curve 56 = .ok (.aload_n 3, 1) := by decide +kernel
theorem dX10_curve_57 : decode cX10_curve 57 = .ok (.getfield 158, 3) := by decide +kernel
theorem dX10_curve_60 : decode cX10_curve 60 = .ok (.ireturn, 1) := by decide +kernel
theorem dX10_curve_61 : decode cX10_curve 61 = .ok (.aload_n 3, 1) := by decide +kernel
theorem dX10_curve_62 : decode cX10_curve 62 = .ok (.getfield 161, 3) := by decide +kernel
theorem dX10_curve_65 : decode cX10_curve 65 = .ok (.ireturn, 1) := by decide +kernel
theorem dX10_curve_66 : decode cX10_curve 66 = .ok (.aload_n 3, 1) := by decide +kernel
theorem dX10_curve_67 : decode cX10_curve 67 = .ok (.getfield 164, 3) := by decide +kernel
theorem dX10_curve_70 : decode cX10_curve 70 = .ok (.ireturn, 1) := by decide +kernel
theorem dX10_curve_71 : decode cX10_curve 71 = .ok (.aload_n 3, 1) := by decide +kernel
theorem dX10_curve_72 : decode cX10_curve 72 = .ok (.getfield 161, 3) := by decide +kernel
theorem dX10_curve_75 : decode cX10_curve 75 = .ok (.ifCond .le 19, 3) := by decide +kernel
theorem dX10_curve_78 : decode cX10_curve 78 = .ok (.aload_n 3, 1) := by decide +kernel
theorem dX10_curve_79 : decode cX10_curve 79 = .ok (.getfield 164, 3) := by decide +kernel
theorem dX10_curve_82 : decode cX10_curve 82 = .ok (.sipush 1000, 3) := by decide +kernel
theorem dX10_curve_85 : decode cX10_curve 85 = .ok (.imul, 1) := by decide +kernel
theorem dX10_curve_86 : decode cX10_curve 86 = .ok (.aload_n 3, 1) := by decide +kernel
theorem dX10_curve_87 : decode cX10_curve 87 = .ok (.getfield 161, 3) := by decide +kernel
theorem dX10_curve_90 : decode cX10_curve 90 = .ok (.idiv, 1) := by decide +kernel
theorem dX10_curve_91 : decode cX10_curve 91 = .ok (.goto 4, 3) := by decide +kernel
theorem dX10_curve_94 : decode cX10_curve 94 = .ok (.iconst (-1), 1) := by decide +kernel
theorem dX10_curve_95 : decode cX10_curve 95 = .ok (.ireturn, 1) := by decide +kernel
theorem dX10_curve_96 : decode cX10_curve 96 = .ok (.aload_n 3, 1) := by decide +kernel
theorem dX10_curve_97 : decode cX10_curve 97 = .ok (.invokevirtual 167, 3) := by decide +kernel
theorem dX10_curve_100 : decode cX10_curve 100 = .ok (.ireturn, 1) := by decide +kernel
theorem dX10_curve_101 : decode cX10_curve 101 = .ok (.iconst (-1), 1) := by decide +kernel
theorem dX10_curve_102 : decode cX10_curve 102 = .ok (.ireturn, 1) := by decide +kernel
theorem dX10_delay_0 : decode cX10_delay 0 = .ok (.aload_n 0, 1) := by decide +kernel
theorem dX10_delay_1 : decode cX10_delay 1 = .ok (.iload_n 1, 1) := by decide +kernel
theorem dX10_delay_2 : decode cX10_delay 2 = .ok (.iload_n 2, 1) := by decide +kernel
theorem dX10_delay_3 : decode cX10_delay 3 = .ok (.invokevirtual 202, 3) := by decide +kernel
theorem dX10_delay_6 : decode cX10_delay 6 = .ok (.ifCond .eq 24, 3) := by decide +kernel
theorem dX10_delay_9 : decode cX10_delay 9 = .ok (.aload_n 0, 1) := by decide +kernel
theorem dX10_delay_10 : decode cX10_delay 10 = .ok (.invokevirtual 246, 3) := by decide +kernel
theorem dX10_delay_13 : decode cX10_delay 13 = .ok (.ifCond .ne 17, 3) := by decide +kernel
theorem dX10_delay_16 : decode cX10_delay 16 = .ok (.aload_n 0, 1) := by decide +kernel
theorem dX10_delay_17 : decode cX10_delay 17 = .ok (.getfield 79, 3) := by decide +kernel
theorem dX10_delay_20 : decode cX10_delay 20 = .ok (.getfield 250, 3) := by decide +kernel
theorem dX10_delay_23 : decode cX10_delay 23 = .ok (.iload_n 1, 1) := by decide +kernel
theorem dX10_delay_24 : decode cX10_delay 24 = .ok (.aaload, 1) := by decide +kernel
theorem dX10_delay_25 : decode cX10_delay 25 = .ok (.iload_n 2, 1) := by decide +kernel
theorem dX10_delay_26 : decode cX10_delay 26 = .ok (.iaload, 1) := by decide +kernel
theorem dX10_delay_27 : decode cX10_delay 27 = .ok (.goto 4, 3) := by decide +kernel
theorem dX10_delay_30 : decode cX10_delay 30 = .ok (.iconst (-1), 1) := by decide +kernel
theorem dX10_delay_31 : decode cX10_delay 31 = .ok (.ireturn, 1) := by decide +kernel
theorem dX10_diverges_0 : decode cX10_diverges 0 = .ok (.aload_n 0, 1) := by decide +kernel
theorem dX10_diverges_1 : decode cX10_diverges 1 = .ok (.getfield 79, 3) := by decide +kernel
theorem dX10_diverges_4 : decode cX10_diverges 4 = .ok (.aload_n 0, 1) := by decide +kernel
theorem dX10_diverges_5 : decode cX10_diverges 5 = .ok (.getfield 19, 3) := by decide +kernel
theorem dX10_diverges_8 : decode cX10_diverges 8 = .ok (.invokevirtual 243, 3) := by decide +kernel
theorem dX10_diverges_11 : decode cX10_diverges 11 = .ok (.iconst (-1), 1) := by decide +kernel
theorem dX10_diverges_12 : decode cX10_diverges 12 = .ok (.if_icmp .ne 7, 3) := by decide +kernel
theorem dX10_diverges_15 : decode cX10_diverges 15 = .ok (.iconst 1, 1) := by decide +kernel
theorem dX10_diverges_16 : decode cX10_diverges 16 = .ok (.goto 4, 3) := by decide +kernel
theorem dX10_diverges_19 : decode cX10_diverges 19 = .ok (.iconst 0, 1) := by decide +kernel
theorem dX10_diverges_20 : decode cX10_diverges 20 = .ok (.ireturn, 1) := by decide +kernel
theorem dX10_feed_0 : decode cX10_feed 0 = .ok (.aload_n 0, 1) := by decide +kernel
theorem dX10_feed_1 : decode cX10_feed 1 = .ok (.lload_n 1, 1) := by decide +kernel
theorem dX10_feed_2 : decode cX10_feed 2 = .ok (.invokevirtual 96, 3) := by decide +kernel
theorem dX10_feed_5 : decode cX10_feed 5 = .ok (.aload_n 0, 1) := by decide +kernel
theorem dX10_feed_6 : decode cX10_feed 6 = .ok (.lload_n 3, 1) := by decide +kernel
theorem dX10_feed_7 : decode cX10_feed 7 = .ok (.invokevirtual 96, 3) := by decide +kernel
theorem dX10_feed_10 : decode cX10_feed 10 = .ok (.aload_n 0, 1) := by decide +kernel
theorem dX10_feed_11 : decode cX10_feed 11 = .ok (.lload 5, 2) := by decide +kernel
theorem dX10_feed_13 : decode cX10_feed 13 = .ok (.invokevirtual 96, 3) := by decide +kernel
theorem dX10_feed_16 : decode cX10_feed 16 = .ok (.aload_n 0, 1) := by decide +kernel
theorem dX10_feed_17 : decode cX10_feed 17 = .ok (.getfield 10, 3) := by decide +kernel
theorem dX10_feed_20 : decode cX10_feed 20 = .ok (.getfield 100, 3) := by decide +kernel
theorem dX10_feed_23 : decode cX10_feed 23 = .ok (.ireturn, 1) := by decide +kernel
theorem dX10_fits_0 : decode cX10_fits 0 = .ok (.aload_n 0, 1) := by decide +kernel
theorem dX10_fits_1 : decode cX10_fits 1 = .ok (.iload_n 1, 1) := by decide +kernel
theorem dX10_fits_2 : decode cX10_fits 2 = .ok (.invokevirtual 144, 3) := by decide +kernel
theorem dX10_fits_5 : decode cX10_fits 5 = .ok (.ifCond .eq 35, 3) := by decide +kernel
theorem dX10_fits_8 : decode cX10_fits 8 = .ok (.aload_n 0, 1) := by decide +kernel
theorem dX10_fits_9 : decode cX10_fits 9 = .ok (.getfield 48, 3) := by decide +kernel
theorem dX10_fits_12 : decode cX10_fits 12 = .ok (.aload_n 0, 1) := by decide +kernel
theorem dX10_fits_13 : decode cX10_fits 13 = .ok (.getfield 19, 3) := by decide +kernel
theorem dX10_fits_16 : decode cX10_fits 16 = .ok (.getfield 154, 3) := by decide +kernel
theorem dX10_fits_19 : decode cX10_fits 19 = .ok (.aload_n 0, 1) := by decide +kernel
theorem dX10_fits_20 : decode cX10_fits 20 = .ok (.getfield 19, 3) := by decide +kernel
theorem dX10_fits_23 : decode cX10_fits 23 = .ok (.getfield 189, 3) := by decide +kernel
theorem dX10_fits_26 : decode cX10_fits 26 = .ok (.iload_n 1, 1) := by decide +kernel
theorem dX10_fits_27 : decode cX10_fits 27 = .ok (.iaload, 1) := by decide +kernel
theorem dX10_fits_28 : decode cX10_fits 28 = .ok (.aaload, 1) := by decide +kernel
theorem dX10_fits_29 : decode cX10_fits 29 = .ok (.iload_n 1, 1) := by decide +kernel
theorem dX10_fits_30 : decode cX10_fits 30 = .ok (.invokevirtual 309, 3) := by decide +kernel
theorem dX10_fits_33 : decode cX10_fits 33 = .ok (.ifCond .eq 7, 3) := by decide +kernel
theorem dX10_fits_36 : decode cX10_fits 36 = .ok (.iconst 1, 1) := by decide +kernel
theorem dX10_fits_37 : decode cX10_fits 37 = .ok (.goto 4, 3) := by decide +kernel
theorem dX10_fits_40 : decode cX10_fits 40 = .ok (.iconst 0, 1) := by decide +kernel
theorem dX10_fits_41 : decode cX10_fits 41 = .ok (.ireturn, 1) := by decide +kernel
theorem dX10_flow_0 : decode cX10_flow 0 = .ok (.aload_n 0, 1) := by decide +kernel
theorem dX10_flow_1 : decode cX10_flow 1 = .ok (.iload_n 1, 1) := by decide +kernel
theorem dX10_flow_2 : decode cX10_flow 2 = .ok (.invokevirtual 144, 3) := by decide +kernel
theorem dX10_flow_5 : decode cX10_flow 5 = .ok (.ifCond .ne 5, 3) := by decide +kernel
theorem dX10_flow_8 : decode cX10_flow 8 = .ok (.iconst (-1), 1) := by decide +kernel
theorem dX10_flow_9 : decode cX10_flow 9 = .ok (.ireturn, 1) := by decide +kernel
theorem dX10_flow_10 : decode cX10_flow 10 = .ok (.iload_n 2, 1) := by decide +kernel
theorem dX10_flow_11 : decode cX10_flow 11 = .ok (.tableswitch 82 0 4 #[33, 43, 53, 62, 72], 33) := by decide +kernel
theorem dX10_flow_44 : decode cX10_flow 44 = .ok (.aload_n 0, 1) := by decide +kernel
theorem dX10_flow_45 : decode cX10_flow 45 = .ok (.getfield 19, 3) := by decide +kernel
theorem dX10_flow_48 : decode cX10_flow 48 = .ok (.getfield 189, 3) := by decide +kernel
theorem dX10_flow_51 : decode cX10_flow 51 = .ok (.iload_n 1, 1) := by decide +kernel
theorem dX10_flow_52 : decode cX10_flow 52 = .ok (.iaload, 1) := by decide +kernel
theorem dX10_flow_53 : decode cX10_flow 53 = .ok (.ireturn, 1) := by decide +kernel
theorem dX10_flow_54 : decode cX10_flow 54 = .ok (.aload_n 0, 1) := by decide +kernel
theorem dX10_flow_55 : decode cX10_flow 55 = .ok (.getfield 19, 3) := by decide +kernel
theorem dX10_flow_58 : decode cX10_flow 58 = .ok (.getfield 148, 3) := by decide +kernel
theorem dX10_flow_61 : decode cX10_flow 61 = .ok (.iload_n 1, 1) := by decide +kernel
theorem dX10_flow_62 : decode cX10_flow 62 = .ok (.iaload, 1) := by decide +kernel
theorem dX10_flow_63 : decode cX10_flow 63 = .ok (.ireturn, 1) := by decide +kernel
theorem dX10_flow_64 : decode cX10_flow 64 = .ok (.aload_n 0, 1) := by decide +kernel
theorem dX10_flow_65 : decode cX10_flow 65 = .ok (.getfield 48, 3) := by decide +kernel
theorem dX10_flow_68 : decode cX10_flow 68 = .ok (.iload_n 1, 1) := by decide +kernel
theorem dX10_flow_69 : decode cX10_flow 69 = .ok (.invokevirtual 192, 3) := by decide +kernel
theorem dX10_flow_72 : decode cX10_flow 72 = .ok (.ireturn, 1) := by decide +kernel
theorem dX10_flow_73 : decode cX10_flow 73 = .ok (.aload_n 0, 1) := by decide +kernel
theorem dX10_flow_74 : decode cX10_flow 74 = .ok (.getfield 48, 3) := by decide +kernel
theorem dX10_flow_77 : decode cX10_flow 77 = .ok (.getfield 196, 3) := by decide +kernel
theorem dX10_flow_80 : decode cX10_flow 80 = .ok (.iload_n 1, 1) := by decide +kernel
theorem dX10_flow_81 : decode cX10_flow 81 = .ok (.iaload, 1) := by decide +kernel
theorem dX10_flow_82 : decode cX10_flow 82 = .ok (.ireturn, 1) := by decide +kernel
theorem dX10_flow_83 : decode cX10_flow 83 = .ok (.aload_n 0, 1) := by decide +kernel
theorem dX10_flow_84 : decode cX10_flow 84 = .ok (.getfield 48, 3) := by decide +kernel
theorem dX10_flow_87 : decode cX10_flow 87 = .ok (.getfield 199, 3) := by decide +kernel
theorem dX10_flow_90 : decode cX10_flow 90 = .ok (.iload_n 1, 1) := by decide +kernel
theorem dX10_flow_91 : decode cX10_flow 91 = .ok (.iaload, 1) := by decide +kernel
theorem dX10_flow_92 : decode cX10_flow 92 = .ok (.ireturn, 1) := by decide +kernel
theorem dX10_flow_93 : decode cX10_flow 93 = .ok (.iconst (-1), 1) := by decide +kernel
theorem dX10_flow_94 : decode cX10_flow 94 = .ok (.ireturn, 1) := by decide +kernel
theorem dX10_fold_0 : decode cX10_fold 0 = .ok (.aload_n 0, 1) := by decide +kernel
theorem dX10_fold_1 : decode cX10_fold 1 = .ok (.iload_n 1, 1) := by decide +kernel
theorem dX10_fold_2 : decode cX10_fold 2 = .ok (.invokevirtual 151, 3) := by decide +kernel
theorem dX10_fold_5 : decode cX10_fold 5 = .ok (.ifCond .eq 20, 3) := by decide +kernel
theorem dX10_fold_8 : decode cX10_fold 8 = .ok (.aload_n 0, 1) := by decide +kernel
theorem dX10_fold_9 : decode cX10_fold 9 = .ok (.iload_n 2, 1) := by decide +kernel
theorem dX10_fold_10 : decode cX10_fold 10 = .ok (.invokevirtual 151, 3) := by decide +kernel
theorem dX10_fold_13 : decode cX10_fold 13 = .ok (.ifCond .eq 12, 3) := by decide +kernel
theorem dX10_fold_16 : decode cX10_fold 16 = .ok (.iload_n 3, 1) := by decide +kernel
theorem dX10_fold_17 : decode cX10_fold 17 = .ok (.bipush 120, 2) := by decide +kernel
theorem dX10_fold_19 : decode cX10_fold 19 = .ok (.invokestatic 210, 3) := by decide +kernel
theorem dX10_fold_22 : decode cX10_fold 22 = .ok (.ifCond .ne 5, 3) := by decide +kernel
theorem dX10_fold_25 : decode cX10_fold 25 = .ok (.iconst (-1), 1) := by decide +kernel
theorem dX10_fold_26 : decode cX10_fold 26 = .ok (.ireturn, 1) := by decide +kernel
theorem dX10_fold_27 : decode cX10_fold 27 = .ok (.aload_n 0, 1) := by decide +kernel
theorem dX10_fold_28 : decode cX10_fold 28 = .ok (.getfield 19, 3) := by decide +kernel
theorem dX10_fold_31 : decode cX10_fold 31 = .ok (.getfield 154, 3) := by decide +kernel
theorem dX10_fold_34 : decode cX10_fold 34 = .ok (.iload_n 1, 1) := by decide +kernel
theorem dX10_fold_35 : decode cX10_fold 35 = .ok (.aaload, 1) := by decide +kernel
theorem dX10_fold_36 : decode cX10_fold 36 = .ok (.aload_n 0, 1) := by decide +kernel
theorem dX10_fold_37 : decode cX10_fold 37 = .ok (.getfield 87, 3) := by decide +kernel
theorem dX10_fold_40 : decode cX10_fold 40 = .ok (.iconst 0, 1) := by decide +kernel
theorem dX10_fold_41 : decode cX10_fold 41 = .ok (.invokevirtual 216, 3) := by decide +kernel
theorem dX10_fold_44 : decode cX10_fold 44 = .ok (.aload_n 0, 1) := by decide +kernel
theorem dX10_fold_45 : decode cX10_fold 45 = .ok (.getfield 19, 3) := by decide +kernel
theorem dX10_fold_48 : decode cX10_fold 48 = .ok (.getfield 154, 3) := by decide +kernel
theorem dX10_fold_51 : decode cX10_fold 51 = .ok (.iload_n 2, 1) := by decide +kernel
theorem dX10_fold_52 : decode cX10_fold 52 = .ok (.aaload, 1) := by decide +kernel
theorem dX10_fold_53 : decode cX10_fold 53 = .ok (.aload_n 0, 1) := by decide +kernel
theorem dX10_fold_54 : decode cX10_fold 54 = .ok (.getfield 90, 3) := by decide +kernel
theorem dX10_fold_57 : decode cX10_fold 57 = .ok (.iconst 0, 1) := by decide +kernel
theorem dX10_fold_58 : decode cX10_fold 58 = .ok (.invokevirtual 216, 3) := by decide +kernel
theorem dX10_fold_61 : decode cX10_fold 61 = .ok (.aload_n 0, 1) := by decide +kernel
theorem dX10_fold_62 : decode cX10_fold 62 = .ok (.getfield 87, 3) := by decide +kernel
theorem dX10_fold_65 : decode cX10_fold 65 = .ok (.aload_n 0, 1) := by decide +kernel
theorem dX10_fold_66 : decode cX10_fold 66 = .ok (.getfield 90, 3) := by decide +kernel
theorem dX10_fold_69 : decode cX10_fold 69 = .ok (.iload_n 3, 1) := by decide +kernel
theorem dX10_fold_70 : decode cX10_fold 70 = .ok (.invokestatic 220, 3) := by decide +kernel
theorem dX10_fold_73 : decode cX10_fold 73 = .ok (.ireturn, 1) := by decide +kernel
theorem dX10_foldOn_0 : decode cX10_foldOn 0 = .ok (.iload_n 3, 1) := by decide +kernel
theorem dX10_foldOn_1 : decode cX10_foldOn 1 = .ok (.ifCond .eq 17, 3) := by decide +kernel
theorem dX10_foldOn_4 : decode cX10_foldOn 4 = .ok (.aload_n 0, 1) := by decide +kernel
theorem dX10_foldOn_5 : decode cX10_foldOn 5 = .ok (.getfield 79, 3) := by decide +kernel
theorem dX10_foldOn_8 : decode cX10_foldOn 8 = .ok (.iload_n 1, 1) := by decide +kernel
theorem dX10_foldOn_9 : decode cX10_foldOn 9 = .ok (.iload_n 2, 1) := by decide +kernel
theorem dX10_foldOn_10 : decode cX10_foldOn 10 = .ok (.aload_n 0, 1) := by decide +kernel
theorem dX10_foldOn_11 : decode cX10_foldOn 11 = .ok (.getfield 87, 3) := by decide +kernel
theorem dX10_foldOn_14 : decode cX10_foldOn 14 = .ok (.invokevirtual 257, 3) := by decide +kernel
theorem dX10_foldOn_17 : decode cX10_foldOn 17 = .ok (.return_, 1) := by decide +kernel
theorem dX10_foldOn_18 : decode cX10_foldOn 18 = .ok (.aload_n 0, 1) := by decide +kernel
theorem dX10_foldOn_19 : decode cX10_foldOn 19 = .ok (.getfield 79, 3) := by decide +kernel
theorem dX10_foldOn_22 : decode cX10_foldOn 22 = .ok (.iload_n 1, 1) := by decide +kernel
theorem dX10_foldOn_23 : decode cX10_foldOn 23 = .ok (.iload_n 2, 1) := by decide +kernel
theorem dX10_foldOn_24 : decode cX10_foldOn 24 = .ok (.aload_n 0, 1) := by decide +kernel
theorem dX10_foldOn_25 : decode cX10_foldOn 25 = .ok (.getfield 90, 3) := by decide +kernel
theorem dX10_foldOn_28 : decode cX10_foldOn 28 = .ok (.invokevirtual 257, 3) := by decide +kernel
theorem dX10_foldOn_31 : decode cX10_foldOn 31 = .ok (.iconst 0, 1) := by decide +kernel
theorem dX10_foldOn_32 : decode cX10_foldOn 32 = .ok (.istore 4, 2) := by decide +kernel
theorem dX10_foldOn_34 : decode cX10_foldOn 34 = .ok (.iload 4, 2) := by decide +kernel
theorem dX10_foldOn_36 : decode cX10_foldOn 36 = .ok (.bipush 120, 2) := by decide +kernel
theorem dX10_foldOn_38 : decode cX10_foldOn 38 = .ok (.if_icmp .gt 29, 3) := by decide +kernel
theorem dX10_foldOn_41 : decode cX10_foldOn 41 = .ok (.aload_n 0, 1) := by decide +kernel
theorem dX10_foldOn_42 : decode cX10_foldOn 42 = .ok (.getfield 93, 3) := by decide +kernel
theorem dX10_foldOn_45 : decode cX10_foldOn 45 = .ok (.iload 4, 2) := by decide +kernel
theorem dX10_foldOn_47 : decode cX10_foldOn 47 = .ok (.aload_n 0, 1) := by decide +kernel
theorem dX10_foldOn_48 : decode cX10_foldOn 48 = .ok (.getfield 87, 3) := by decide +kernel
theorem dX10_foldOn_51 : decode cX10_foldOn 51 = .ok (.aload_n 0, 1) := by decide +kernel
theorem dX10_foldOn_52 : decode cX10_foldOn 52 = .ok (.getfield 90, 3) := by decide +kernel
theorem dX10_foldOn_55 : decode cX10_foldOn 55 = .ok (.iload 4, 2) := by decide +kernel
theorem dX10_foldOn_57 : decode cX10_foldOn 57 = .ok (.invokestatic 220, 3) := by decide +kernel
theorem dX10_foldOn_60 : decode cX10_foldOn 60 = .ok (.iastore, 1) := by decide +kernel
theorem dX10_foldOn_61 : decode cX10_foldOn 61 = .ok (.iinc 4 1, 3) := by decide +kernel
theorem dX10_foldOn_64 : decode cX10_foldOn 64 = .ok (.goto (-30), 3) := by decide +kernel
theorem dX10_foldOn_67 : decode cX10_foldOn 67 = .ok (.aload_n 0, 1) := by decide +kernel
theorem dX10_foldOn_68 : decode cX10_foldOn 68 = .ok (.getfield 93, 3) := by decide +kernel
theorem dX10_foldOn_71 : decode cX10_foldOn 71 = .ok (.iconst 0, 1) := by decide +kernel
theorem dX10_foldOn_72 : decode cX10_foldOn 72 = .ok (.aload_n 0, 1) := by decide +kernel
theorem dX10_foldOn_73 : decode cX10_foldOn 73 = .ok (.getfield 87, 3) := by decide +kernel
theorem dX10_foldOn_76 : decode cX10_foldOn 76 = .ok (.iconst 0, 1) := by decide +kernel
theorem dX10_foldOn_77 : decode cX10_foldOn 77 = .ok (.bipush 121, 2) := by decide +kernel
theorem dX10_foldOn_79 : decode cX10_foldOn 79 = .ok (.invokestatic 271, 3) := by decide +kernel
theorem dX10_foldOn_82 : decode cX10_foldOn 82 = .ok (.return_, 1) := by decide +kernel
theorem dX10_foldedAt_0 : decode cX10_foldedAt 0 = .ok (.aload_n 0, 1) := by decide +kernel
theorem dX10_foldedAt_1 : decode cX10_foldedAt 1 = .ok (.iconst 0, 1) := by decide +kernel
theorem dX10_foldedAt_2 : decode cX10_foldedAt 2 = .ok (.iaload, 1) := by decide +kernel
theorem dX10_foldedAt_3 : decode cX10_foldedAt 3 = .ok (.aload_n 1, 1) := by decide +kernel
theorem dX10_foldedAt_4 : decode cX10_foldedAt 4 = .ok (.iload_n 2, 1) := by decide +kernel
theorem dX10_foldedAt_5 : decode cX10_foldedAt 5 = .ok (.iaload, 1) := by decide +kernel
theorem dX10_foldedAt_6 : decode cX10_foldedAt 6 = .ok (.iadd, 1) := by decide +kernel
theorem dX10_foldedAt_7 : decode cX10_foldedAt 7 = .ok (.istore_n 3, 1) := by decide +kernel
theorem dX10_foldedAt_8 : decode cX10_foldedAt 8 = .ok (.iconst 1, 1) := by decide +kernel
theorem dX10_foldedAt_9 : decode cX10_foldedAt 9 = .ok (.istore 4, 2) := by decide +kernel
theorem dX10_foldedAt_11 : decode cX10_foldedAt 11 = .ok (.iload 4, 2) := by decide +kernel
theorem dX10_foldedAt_13 : decode cX10_foldedAt 13 = .ok (.iload_n 2, 1) := by decide +kernel
theorem dX10_foldedAt_14 : decode cX10_foldedAt 14 = .ok (.if_icmp .gt 25, 3) := by decide +kernel
theorem dX10_foldedAt_17 : decode cX10_foldedAt 17 = .ok (.iload_n 3, 1) := by decide +kernel
theorem dX10_foldedAt_18 : decode cX10_foldedAt 18 = .ok (.aload_n 0, 1) := by decide +kernel
theorem dX10_foldedAt_19 : decode cX10_foldedAt 19 = .ok (.iload 4, 2) := by decide +kernel
theorem dX10_foldedAt_21 : decode cX10_foldedAt 21 = .ok (.iaload, 1) := by decide +kernel
theorem dX10_foldedAt_22 : decode cX10_foldedAt 22 = .ok (.aload_n 1, 1) := by decide +kernel
theorem dX10_foldedAt_23 : decode cX10_foldedAt 23 = .ok (.iload_n 2, 1) := by decide +kernel
theorem dX10_foldedAt_24 : decode cX10_foldedAt 24 = .ok (.iload 4, 2) := by decide +kernel
theorem dX10_foldedAt_26 : decode cX10_foldedAt 26 = .ok (.isub, 1) := by decide +kernel
theorem dX10_foldedAt_27 : decode cX10_foldedAt 27 = .ok (.iaload, 1) := by decide +kernel
theorem dX10_foldedAt_28 : decode cX10_foldedAt 28 = .ok (.iadd, 1) := by decide +kernel
theorem dX10_foldedAt_29 : decode cX10_foldedAt 29 = .ok (.invokestatic 224, 3) := by decide +kernel
theorem dX10_foldedAt_32 : decode cX10_foldedAt 32 = .ok (.istore_n 3, 1) := by decide +kernel
theorem dX10_foldedAt_33 : decode cX10_foldedAt 33 = .ok (.iinc 4 1, 3) := by decide +kernel
theorem dX10_foldedAt_36 : decode cX10_foldedAt 36 = .ok (.goto (-25), 3) := by decide +kernel
theorem dX10_foldedAt_39 : decode cX10_foldedAt 39 = .ok (.iload_n 3, 1) := by decide +kernel
theorem dX10_foldedAt_40 : decode cX10_foldedAt 40 = .ok (.ireturn, 1) := by decide +kernel
theorem dX10_full_0 : decode cX10_full 0 = .ok (.aload_n 0, 1) := by decide +kernel
theorem dX10_full_1 : decode cX10_full 1 = .ok (.iload_n 1, 1) := by decide +kernel
theorem dX10_full_2 : decode cX10_full 2 = .ok (.invokevirtual 171, 3) := by decide +kernel
theorem dX10_full_5 : decode cX10_full 5 = .ok (.ifCond .eq 10, 3) := by decide +kernel
theorem dX10_full_8 : decode cX10_full 8 = .ok (.aload_n 0, 1) := by decide +kernel
theorem dX10_full_9 : decode cX10_full 9 = .ok (.invokevirtual 246, 3) := by decide +kernel
theorem dX10_full_12 : decode cX10_full 12 = .ok (.ifCond .eq 5, 3) := by decide +kernel
theorem dX10_full_15 : decode cX10_full 15 = .ok (.iconst (-1), 1) := by decide +kernel
theorem dX10_full_16 : decode cX10_full 16 = .ok (.ireturn, 1) := by decide +kernel
theorem dX10_full_17 : decode cX10_full 17 = .ok (.aload_n 0, 1) := by decide +kernel
theorem dX10_full_18 : decode cX10_full 18 = .ok (.getfield 79, 3) := by decide +kernel
theorem dX10_full_21 : decode cX10_full 21 = .ok (.iload_n 1, 1) := by decide +kernel
theorem dX10_full_22 : decode cX10_full 22 = .ok (.aload_n 0, 1) := by decide +kernel
theorem dX10_full_23 : decode cX10_full 23 = .ok (.getfield 87, 3) := by decide +kernel
theorem dX10_full_26 : decode cX10_full 26 = .ok (.invokevirtual 277, 3) := by decide +kernel
theorem dX10_full_29 : decode cX10_full 29 = .ok (.aload_n 0, 1) := by decide +kernel
theorem dX10_full_30 : decode cX10_full 30 = .ok (.getfield 19, 3) := by decide +kernel
theorem dX10_full_33 : decode cX10_full 33 = .ok (.getfield 154, 3) := by decide +kernel
theorem dX10_full_36 : decode cX10_full 36 = .ok (.aload_n 0, 1) := by decide +kernel
theorem dX10_full_37 : decode cX10_full 37 = .ok (.getfield 19, 3) := by decide +kernel
theorem dX10_full_40 : decode cX10_full 40 = .ok (.getfield 177, 3) := by decide +kernel
theorem dX10_full_43 : decode cX10_full 43 = .ok (.iload_n 1, 1) := by decide +kernel
theorem dX10_full_44 : decode cX10_full 44 = .ok (.iaload, 1) := by decide +kernel
theorem dX10_full_45 : decode cX10_full 45 = .ok (.aaload, 1) := by decide +kernel
theorem dX10_full_46 : decode cX10_full 46 = .ok (.aload_n 0, 1) := by decide +kernel
theorem dX10_full_47 : decode cX10_full 47 = .ok (.getfield 90, 3) := by decide +kernel
theorem dX10_full_50 : decode cX10_full 50 = .ok (.iconst 0, 1) := by decide +kernel
theorem dX10_full_51 : decode cX10_full 51 = .ok (.invokevirtual 216, 3) := by decide +kernel
theorem dX10_full_54 : decode cX10_full 54 = .ok (.iconst 0, 1) := by decide +kernel
theorem dX10_full_55 : decode cX10_full 55 = .ok (.aload_n 0, 1) := by decide +kernel
theorem dX10_full_56 : decode cX10_full 56 = .ok (.getfield 87, 3) := by decide +kernel
theorem dX10_full_59 : decode cX10_full 59 = .ok (.aload_n 0, 1) := by decide +kernel
theorem dX10_full_60 : decode cX10_full 60 = .ok (.getfield 90, 3) := by decide +kernel
theorem dX10_full_63 : decode cX10_full 63 = .ok (.invokestatic 240, 3) := by decide +kernel
theorem dX10_full_66 : decode cX10_full 66 = .ok (.invokestatic 233, 3) := by decide +kernel
theorem dX10_full_69 : decode cX10_full 69 = .ok (.ireturn, 1) := by decide +kernel
theorem dX10_holds_0 : decode cX10_holds 0 = .ok (.aload_n 0, 1) := by decide +kernel
theorem dX10_holds_1 : decode cX10_holds 1 = .ok (.iload_n 1, 1) := by decide +kernel
theorem dX10_holds_2 : decode cX10_holds 2 = .ok (.invokevirtual 144, 3) := by decide +kernel
theorem dX10_holds_5 : decode cX10_holds 5 = .ok (.ifCond .eq 34, 3) := by decide +kernel
theorem dX10_holds_8 : decode cX10_holds 8 = .ok (.aload_n 0, 1) := by decide +kernel
theorem dX10_holds_9 : decode cX10_holds 9 = .ok (.invokevirtual 246, 3) := by decide +kernel
theorem dX10_holds_12 : decode cX10_holds 12 = .ok (.ifCond .ne 23, 3) := by decide +kernel
theorem dX10_holds_15 : decode cX10_holds 15 = .ok (.aload_n 0, 1) := by decide +kernel
theorem dX10_holds_16 : decode cX10_holds 16 = .ok (.getfield 48, 3) := by decide +kernel
theorem dX10_holds_19 : decode cX10_holds 19 = .ok (.getfield 313, 3) := by decide +kernel
theorem dX10_holds_22 : decode cX10_holds 22 = .ok (.iload_n 1, 1) := by decide +kernel
theorem dX10_holds_23 : decode cX10_holds 23 = .ok (.iaload, 1) := by decide +kernel
theorem dX10_holds_24 : decode cX10_holds 24 = .ok (.aload_n 0, 1) := by decide +kernel
theorem dX10_holds_25 : decode cX10_holds 25 = .ok (.getfield 79, 3) := by decide +kernel
theorem dX10_holds_28 : decode cX10_holds 28 = .ok (.iload_n 1, 1) := by decide +kernel
theorem dX10_holds_29 : decode cX10_holds 29 = .ok (.invokevirtual 261, 3) := by decide +kernel
theorem dX10_holds_32 : decode cX10_holds 32 = .ok (.if_icmp .gt 7, 3) := by decide +kernel
theorem dX10_holds_35 : decode cX10_holds 35 = .ok (.iconst 1, 1) := by decide +kernel
theorem dX10_holds_36 : decode cX10_holds 36 = .ok (.goto 4, 3) := by decide +kernel
theorem dX10_holds_39 : decode cX10_holds 39 = .ok (.iconst 0, 1) := by decide +kernel
theorem dX10_holds_40 : decode cX10_holds 40 = .ok (.ireturn, 1) := by decide +kernel
theorem dX10_init_0 : decode cX10_init 0 = .ok (.aload_n 0, 1) := by decide +kernel
theorem dX10_init_1 : decode cX10_init 1 = .ok (.invokespecial 1, 3) := by decide +kernel
theorem dX10_init_4 : decode cX10_init 4 = .ok (.aload_n 0, 1) := by decide +kernel
theorem dX10_init_5 : decode cX10_init 5 = .ok (.new 7, 3) := by decide +kernel
theorem dX10_init_8 : decode cX10_init 8 = .ok (.dup, 1) := by decide +kernel
theorem dX10_init_9 : decode cX10_init 9 = .ok (.invokespecial 9, 3) := by decide +kernel
theorem dX10_init_12 : decode cX10_init 12 = .ok (.putfield 10, 3) := by decide +kernel
theorem dX10_init_15 : decode cX10_init 15 = .ok (.aload_n 0, 1) := by decide +kernel
theorem dX10_init_16 : decode cX10_init 16 = .ok (.new 16, 3) := by decide +kernel
theorem dX10_init_19 : decode cX10_init 19 = .ok (.dup, 1) := by decide +kernel
theorem dX10_init_20 : decode cX10_init 20 = .ok (.invokespecial 18, 3) := by decide +kernel
theorem dX10_init_23 : decode cX10_init 23 = .ok (.putfield 19, 3) := by decide +kernel
theorem dX10_init_26 : decode cX10_init 26 = .ok (.aload_n 0, 1) := by decide +kernel
theorem dX10_init_27 : decode cX10_init 27 = .ok (.new 16, 3) := by decide +kernel
theorem dX10_init_30 : decode cX10_init 30 = .ok (.dup, 1) := by decide +kernel
theorem dX10_init_31 : decode cX10_init 31 = .ok (.invokespecial 18, 3) := by decide +kernel
theorem dX10_init_34 : decode cX10_init 34 = .ok (.putfield 23, 3) := by decide +kernel
theorem dX10_init_37 : decode cX10_init 37 = .ok (.aload_n 0, 1) := by decide +kernel
theorem dX10_init_38 : decode cX10_init 38 = .ok (.new 26, 3) := by decide +kernel
theorem dX10_init_41 : decode cX10_init 41 = .ok (.dup, 1) := by decide +kernel
theorem dX10_init_42 : decode cX10_init 42 = .ok (.aload_n 0, 1) := by decide +kernel
theorem dX10_init_43 : decode cX10_init 43 = .ok (.getfield 10, 3) := by decide +kernel
theorem dX10_init_46 : decode cX10_init 46 = .ok (.aload_n 0, 1) := by decide +kernel
theorem dX10_init_47 : decode cX10_init 47 = .ok (.getfield 23, 3) := by decide +kernel
theorem dX10_init_50 : decode cX10_init 50 = .ok (.invokespecial 28, 3) := by decide +kernel
theorem dX10_init_53 : decode cX10_init 53 = .ok (.putfield 31, 3) := by decide +kernel
theorem dX10_init_56 : decode cX10_init 56 = .ok (.aload_n 0, 1) := by decide +kernel
theorem dX10_init_57 : decode cX10_init 57 = .ok (.new 35, 3) := by decide +kernel
theorem dX10_init_60 : decode cX10_init 60 = .ok (.dup, 1) := by decide +kernel
theorem dX10_init_61 : decode cX10_init 61 = .ok (.invokespecial 37, 3) := by decide +kernel
theorem dX10_init_64 : decode cX10_init 64 = .ok (.putfield 38, 3) := by decide +kernel
theorem dX10_init_67 : decode cX10_init 67 = .ok (.aload_n 0, 1) := by decide +kernel
theorem dX10_init_68 : decode cX10_init 68 = .ok (.new 35, 3) := by decide +kernel
theorem dX10_init_71 : decode cX10_init 71 = .ok (.dup, 1) := by decide +kernel
theorem dX10_init_72 : decode cX10_init 72 = .ok (.invokespecial 37, 3) := by decide +kernel
theorem dX10_init_75 : decode cX10_init 75 = .ok (.putfield 42, 3) := by decide +kernel
theorem dX10_init_78 : decode cX10_init 78 = .ok (.aload_n 0, 1) := by decide +kernel
theorem dX10_init_79 : decode cX10_init 79 = .ok (.new 45, 3) := by decide +kernel
theorem dX10_init_82 : decode cX10_init 82 = .ok (.dup, 1) := by decide +kernel
theorem dX10_init_83 : decode cX10_init 83 = .ok (.invokespecial 47, 3) := by decide +kernel
theorem dX10_init_86 : decode cX10_init 86 = .ok (.putfield 48, 3) := by decide +kernel
theorem dX10_init_89 : decode cX10_init 89 = .ok (.aload_n 0, 1) := by decide +kernel
theorem dX10_init_90 : decode cX10_init 90 = .ok (.new 45, 3) := by decide +kernel
theorem dX10_init_93 : decode cX10_init 93 = .ok (.dup, 1) := by decide +kernel
theorem dX10_init_94 : decode cX10_init 94 = .ok (.invokespecial 47, 3) := by decide +kernel
theorem dX10_init_97 : decode cX10_init 97 = .ok (.putfield 52, 3) := by decide +kernel
theorem dX10_init_100 : decode cX10_init 100 = .ok (.aload_n 0, 1) := by decide +kernel
theorem dX10_init_101 : decode cX10_init 101 = .ok (.new 55, 3) := by decide +kernel
theorem dX10_init_104 : decode cX10_init 104 = .ok (.dup, 1) := by decide +kernel
theorem dX10_init_105 : decode cX10_init 105 = .ok (.invokespecial 57, 3) := by decide +kernel
theorem dX10_init_108 : decode cX10_init 108 = .ok (.putfield 58, 3) := by decide +kernel
theorem dX10_init_111 : decode cX10_init 111 = .ok (.aload_n 0, 1) := by decide +kernel
theorem dX10_init_112 : decode cX10_init 112 = .ok (.iconst 2, 1) := by decide +kernel
theorem dX10_init_113 : decode cX10_init 113 = .ok (.anewarray 45, 3) := by decide +kernel
theorem dX10_init_116 : decode cX10_init 116 = .ok (.putfield 62, 3) := by decide +kernel
theorem dX10_init_119 : decode cX10_init 119 = .ok (.aload_n 0, 1) := by decide +kernel
theorem dX10_init_120 : decode cX10_init 120 = .ok (.iconst 2, 1) := by decide +kernel
theorem dX10_init_121 : decode cX10_init 121 = .ok (.anewarray 55, 3) := by decide +kernel
theorem dX10_init_124 : decode cX10_init 124 = .ok (.putfield 66, 3) := by decide +kernel
theorem dX10_init_127 : decode cX10_init 127 = .ok (.iconst 0, 1) := by decide +kernel
theorem dX10_init_128 : decode cX10_init 128 = .ok (.istore_n 1, 1) := by decide +kernel
theorem dX10_init_129 : decode cX10_init 129 = .ok (.iload_n 1, 1) := by decide +kernel
theorem dX10_init_130 : decode cX10_init 130 = .ok (.iconst 2, 1) := by decide +kernel
theorem dX10_init_131 : decode cX10_init 131 = .ok (.if_icmp .ge 35, 3) := by decide +kernel
theorem dX10_init_134 : decode cX10_init 134 = .ok (.aload_n 0, 1) := by decide +kernel
theorem dX10_init_135 : decode cX10_init 135 = .ok (.getfield 62, 3) := by decide +kernel
theorem dX10_init_138 : decode cX10_init 138 = .ok (.iload_n 1, 1) := by decide +kernel
theorem dX10_init_139 : decode cX10_init 139 = .ok (.new 45, 3) := by decide +kernel
theorem dX10_init_142 : decode cX10_init 142 = .ok (.dup, 1) := by decide +kernel
theorem dX10_init_143 : decode cX10_init 143 = .ok (.invokespecial 47, 3) := by decide +kernel
theorem dX10_init_146 : decode cX10_init 146 = .ok (.aastore, 1) := by decide +kernel
theorem dX10_init_147 : decode cX10_init 147 = .ok (.aload_n 0, 1) := by decide +kernel
theorem dX10_init_148 : decode cX10_init 148 = .ok (.getfield 66, 3) := by decide +kernel
theorem dX10_init_151 : decode cX10_init 151 = .ok (.iload_n 1, 1) := by decide +kernel
theorem dX10_init_152 : decode cX10_init 152 = .ok (.new 55, 3) := by decide +kernel
theorem dX10_init_155 : decode cX10_init 155 = .ok (.dup, 1) := by decide +kernel
theorem dX10_init_156 : decode cX10_init 156 = .ok (.invokespecial 57, 3) := by decide +kernel
theorem dX10_init_159 : decode cX10_init 159 = .ok (.aastore, 1) := by decide +kernel
theorem dX10_init_160 : decode cX10_init 160 = .ok (.iinc 1 1, 3) := by decide +kernel
theorem dX10_init_163 : decode cX10_init 163 = .ok (.goto (-34), 3) := by decide +kernel
theorem dX10_init_166 : decode cX10_init 166 = .ok (.aload_n 0, 1) := by decide +kernel
theorem dX10_init_167 : decode cX10_init 167 = .ok (.iconst 2, 1) := by decide +kernel
theorem dX10_init_168 : decode cX10_init 168 = .ok (.newarray .boolean, 2) := by decide +kernel
theorem dX10_init_170 : decode cX10_init 170 = .ok (.putfield 70, 3) := by decide +kernel
theorem dX10_init_173 : decode cX10_init 173 = .ok (.aload_n 0, 1) := by decide +kernel
theorem dX10_init_174 : decode cX10_init 174 = .ok (.new 74, 3) := by decide +kernel
theorem dX10_init_177 : decode cX10_init 177 = .ok (.dup, 1) := by decide +kernel
theorem dX10_init_178 : decode cX10_init 178 = .ok (.aload_n 0, 1) := by decide +kernel
theorem dX10_init_179 : decode cX10_init 179 = .ok (.getfield 19, 3) := by decide +kernel
theorem dX10_init_182 : decode cX10_init 182 = .ok (.invokespecial 76, 3) := by decide +kernel
theorem dX10_init_185 : decode cX10_init 185 = .ok (.putfield 79, 3) := by decide +kernel
theorem dX10_init_188 : decode cX10_init 188 = .ok (.aload_n 0, 1) := by decide +kernel
theorem dX10_init_189 : decode cX10_init 189 = .ok (.bipush 96, 2) := by decide +kernel
theorem dX10_init_191 : decode cX10_init 191 = .ok (.newarray .int, 2) := by decide +kernel
theorem dX10_init_193 : decode cX10_init 193 = .ok (.putfield 83, 3) := by decide +kernel
theorem dX10_init_196 : decode cX10_init 196 = .ok (.aload_n 0, 1) := by decide +kernel
theorem dX10_init_197 : decode cX10_init 197 = .ok (.bipush 121, 2) := by decide +kernel
theorem dX10_init_199 : decode cX10_init 199 = .ok (.newarray .int, 2) := by decide +kernel
theorem dX10_init_201 : decode cX10_init 201 = .ok (.putfield 87, 3) := by decide +kernel
theorem dX10_init_204 : decode cX10_init 204 = .ok (.aload_n 0, 1) := by decide +kernel
theorem dX10_init_205 : decode cX10_init 205 = .ok (.bipush 121, 2) := by decide +kernel
theorem dX10_init_207 : decode cX10_init 207 = .ok (.newarray .int, 2) := by decide +kernel
theorem dX10_init_209 : decode cX10_init 209 = .ok (.putfield 90, 3) := by decide +kernel
theorem dX10_init_212 : decode cX10_init 212 = .ok (.aload_n 0, 1) := by decide +kernel
theorem dX10_init_213 : decode cX10_init 213 = .ok (.bipush 121, 2) := by decide +kernel
theorem dX10_init_215 : decode cX10_init 215 = .ok (.newarray .int, 2) := by decide +kernel
theorem dX10_init_217 : decode cX10_init 217 = .ok (.putfield 93, 3) := by decide +kernel
theorem dX10_init_220 : decode cX10_init 220 = .ok (.return_, 1) := by decide +kernel
theorem dX10_isCurve_0 : decode cX10_isCurve 0 = .ok (.iload_n 1, 1) := by decide +kernel
theorem dX10_isCurve_1 : decode cX10_isCurve 1 = .ok (.ifCond .lt 18, 3) := by decide +kernel
theorem dX10_isCurve_4 : decode cX10_isCurve 4 = .ok (.iload_n 1, 1) := by decide +kernel
theorem dX10_isCurve_5 : decode cX10_isCurve 5 = .ok (.aload_n 0, 1) := by decide +kernel
theorem dX10_isCurve_6 : decode cX10_isCurve 6 = .ok (.getfield 19, 3) := by decide +kernel
theorem dX10_isCurve_9 : decode cX10_isCurve 9 = .ok (.getfield 135, 3) := by decide +kernel
theorem dX10_isCurve_12 : decode cX10_isCurve 12 = .ok (.if_icmp .ge 7, 3) := by decide +kernel
theorem dX10_isCurve_15 : decode cX10_isCurve 15 = .ok (.iconst 1, 1) := by decide +kernel
theorem dX10_isCurve_16 : decode cX10_isCurve 16 = .ok (.goto 4, 3) := by decide +kernel
theorem dX10_isCurve_19 : decode cX10_isCurve 19 = .ok (.iconst 0, 1) := by decide +kernel
theorem dX10_isCurve_20 : decode cX10_isCurve 20 = .ok (.ireturn, 1) := by decide +kernel
theorem dX10_isFlow_0 : decode cX10_isFlow 0 = .ok (.iload_n 1, 1) := by decide +kernel
theorem dX10_isFlow_1 : decode cX10_isFlow 1 = .ok (.ifCond .lt 18, 3) := by decide +kernel
theorem dX10_isFlow_4 : decode cX10_isFlow 4 = .ok (.iload_n 1, 1) := by decide +kernel
theorem dX10_isFlow_5 : decode cX10_isFlow 5 = .ok (.aload_n 0, 1) := by decide +kernel
theorem dX10_isFlow_6 : decode cX10_isFlow 6 = .ok (.getfield 19, 3) := by decide +kernel
theorem dX10_isFlow_9 : decode cX10_isFlow 9 = .ok (.getfield 141, 3) := by decide +kernel
theorem dX10_isFlow_12 : decode cX10_isFlow 12 = .ok (.if_icmp .ge 7, 3) := by decide +kernel
theorem dX10_isFlow_15 : decode cX10_isFlow 15 = .ok (.iconst 1, 1) := by decide +kernel
theorem dX10_isFlow_16 : decode cX10_isFlow 16 = .ok (.goto 4, 3) := by decide +kernel
theorem dX10_isFlow_19 : decode cX10_isFlow 19 = .ok (.iconst 0, 1) := by decide +kernel
theorem dX10_isFlow_20 : decode cX10_isFlow 20 = .ok (.ireturn, 1) := by decide +kernel
theorem dX10_isHop_0 : decode cX10_isHop 0 = .ok (.aload_n 0, 1) := by decide +kernel
theorem dX10_isHop_1 : decode cX10_isHop 1 = .ok (.iload_n 1, 1) := by decide +kernel
theorem dX10_isHop_2 : decode cX10_isHop 2 = .ok (.invokevirtual 144, 3) := by decide +kernel
theorem dX10_isHop_5 : decode cX10_isHop 5 = .ok (.ifCond .eq 24, 3) := by decide +kernel
theorem dX10_isHop_8 : decode cX10_isHop 8 = .ok (.iload_n 2, 1) := by decide +kernel
theorem dX10_isHop_9 : decode cX10_isHop 9 = .ok (.ifCond .lt 20, 3) := by decide +kernel
theorem dX10_isHop_12 : decode cX10_isHop 12 = .ok (.iload_n 2, 1) := by decide +kernel
theorem dX10_isHop_13 : decode cX10_isHop 13 = .ok (.aload_n 0, 1) := by decide +kernel
theorem dX10_isHop_14 : decode cX10_isHop 14 = .ok (.getfield 19, 3) := by decide +kernel
theorem dX10_isHop_17 : decode cX10_isHop 17 = .ok (.getfield 148, 3) := by decide +kernel
theorem dX10_isHop_20 : decode cX10_isHop 20 = .ok (.iload_n 1, 1) := by decide +kernel
theorem dX10_isHop_21 : decode cX10_isHop 21 = .ok (.iaload, 1) := by decide +kernel
theorem dX10_isHop_22 : decode cX10_isHop 22 = .ok (.if_icmp .ge 7, 3) := by decide +kernel
theorem dX10_isHop_25 : decode cX10_isHop 25 = .ok (.iconst 1, 1) := by decide +kernel
theorem dX10_isHop_26 : decode cX10_isHop 26 = .ok (.goto 4, 3) := by decide +kernel
theorem dX10_isHop_29 : decode cX10_isHop 29 = .ok (.iconst 0, 1) := by decide +kernel
theorem dX10_isHop_30 : decode cX10_isHop 30 = .ok (.ireturn, 1) := by decide +kernel
theorem dX10_isNode_0 : decode cX10_isNode 0 = .ok (.iload_n 1, 1) := by decide +kernel
theorem dX10_isNode_1 : decode cX10_isNode 1 = .ok (.ifCond .lt 18, 3) := by decide +kernel
theorem dX10_isNode_4 : decode cX10_isNode 4 = .ok (.iload_n 1, 1) := by decide +kernel
theorem dX10_isNode_5 : decode cX10_isNode 5 = .ok (.aload_n 0, 1) := by decide +kernel
theorem dX10_isNode_6 : decode cX10_isNode 6 = .ok (.getfield 19, 3) := by decide +kernel
theorem dX10_isNode_9 : decode cX10_isNode 9 = .ok (.getfield 138, 3) := by decide +kernel
theorem dX10_isNode_12 : decode cX10_isNode 12 = .ok (.if_icmp .ge 7, 3) := by decide +kernel
theorem dX10_isNode_15 : decode cX10_isNode 15 = .ok (.iconst 1, 1) := by decide +kernel
theorem dX10_isNode_16 : decode cX10_isNode 16 = .ok (.goto 4, 3) := by decide +kernel
theorem dX10_isNode_19 : decode cX10_isNode 19 = .ok (.iconst 0, 1) := by decide +kernel
theorem dX10_isNode_20 : decode cX10_isNode 20 = .ok (.ireturn, 1) := by decide +kernel
theorem dX10_isWithin_0 : decode cX10_isWithin 0 = .ok (.iload_n 0, 1) := by decide +kernel
theorem dX10_isWithin_1 : decode cX10_isWithin 1 = .ok (.ifCond .lt 12, 3) := by decide +kernel
theorem dX10_isWithin_4 : decode cX10_isWithin 4 = .ok (.iload_n 0, 1) := by decide +kernel
theorem dX10_isWithin_5 : decode cX10_isWithin 5 = .ok (.iload_n 1, 1) := by decide +kernel
theorem dX10_isWithin_6 : decode cX10_isWithin 6 = .ok (.if_icmp .gt 7, 3) := by decide +kernel
theorem dX10_isWithin_9 : decode cX10_isWithin 9 = .ok (.iconst 1, 1) := by decide +kernel
theorem dX10_isWithin_10 : decode cX10_isWithin 10 = .ok (.goto 4, 3) := by decide +kernel
theorem dX10_isWithin_13 : decode cX10_isWithin 13 = .ok (.iconst 0, 1) := by decide +kernel
theorem dX10_isWithin_14 : decode cX10_isWithin 14 = .ok (.ireturn, 1) := by decide +kernel
theorem dX10_judged_0 : decode cX10_judged 0 = .ok (.iload_n 1, 1) := by decide +kernel
theorem dX10_judged_1 : decode cX10_judged 1 = .ok (.ifCond .lt 8, 3) := by decide +kernel
theorem dX10_judged_4 : decode cX10_judged 4 = .ok (.iload_n 1, 1) := by decide +kernel
theorem dX10_judged_5 : decode cX10_judged 5 = .ok (.iconst 3, 1) := by decide +kernel
theorem dX10_judged_6 : decode cX10_judged 6 = .ok (.if_icmp .le 6, 3) := by decide +kernel
theorem dX10_judged_9 : decode cX10_judged 9 = .ok (.bipush (-2), 2) := by decide +kernel
theorem dX10_judged_11 : decode cX10_judged 11 = .ok (.ireturn, 1) := by decide +kernel
theorem dX10_judged_12 : decode cX10_judged 12 = .ok (.aload_n 0, 1) := by decide +kernel
theorem dX10_judged_13 : decode cX10_judged 13 = .ok (.getfield 52, 3) := by decide +kernel
theorem dX10_judged_16 : decode cX10_judged 16 = .ok (.aload_n 0, 1) := by decide +kernel
theorem dX10_judged_17 : decode cX10_judged 17 = .ok (.getfield 19, 3) := by decide +kernel
theorem dX10_judged_20 : decode cX10_judged 20 = .ok (.aload_n 0, 1) := by decide +kernel
theorem dX10_judged_21 : decode cX10_judged 21 = .ok (.getfield 38, 3) := by decide +kernel
theorem dX10_judged_24 : decode cX10_judged 24 = .ok (.invokevirtual 298, 3) := by decide +kernel
theorem dX10_judged_27 : decode cX10_judged 27 = .ok (.istore_n 2, 1) := by decide +kernel
theorem dX10_judged_28 : decode cX10_judged 28 = .ok (.iload_n 1, 1) := by decide +kernel
theorem dX10_judged_29 : decode cX10_judged 29 = .ok (.tableswitch 48 0 2 #[27, 29, 40], 27) := by decide +kernel
theorem dX10_judged_56 : decode cX10_judged 56 = .ok (.iload_n 2, 1) := by decide +kernel
theorem dX10_judged_57 : decode cX10_judged 57 = .ok (.ireturn, 1) := by decide +kernel
theorem dX10_judged_58 : decode cX10_judged 58 = .ok (.aload_n 0, 1) := by decide +kernel
theorem dX10_judged_59 : decode cX10_judged 59 = .ok (.getfield 52, 3) := by decide +kernel
theorem dX10_judged_62 : decode cX10_judged 62 = .ok (.getfield 196, 3) := by decide +kernel
theorem dX10_judged_65 : decode cX10_judged 65 = .ok (.invokestatic 302, 3) := by decide +kernel
theorem dX10_judged_68 : decode cX10_judged 68 = .ok (.ireturn, 1) := by decide +kernel
theorem dX10_judged_69 : decode cX10_judged 69 = .ok (.aload_n 0, 1) := by decide +kernel
theorem dX10_judged_70 : decode cX10_judged 70 = .ok (.getfield 52, 3) := by decide +kernel
theorem dX10_judged_73 : decode cX10_judged 73 = .ok (.invokevirtual 306, 3) := by decide +kernel
theorem dX10_judged_76 : decode cX10_judged 76 = .ok (.ireturn, 1) := by decide +kernel
theorem dX10_judged_77 : decode cX10_judged 77 = .ok (.aload_n 0, 1) := by decide +kernel
theorem dX10_judged_78 : decode cX10_judged 78 = .ok (.getfield 52, 3) := by decide +kernel
theorem dX10_judged_81 : decode cX10_judged 81 = .ok (.getfield 183, 3) := by decide +kernel
theorem dX10_judged_84 : decode cX10_judged 84 = .ok (.invokestatic 302, 3) := by decide +kernel
theorem dX10_judged_87 : decode cX10_judged 87 = .ok (.ireturn, 1) := by decide +kernel
theorem dX10_late_0 : decode cX10_late 0 = .ok (.aload_n 0, 1) := by decide +kernel
theorem dX10_late_1 : decode cX10_late 1 = .ok (.iload_n 1, 1) := by decide +kernel
theorem dX10_late_2 : decode cX10_late 2 = .ok (.invokevirtual 151, 3) := by decide +kernel
theorem dX10_late_5 : decode cX10_late 5 = .ok (.ifCond .eq 11, 3) := by decide +kernel
theorem dX10_late_8 : decode cX10_late 8 = .ok (.aload_n 0, 1) := by decide +kernel
theorem dX10_late_9 : decode cX10_late 9 = .ok (.iload_n 2, 1) := by decide +kernel
theorem dX10_late_10 : decode cX10_late 10 = .ok (.invokevirtual 151, 3) := by decide +kernel
theorem dX10_late_13 : decode cX10_late 13 = .ok (.ifCond .ne 5, 3) := by decide +kernel
theorem dX10_late_16 : decode cX10_late 16 = .ok (.iconst (-1), 1) := by decide +kernel
theorem dX10_late_17 : decode cX10_late 17 = .ok (.ireturn, 1) := by decide +kernel
theorem dX10_late_18 : decode cX10_late 18 = .ok (.aload_n 0, 1) := by decide +kernel
theorem dX10_late_19 : decode cX10_late 19 = .ok (.getfield 19, 3) := by decide +kernel
theorem dX10_late_22 : decode cX10_late 22 = .ok (.getfield 154, 3) := by decide +kernel
theorem dX10_late_25 : decode cX10_late 25 = .ok (.iload_n 1, 1) := by decide +kernel
theorem dX10_late_26 : decode cX10_late 26 = .ok (.aaload, 1) := by decide +kernel
theorem dX10_late_27 : decode cX10_late 27 = .ok (.aload_n 0, 1) := by decide +kernel
theorem dX10_late_28 : decode cX10_late 28 = .ok (.getfield 87, 3) := by decide +kernel
theorem dX10_late_31 : decode cX10_late 31 = .ok (.iconst 0, 1) := by decide +kernel
theorem dX10_late_32 : decode cX10_late 32 = .ok (.invokevirtual 216, 3) := by decide +kernel
theorem dX10_late_35 : decode cX10_late 35 = .ok (.aload_n 0, 1) := by decide +kernel
theorem dX10_late_36 : decode cX10_late 36 = .ok (.getfield 19, 3) := by decide +kernel
theorem dX10_late_39 : decode cX10_late 39 = .ok (.getfield 154, 3) := by decide +kernel
theorem dX10_late_42 : decode cX10_late 42 = .ok (.iload_n 2, 1) := by decide +kernel
theorem dX10_late_43 : decode cX10_late 43 = .ok (.aaload, 1) := by decide +kernel
theorem dX10_late_44 : decode cX10_late 44 = .ok (.aload_n 0, 1) := by decide +kernel
theorem dX10_late_45 : decode cX10_late 45 = .ok (.getfield 90, 3) := by decide +kernel
theorem dX10_late_48 : decode cX10_late 48 = .ok (.iconst 0, 1) := by decide +kernel
theorem dX10_late_49 : decode cX10_late 49 = .ok (.invokevirtual 216, 3) := by decide +kernel
theorem dX10_late_52 : decode cX10_late 52 = .ok (.aload_n 0, 1) := by decide +kernel
theorem dX10_late_53 : decode cX10_late 53 = .ok (.getfield 87, 3) := by decide +kernel
theorem dX10_late_56 : decode cX10_late 56 = .ok (.aload_n 0, 1) := by decide +kernel
theorem dX10_late_57 : decode cX10_late 57 = .ok (.getfield 90, 3) := by decide +kernel
theorem dX10_late_60 : decode cX10_late 60 = .ok (.invokestatic 236, 3) := by decide +kernel
theorem dX10_late_63 : decode cX10_late 63 = .ok (.ireturn, 1) := by decide +kernel
theorem dX10_lateness_0 : decode cX10_lateness 0 = .ok (.iconst 0, 1) := by decide +kernel
theorem dX10_lateness_1 : decode cX10_lateness 1 = .ok (.istore_n 2, 1) := by decide +kernel
theorem dX10_lateness_2 : decode cX10_lateness 2 = .ok (.iconst 0, 1) := by decide +kernel
theorem dX10_lateness_3 : decode cX10_lateness 3 = .ok (.istore_n 3, 1) := by decide +kernel
theorem dX10_lateness_4 : decode cX10_lateness 4 = .ok (.iload_n 3, 1) := by decide +kernel
theorem dX10_lateness_5 : decode cX10_lateness 5 = .ok (.bipush 60, 2) := by decide +kernel
theorem dX10_lateness_7 : decode cX10_lateness 7 = .ok (.if_icmp .gt 40, 3) := by decide +kernel
theorem dX10_lateness_10 : decode cX10_lateness 10 = .ok (.iload_n 2, 1) := by decide +kernel
theorem dX10_lateness_11 : decode cX10_lateness 11 = .ok (.bipush 60, 2) := by decide +kernel
theorem dX10_lateness_13 : decode cX10_lateness 13 = .ok (.if_icmp .gt 20, 3) := by decide +kernel
theorem dX10_lateness_16 : decode cX10_lateness 16 = .ok (.aload_n 0, 1) := by decide +kernel
theorem dX10_lateness_17 : decode cX10_lateness 17 = .ok (.iload_n 3, 1) := by decide +kernel
theorem dX10_lateness_18 : decode cX10_lateness 18 = .ok (.iaload, 1) := by decide +kernel
theorem dX10_lateness_19 : decode cX10_lateness 19 = .ok (.aload_n 1, 1) := by decide +kernel
theorem dX10_lateness_20 : decode cX10_lateness 20 = .ok (.iload_n 3, 1) := by decide +kernel
theorem dX10_lateness_21 : decode cX10_lateness 21 = .ok (.iload_n 2, 1) := by decide +kernel
theorem dX10_lateness_22 : decode cX10_lateness 22 = .ok (.iadd, 1) := by decide +kernel
theorem dX10_lateness_23 : decode cX10_lateness 23 = .ok (.iaload, 1) := by decide +kernel
theorem dX10_lateness_24 : decode cX10_lateness 24 = .ok (.if_icmp .le 9, 3) := by decide +kernel
theorem dX10_lateness_27 : decode cX10_lateness 27 = .ok (.iinc 2 1, 3) := by decide +kernel
theorem dX10_lateness_30 : decode cX10_lateness 30 = .ok (.goto (-20), 3) := by decide +kernel
theorem dX10_lateness_33 : decode cX10_lateness 33 = .ok (.iload_n 2, 1) := by decide +kernel
theorem dX10_lateness_34 : decode cX10_lateness 34 = .ok (.bipush 60, 2) := by decide +kernel
theorem dX10_lateness_36 : decode cX10_lateness 36 = .ok (.if_icmp .le 5, 3) := by decide +kernel
theorem dX10_lateness_39 : decode cX10_lateness 39 = .ok (.iconst (-1), 1) := by decide +kernel
theorem dX10_lateness_40 : decode cX10_lateness 40 = .ok (.ireturn, 1) := by decide +kernel
theorem dX10_lateness_41 : decode cX10_lateness 41 = .ok (.iinc 3 1, 3) := by decide +kernel
theorem dX10_lateness_44 : decode cX10_lateness 44 = .ok (.goto (-40), 3) := by decide +kernel
theorem dX10_lateness_47 : decode cX10_lateness 47 = .ok (.iload_n 2, 1) := by decide +kernel
theorem dX10_lateness_48 : decode cX10_lateness 48 = .ok (.ireturn, 1) := by decide +kernel
theorem dX10_latest_0 : decode cX10_latest 0 = .ok (.aload_n 0, 1) := by decide +kernel
theorem dX10_latest_1 : decode cX10_latest 1 = .ok (.iload_n 1, 1) := by decide +kernel
theorem dX10_latest_2 : decode cX10_latest 2 = .ok (.invokevirtual 144, 3) := by decide +kernel
theorem dX10_latest_5 : decode cX10_latest 5 = .ok (.ifCond .eq 15, 3) := by decide +kernel
theorem dX10_latest_8 : decode cX10_latest 8 = .ok (.aload_n 0, 1) := by decide +kernel
theorem dX10_latest_9 : decode cX10_latest 9 = .ok (.getfield 48, 3) := by decide +kernel
theorem dX10_latest_12 : decode cX10_latest 12 = .ok (.getfield 313, 3) := by decide +kernel
theorem dX10_latest_15 : decode cX10_latest 15 = .ok (.iload_n 1, 1) := by decide +kernel
theorem dX10_latest_16 : decode cX10_latest 16 = .ok (.iaload, 1) := by decide +kernel
theorem dX10_latest_17 : decode cX10_latest 17 = .ok (.goto 4, 3) := by decide +kernel
theorem dX10_latest_20 : decode cX10_latest 20 = .ok (.iconst (-1), 1) := by decide +kernel
theorem dX10_latest_21 : decode cX10_latest 21 = .ok (.ireturn, 1) := by decide +kernel
theorem dX10_left_0 : decode cX10_left 0 = .ok (.aload_n 0, 1) := by decide +kernel
theorem dX10_left_1 : decode cX10_left 1 = .ok (.iload_n 1, 1) := by decide +kernel
theorem dX10_left_2 : decode cX10_left 2 = .ok (.iload_n 2, 1) := by decide +kernel
theorem dX10_left_3 : decode cX10_left 3 = .ok (.invokevirtual 202, 3) := by decide +kernel
theorem dX10_left_6 : decode cX10_left 6 = .ok (.ifCond .eq 19, 3) := by decide +kernel
theorem dX10_left_9 : decode cX10_left 9 = .ok (.iload_n 3, 1) := by decide +kernel
theorem dX10_left_10 : decode cX10_left 10 = .ok (.bipush 60, 2) := by decide +kernel
theorem dX10_left_12 : decode cX10_left 12 = .ok (.invokestatic 210, 3) := by decide +kernel
theorem dX10_left_15 : decode cX10_left 15 = .ok (.ifCond .eq 10, 3) := by decide +kernel
theorem dX10_left_18 : decode cX10_left 18 = .ok (.aload_n 0, 1) := by decide +kernel
theorem dX10_left_19 : decode cX10_left 19 = .ok (.invokevirtual 246, 3) := by decide +kernel
theorem dX10_left_22 : decode cX10_left 22 = .ok (.ifCond .eq 5, 3) := by decide +kernel
theorem dX10_left_25 : decode cX10_left 25 = .ok (.iconst (-1), 1) := by decide +kernel
theorem dX10_left_26 : decode cX10_left 26 = .ok (.ireturn, 1) := by decide +kernel
theorem dX10_left_27 : decode cX10_left 27 = .ok (.aload_n 0, 1) := by decide +kernel
theorem dX10_left_28 : decode cX10_left 28 = .ok (.getfield 79, 3) := by decide +kernel
theorem dX10_left_31 : decode cX10_left 31 = .ok (.iload_n 1, 1) := by decide +kernel
theorem dX10_left_32 : decode cX10_left 32 = .ok (.aload_n 0, 1) := by decide +kernel
theorem dX10_left_33 : decode cX10_left 33 = .ok (.getfield 19, 3) := by decide +kernel
theorem dX10_left_36 : decode cX10_left 36 = .ok (.getfield 206, 3) := by decide +kernel
theorem dX10_left_39 : decode cX10_left 39 = .ok (.iload_n 1, 1) := by decide +kernel
theorem dX10_left_40 : decode cX10_left 40 = .ok (.aaload, 1) := by decide +kernel
theorem dX10_left_41 : decode cX10_left 41 = .ok (.iload_n 2, 1) := by decide +kernel
theorem dX10_left_42 : decode cX10_left 42 = .ok (.iaload, 1) := by decide +kernel
theorem dX10_left_43 : decode cX10_left 43 = .ok (.aload_n 0, 1) := by decide +kernel
theorem dX10_left_44 : decode cX10_left 44 = .ok (.getfield 87, 3) := by decide +kernel
theorem dX10_left_47 : decode cX10_left 47 = .ok (.invokevirtual 257, 3) := by decide +kernel
theorem dX10_left_50 : decode cX10_left 50 = .ok (.aload_n 0, 1) := by decide +kernel
theorem dX10_left_51 : decode cX10_left 51 = .ok (.getfield 87, 3) := by decide +kernel
theorem dX10_left_54 : decode cX10_left 54 = .ok (.iload_n 3, 1) := by decide +kernel
theorem dX10_left_55 : decode cX10_left 55 = .ok (.iaload, 1) := by decide +kernel
theorem dX10_left_56 : decode cX10_left 56 = .ok (.ireturn, 1) := by decide +kernel
theorem dX10_loads_0 : decode cX10_loads 0 = .ok (.iload_n 1, 1) := by decide +kernel
theorem dX10_loads_1 : decode cX10_loads 1 = .ok (.sipush 9999, 3) := by decide +kernel
theorem dX10_loads_4 : decode cX10_loads 4 = .ok (.invokestatic 210, 3) := by decide +kernel
theorem dX10_loads_7 : decode cX10_loads 7 = .ok (.ifCond .eq 23, 3) := by decide +kernel
theorem dX10_loads_10 : decode cX10_loads 10 = .ok (.iload_n 2, 1) := by decide +kernel
theorem dX10_loads_11 : decode cX10_loads 11 = .ok (.iconst 1, 1) := by decide +kernel
theorem dX10_loads_12 : decode cX10_loads 12 = .ok (.if_icmp .lt 18, 3) := by decide +kernel
theorem dX10_loads_15 : decode cX10_loads 15 = .ok (.iload_n 2, 1) := by decide +kernel
theorem dX10_loads_16 : decode cX10_loads 16 = .ok (.bipush 60, 2) := by decide +kernel
theorem dX10_loads_18 : decode cX10_loads 18 = .ok (.if_icmp .gt 12, 3) := by decide +kernel
theorem dX10_loads_21 : decode cX10_loads 21 = .ok (.iload_n 3, 1) := by decide +kernel
theorem dX10_loads_22 : decode cX10_loads 22 = .ok (.ifCond .lt 8, 3) := by decide +kernel
theorem dX10_loads_25 : decode cX10_loads 25 = .ok (.iload_n 3, 1) := by decide +kernel
theorem dX10_loads_26 : decode cX10_loads 26 = .ok (.iconst 2, 1) := by decide +kernel
theorem dX10_loads_27 : decode cX10_loads 27 = .ok (.if_icmp .le 6, 3) := by decide +kernel
theorem dX10_loads_30 : decode cX10_loads 30 = .ok (.bipush (-2), 2) := by decide +kernel
theorem dX10_loads_32 : decode cX10_loads 32 = .ok (.ireturn, 1) := by decide +kernel
theorem dX10_loads_33 : decode cX10_loads 33 = .ok (.aload_n 0, 1) := by decide +kernel
theorem dX10_loads_34 : decode cX10_loads 34 = .ok (.getfield 52, 3) := by decide +kernel
theorem dX10_loads_37 : decode cX10_loads 37 = .ok (.aload_n 0, 1) := by decide +kernel
theorem dX10_loads_38 : decode cX10_loads 38 = .ok (.getfield 48, 3) := by decide +kernel
theorem dX10_loads_41 : decode cX10_loads 41 = .ok (.invokevirtual 342, 3) := by decide +kernel
theorem dX10_loads_44 : decode cX10_loads 44 = .ok (.aload_n 0, 1) := by decide +kernel
theorem dX10_loads_45 : decode cX10_loads 45 = .ok (.getfield 52, 3) := by decide +kernel
theorem dX10_loads_48 : decode cX10_loads 48 = .ok (.aload_n 0, 1) := by decide +kernel
theorem dX10_loads_49 : decode cX10_loads 49 = .ok (.getfield 19, 3) := by decide +kernel
theorem dX10_loads_52 : decode cX10_loads 52 = .ok (.iload_n 1, 1) := by decide +kernel
theorem dX10_loads_53 : decode cX10_loads 53 = .ok (.iload_n 2, 1) := by decide +kernel
theorem dX10_loads_54 : decode cX10_loads 54 = .ok (.invokevirtual 346, 3) := by decide +kernel
theorem dX10_loads_57 : decode cX10_loads 57 = .ok (.istore 4, 2) := by decide +kernel
theorem dX10_loads_59 : decode cX10_loads 59 = .ok (.iload_n 3, 1) := by decide +kernel
theorem dX10_loads_60 : decode cX10_loads 60 = .ok (.lookupswitch 42 #[(0, 28), (1, 31)], 28) := by decide +kernel
theorem dX10_loads_88 : decode cX10_loads 88 = .ok (.iload 4, 2) := by decide +kernel
theorem dX10_loads_90 : decode cX10_loads 90 = .ok (.ireturn, 1) := by decide +kernel
theorem dX10_loads_91 : decode cX10_loads 91 = .ok (.aload_n 0, 1) := by decide +kernel
theorem dX10_loads_92 : decode cX10_loads 92 = .ok (.getfield 52, 3) := by decide +kernel
theorem dX10_loads_95 : decode cX10_loads 95 = .ok (.getfield 183, 3) := by decide +kernel
theorem dX10_loads_98 : decode cX10_loads 98 = .ok (.invokestatic 302, 3) := by decide +kernel
theorem dX10_loads_101 : decode cX10_loads 101 = .ok (.ireturn, 1) := by decide +kernel
theorem dX10_loads_102 : decode cX10_loads 102 = .ok (.aload_n 0, 1) := by decide +kernel
theorem dX10_loads_103 : decode cX10_loads 103 = .ok (.getfield 52, 3) := by decide +kernel
theorem dX10_loads_106 : decode cX10_loads 106 = .ok (.invokevirtual 306, 3) := by decide +kernel
theorem dX10_loads_109 : decode cX10_loads 109 = .ok (.ireturn, 1) := by decide +kernel
theorem dX10_look_0 : decode cX10_look 0 = .ok (.aload_n 0, 1) := by decide +kernel
theorem dX10_look_1 : decode cX10_look 1 = .ok (.invokevirtual 331, 3) := by decide +kernel
theorem dX10_look_4 : decode cX10_look 4 = .ok (.istore_n 1, 1) := by decide +kernel
theorem dX10_look_5 : decode cX10_look 5 = .ok (.iload_n 1, 1) := by decide +kernel
theorem dX10_look_6 : decode cX10_look 6 = .ok (.invokestatic 334, 3) := by decide +kernel
theorem dX10_look_9 : decode cX10_look 9 = .ok (.istore_n 2, 1) := by decide +kernel
theorem dX10_look_10 : decode cX10_look 10 = .ok (.iconst (-1), 1) := by decide +kernel
theorem dX10_look_11 : decode cX10_look 11 = .ok (.istore_n 3, 1) := by decide +kernel
theorem dX10_look_12 : decode cX10_look 12 = .ok (.iconst 0, 1) := by decide +kernel
theorem dX10_look_13 : decode cX10_look 13 = .ok (.istore 4, 2) := by decide +kernel
theorem dX10_look_15 : decode cX10_look 15 = .ok (.iload 4, 2) := by decide +kernel
theorem dX10_look_17 : decode cX10_look 17 = .ok (.bipush 60, 2) := by decide +kernel
theorem dX10_look_19 : decode cX10_look 19 = .ok (.if_icmp .gt 30, 3) := by decide +kernel
theorem dX10_look_22 : decode cX10_look 22 = .ok (.aload_n 0, 1) := by decide +kernel
theorem dX10_look_23 : decode cX10_look 23 = .ok (.iload_n 1, 1) := by decide +kernel
theorem dX10_look_24 : decode cX10_look 24 = .ok (.iload 4, 2) := by decide +kernel
theorem dX10_look_26 : decode cX10_look 26 = .ok (.invokevirtual 339, 3) := by decide +kernel
theorem dX10_look_29 : decode cX10_look 29 = .ok (.istore 5, 2) := by decide +kernel
theorem dX10_look_31 : decode cX10_look 31 = .ok (.iload 5, 2) := by decide +kernel
theorem dX10_look_33 : decode cX10_look 33 = .ok (.iload_n 2, 1) := by decide +kernel
theorem dX10_look_34 : decode cX10_look 34 = .ok (.if_icmp .ge 9, 3) := by decide +kernel
theorem dX10_look_37 : decode cX10_look 37 = .ok (.iload 5, 2) := by decide +kernel
theorem dX10_look_39 : decode cX10_look 39 = .ok (.istore_n 2, 1) := by decide +kernel
theorem dX10_look_40 : decode cX10_look 40 = .ok (.iload 4, 2) := by decide +kernel
theorem dX10_look_42 : decode cX10_look 42 = .ok (.istore_n 3, 1) := by decide +kernel
theorem dX10_look_43 : decode cX10_look 43 = .ok (.iinc 4 1, 3) := by decide +kernel
theorem dX10_look_46 : decode cX10_look 46 = .ok (.goto (-31), 3) := by decide +kernel
theorem dX10_look_49 : decode cX10_look 49 = .ok (.iload_n 3, 1) := by decide +kernel
theorem dX10_look_50 : decode cX10_look 50 = .ok (.ireturn, 1) := by decide +kernel
theorem dX10_mark_0 : decode cX10_mark 0 = .ok (.iload_n 1, 1) := by decide +kernel
theorem dX10_mark_1 : decode cX10_mark 1 = .ok (.ifCond .lt 21, 3) := by decide +kernel
theorem dX10_mark_4 : decode cX10_mark 4 = .ok (.iload_n 1, 1) := by decide +kernel
theorem dX10_mark_5 : decode cX10_mark 5 = .ok (.iconst 2, 1) := by decide +kernel
theorem dX10_mark_6 : decode cX10_mark 6 = .ok (.if_icmp .ge 16, 3) := by decide +kernel
theorem dX10_mark_9 : decode cX10_mark 9 = .ok (.iload_n 2, 1) := by decide +kernel
theorem dX10_mark_10 : decode cX10_mark 10 = .ok (.ifCond .eq 14, 3) := by decide +kernel
theorem dX10_mark_13 : decode cX10_mark 13 = .ok (.aload_n 0, 1) := by decide +kernel
theorem dX10_mark_14 : decode cX10_mark 14 = .ok (.getfield 70, 3) := by decide +kernel
theorem dX10_mark_17 : decode cX10_mark 17 = .ok (.iload_n 1, 1) := by decide +kernel
theorem dX10_mark_18 : decode cX10_mark 18 = .ok (.baload, 1) := by decide +kernel
theorem dX10_mark_19 : decode cX10_mark 19 = .ok (.ifCond .ne 5, 3) := by decide +kernel
theorem dX10_mark_22 : decode cX10_mark 22 = .ok (.iconst 0, 1) := by decide +kernel
theorem dX10_mark_23 : decode cX10_mark 23 = .ok (.ireturn, 1) := by decide +kernel
theorem dX10_mark_24 : decode cX10_mark 24 = .ok (.iload_n 2, 1) := by decide +kernel
theorem dX10_mark_25 : decode cX10_mark 25 = .ok (.ifCond .eq 32, 3) := by decide +kernel
theorem dX10_mark_28 : decode cX10_mark 28 = .ok (.aload_n 0, 1) := by decide +kernel
theorem dX10_mark_29 : decode cX10_mark 29 = .ok (.getfield 48, 3) := by decide +kernel
theorem dX10_mark_32 : decode cX10_mark 32 = .ok (.aload_n 0, 1) := by decide +kernel
theorem dX10_mark_33 : decode cX10_mark 33 = .ok (.getfield 62, 3) := by decide +kernel
theorem dX10_mark_36 : decode cX10_mark 36 = .ok (.iload_n 1, 1) := by decide +kernel
theorem dX10_mark_37 : decode cX10_mark 37 = .ok (.aaload, 1) := by decide +kernel
theorem dX10_mark_38 : decode cX10_mark 38 = .ok (.invokevirtual 342, 3) := by decide +kernel
theorem dX10_mark_41 : decode cX10_mark 41 = .ok (.aload_n 0, 1) := by decide +kernel
theorem dX10_mark_42 : decode cX10_mark 42 = .ok (.getfield 58, 3) := by decide +kernel
theorem dX10_mark_45 : decode cX10_mark 45 = .ok (.aload_n 0, 1) := by decide +kernel
theorem dX10_mark_46 : decode cX10_mark 46 = .ok (.getfield 66, 3) := by decide +kernel
theorem dX10_mark_49 : decode cX10_mark 49 = .ok (.iload_n 1, 1) := by decide +kernel
theorem dX10_mark_50 : decode cX10_mark 50 = .ok (.aaload, 1) := by decide +kernel
theorem dX10_mark_51 : decode cX10_mark 51 = .ok (.invokevirtual 349, 3) := by decide +kernel
theorem dX10_mark_54 : decode cX10_mark 54 = .ok (.goto 36, 3) := by decide +kernel
theorem dX10_mark_57 : decode cX10_mark 57 = .ok (.aload_n 0, 1) := by decide +kernel
theorem dX10_mark_58 : decode cX10_mark 58 = .ok (.getfield 62, 3) := by decide +kernel
theorem dX10_mark_61 : decode cX10_mark 61 = .ok (.iload_n 1, 1) := by decide +kernel
theorem dX10_mark_62 : decode cX10_mark 62 = .ok (.aaload, 1) := by decide +kernel
theorem dX10_mark_63 : decode cX10_mark 63 = .ok (.aload_n 0, 1) := by decide +kernel
theorem dX10_mark_64 : decode cX10_mark 64 = .ok (.getfield 48, 3) := by decide +kernel
theorem dX10_mark_67 : decode cX10_mark 67 = .ok (.invokevirtual 342, 3) := by decide +kernel
theorem dX10_mark_70 : decode cX10_mark 70 = .ok (.aload_n 0, 1) := by decide +kernel
theorem dX10_mark_71 : decode cX10_mark 71 = .ok (.getfield 66, 3) := by decide +kernel
theorem dX10_mark_74 : decode cX10_mark 74 = .ok (.iload_n 1, 1) := by decide +kernel
theorem dX10_mark_75 : decode cX10_mark 75 = .ok (.aaload, 1) := by decide +kernel
theorem dX10_mark_76 : decode cX10_mark 76 = .ok (.aload_n 0, 1) := by decide +kernel
theorem dX10_mark_77 : decode cX10_mark 77 = .ok (.getfield 58, 3) := by decide +kernel
theorem dX10_mark_80 : decode cX10_mark 80 = .ok (.invokevirtual 349, 3) := by decide +kernel
theorem dX10_mark_83 : decode cX10_mark 83 = .ok (.aload_n 0, 1) := by decide +kernel
theorem dX10_mark_84 : decode cX10_mark 84 = .ok (.getfield 70, 3) := by decide +kernel
theorem dX10_mark_87 : decode cX10_mark 87 = .ok (.iload_n 1, 1) := by decide +kernel
theorem dX10_mark_88 : decode cX10_mark 88 = .ok (.iconst 1, 1) := by decide +kernel
theorem dX10_mark_89 : decode cX10_mark 89 = .ok (.bastore, 1) := by decide +kernel
theorem dX10_mark_90 : decode cX10_mark 90 = .ok (.iconst 1, 1) := by decide +kernel
theorem dX10_mark_91 : decode cX10_mark 91 = .ok (.ireturn, 1) := by decide +kernel
theorem dX10_mostAbove_0 : decode cX10_mostAbove 0 = .ok (.aload_n 0, 1) := by decide +kernel
theorem dX10_mostAbove_1 : decode cX10_mostAbove 1 = .ok (.iconst 0, 1) := by decide +kernel
theorem dX10_mostAbove_2 : decode cX10_mostAbove 2 = .ok (.iaload, 1) := by decide +kernel
theorem dX10_mostAbove_3 : decode cX10_mostAbove 3 = .ok (.aload_n 1, 1) := by decide +kernel
theorem dX10_mostAbove_4 : decode cX10_mostAbove 4 = .ok (.iconst 0, 1) := by decide +kernel
theorem dX10_mostAbove_5 : decode cX10_mostAbove 5 = .ok (.iaload, 1) := by decide +kernel
theorem dX10_mostAbove_6 : decode cX10_mostAbove 6 = .ok (.isub, 1) := by decide +kernel
theorem dX10_mostAbove_7 : decode cX10_mostAbove 7 = .ok (.istore_n 2, 1) := by decide +kernel
theorem dX10_mostAbove_8 : decode cX10_mostAbove 8 = .ok (.iconst 1, 1) := by decide +kernel
theorem dX10_mostAbove_9 : decode cX10_mostAbove 9 = .ok (.istore_n 3, 1) := by decide +kernel
theorem dX10_mostAbove_10 : decode cX10_mostAbove 10 = .ok (.iload_n 3, 1) := by decide +kernel
theorem dX10_mostAbove_11 : decode cX10_mostAbove 11 = .ok (.bipush 60, 2) := by decide +kernel
theorem dX10_mostAbove_13 : decode cX10_mostAbove 13 = .ok (.if_icmp .gt 21, 3) := by decide +kernel
theorem dX10_mostAbove_16 : decode cX10_mostAbove 16 = .ok (.iload_n 2, 1) := by decide +kernel
theorem dX10_mostAbove_17 : decode cX10_mostAbove 17 = .ok (.aload_n 0, 1) := by decide +kernel
theorem dX10_mostAbove_18 : decode cX10_mostAbove 18 = .ok (.iload_n 3, 1) := by decide +kernel
theorem dX10_mostAbove_19 : decode cX10_mostAbove 19 = .ok (.iaload, 1) := by decide +kernel
theorem dX10_mostAbove_20 : decode cX10_mostAbove 20 = .ok (.aload_n 1, 1) := by decide +kernel
theorem dX10_mostAbove_21 : decode cX10_mostAbove 21 = .ok (.iload_n 3, 1) := by decide +kernel
theorem dX10_mostAbove_22 : decode cX10_mostAbove 22 = .ok (.iaload, 1) := by decide +kernel
theorem dX10_mostAbove_23 : decode cX10_mostAbove 23 = .ok (.isub, 1) := by decide +kernel
theorem dX10_mostAbove_24 : decode cX10_mostAbove 24 = .ok (.invokestatic 233, 3) := by decide +kernel
theorem dX10_mostAbove_27 : decode cX10_mostAbove 27 = .ok (.istore_n 2, 1) := by decide +kernel
theorem dX10_mostAbove_28 : decode cX10_mostAbove 28 = .ok (.iinc 3 1, 3) := by decide +kernel
theorem dX10_mostAbove_31 : decode cX10_mostAbove 31 = .ok (.goto (-21), 3) := by decide +kernel
theorem dX10_mostAbove_34 : decode cX10_mostAbove 34 = .ok (.iload_n 2, 1) := by decide +kernel
theorem dX10_mostAbove_35 : decode cX10_mostAbove 35 = .ok (.ireturn, 1) := by decide +kernel
theorem dX10_mostAlike_0 : decode cX10_mostAlike 0 = .ok (.iconst 0, 1) := by decide +kernel
theorem dX10_mostAlike_1 : decode cX10_mostAlike 1 = .ok (.istore_n 3, 1) := by decide +kernel
theorem dX10_mostAlike_2 : decode cX10_mostAlike 2 = .ok (.iconst 0, 1) := by decide +kernel
theorem dX10_mostAlike_3 : decode cX10_mostAlike 3 = .ok (.istore 4, 2) := by decide +kernel
theorem dX10_mostAlike_5 : decode cX10_mostAlike 5 = .ok (.iload 4, 2) := by decide +kernel
theorem dX10_mostAlike_7 : decode cX10_mostAlike 7 = .ok (.aload_n 0, 1) := by decide +kernel
theorem dX10_mostAlike_8 : decode cX10_mostAlike 8 = .ok (.getfield 19, 3) := by decide +kernel
theorem dX10_mostAlike_11 : decode cX10_mostAlike 11 = .ok (.getfield 135, 3) := by decide +kernel
theorem dX10_mostAlike_14 : decode cX10_mostAlike 14 = .ok (.if_icmp .ge 106, 3) := by decide +kernel
theorem dX10_mostAlike_17 : decode cX10_mostAlike 17 = .ok (.iconst 0, 1) := by decide +kernel
theorem dX10_mostAlike_18 : decode cX10_mostAlike 18 = .ok (.istore 5, 2) := by decide +kernel
theorem dX10_mostAlike_20 : decode cX10_mostAlike 20 = .ok (.iconst 0, 1) := by decide +kernel
theorem dX10_mostAlike_21 : decode cX10_mostAlike 21 = .ok (.istore 6, 2) := by decide +kernel
theorem dX10_mostAlike_23 : decode cX10_mostAlike 23 = .ok (.iload 6, 2) := by decide +kernel
theorem dX10_mostAlike_25 : decode cX10_mostAlike 25 = .ok (.aload_n 0, 1) := by decide +kernel
theorem dX10_mostAlike_26 : decode cX10_mostAlike 26 = .ok (.getfield 19, 3) := by decide +kernel
theorem dX10_mostAlike_29 : decode cX10_mostAlike 29 = .ok (.getfield 135, 3) := by decide +kernel
theorem dX10_mostAlike_32 : decode cX10_mostAlike 32 = .ok (.if_icmp .ge 75, 3) := by decide +kernel
theorem dX10_mostAlike_35 : decode cX10_mostAlike 35 = .ok (.iload_n 1, 1) := by decide +kernel
theorem dX10_mostAlike_36 : decode cX10_mostAlike 36 = .ok (.iload 4, 2) := by decide +kernel
theorem dX10_mostAlike_38 : decode cX10_mostAlike 38 = .ok (.ishr, 1) := by decide +kernel
theorem dX10_mostAlike_39 : decode cX10_mostAlike 39 = .ok (.iconst 1, 1) := by decide +kernel
theorem dX10_mostAlike_40 : decode cX10_mostAlike 40 = .ok (.iand, 1) := by decide +kernel
theorem dX10_mostAlike_41 : decode cX10_mostAlike 41 = .ok (.iconst 1, 1) := by decide +kernel
theorem dX10_mostAlike_42 : decode cX10_mostAlike 42 = .ok (.if_icmp .ne 17, 3) := by decide +kernel
theorem dX10_mostAlike_45 : decode cX10_mostAlike 45 = .ok (.iload_n 1, 1) := by decide +kernel
theorem dX10_mostAlike_46 : decode cX10_mostAlike 46 = .ok (.iload 6, 2) := by decide +kernel
theorem dX10_mostAlike_48 : decode cX10_mostAlike 48 = .ok (.ishr, 1) := by decide +kernel
theorem dX10_mostAlike_49 : decode cX10_mostAlike 49 = .ok (.iconst 1, 1) := by decide +kernel
theorem dX10_mostAlike_50 : decode cX10_mostAlike 50 = .ok (.iand, 1) := by decide +kernel
theorem dX10_mostAlike_51 : decode cX10_mostAlike 51 = .ok (.iconst 1, 1) := by decide +kernel
theorem dX10_mostAlike_52 : decode cX10_mostAlike 52 = .ok (.if_icmp .ne 7, 3) := by decide +kernel
theorem dX10_mostAlike_55 : decode cX10_mostAlike 55 = .ok (.iconst 1, 1) := by decide +kernel
theorem dX10_mostAlike_56 : decode cX10_mostAlike 56 = .ok (.goto 4, 3) := by decide +kernel
theorem dX10_mostAlike_59 : decode cX10_mostAlike 59 = .ok (.iconst 0, 1) := by decide +kernel
theorem dX10_mostAlike_60 : decode cX10_mostAlike 60 = .ok (.istore 7, 2) := by decide +kernel
theorem dX10_mostAlike_62 : decode cX10_mostAlike 62 = .ok (.iload 7, 2) := by decide +kernel
theorem dX10_mostAlike_64 : decode cX10_mostAlike 64 = .ok (.ifCond .eq 37, 3) := by decide +kernel
theorem dX10_mostAlike_67 : decode cX10_mostAlike 67 = .ok (.aload_n 0, 1) := by decide +kernel
theorem dX10_mostAlike_68 : decode cX10_mostAlike 68 = .ok (.getfield 19, 3) := by decide +kernel
theorem dX10_mostAlike_71 : decode cX10_mostAlike 71 = .ok (.getfield 154, 3) := by decide +kernel
theorem dX10_mostAlike_74 : decode cX10_mostAlike 74 = .ok (.iload 4, 2) := by decide +kernel
theorem dX10_mostAlike_76 : decode cX10_mostAlike 76 = .ok (.aaload, 1) := by decide +kernel
theorem dX10_mostAlike_77 : decode cX10_mostAlike 77 = .ok (.iload_n 2, 1) := by decide +kernel
theorem dX10_mostAlike_78 : decode cX10_mostAlike 78 = .ok (.invokevirtual 213, 3) := by decide +kernel
theorem dX10_mostAlike_81 : decode cX10_mostAlike 81 = .ok (.aload_n 0, 1) := by decide +kernel
theorem dX10_mostAlike_82 : decode cX10_mostAlike 82 = .ok (.getfield 19, 3) := by decide +kernel
theorem dX10_mostAlike_85 : decode cX10_mostAlike 85 = .ok (.getfield 154, 3) := by decide +kernel
theorem dX10_mostAlike_88 : decode cX10_mostAlike 88 = .ok (.iload 6, 2) := by decide +kernel
theorem dX10_mostAlike_90 : decode cX10_mostAlike 90 = .ok (.aaload, 1) := by decide +kernel
theorem dX10_mostAlike_91 : decode cX10_mostAlike 91 = .ok (.iload_n 2, 1) := by decide +kernel
theorem dX10_mostAlike_92 : decode cX10_mostAlike 92 = .ok (.invokevirtual 213, 3) := by decide +kernel
theorem dX10_mostAlike_95 : decode cX10_mostAlike 95 = .ok (.if_icmp .ne 6, 3) := by decide +kernel
theorem dX10_mostAlike_98 : decode cX10_mostAlike 98 = .ok (.iinc 5 1, 3) := by decide +kernel
theorem dX10_mostAlike_101 : decode cX10_mostAlike 101 = .ok (.iinc 6 1, 3) := by decide +kernel
theorem dX10_mostAlike_104 : decode cX10_mostAlike 104 = .ok (.goto (-81), 3) := by decide +kernel
theorem dX10_mostAlike_107 : decode cX10_mostAlike 107 = .ok (.iload_n 3, 1) := by decide +kernel
theorem dX10_mostAlike_108 : decode cX10_mostAlike 108 = .ok (.iload 5, 2) := by decide +kernel
theorem dX10_mostAlike_110 : decode cX10_mostAlike 110 = .ok (.invokestatic 233, 3) := by decide +kernel
theorem dX10_mostAlike_113 : decode cX10_mostAlike 113 = .ok (.istore_n 3, 1) := by decide +kernel
theorem dX10_mostAlike_114 : decode cX10_mostAlike 114 = .ok (.iinc 4 1, 3) := by decide +kernel
theorem dX10_mostAlike_117 : decode cX10_mostAlike 117 = .ok (.goto (-112), 3) := by decide +kernel
theorem dX10_mostAlike_120 : decode cX10_mostAlike 120 = .ok (.iload_n 3, 1) := by decide +kernel
theorem dX10_mostAlike_121 : decode cX10_mostAlike 121 = .ok (.ireturn, 1) := by decide +kernel
theorem dX10_net_0 : decode cX10_net 0 = .ok (.aload_n 0, 1) := by decide +kernel
theorem dX10_net_1 : decode cX10_net 1 = .ok (.getfield 31, 3) := by decide +kernel
theorem dX10_net_4 : decode cX10_net 4 = .ok (.aload_n 0, 1) := by decide +kernel
theorem dX10_net_5 : decode cX10_net 5 = .ok (.getfield 23, 3) := by decide +kernel
theorem dX10_net_8 : decode cX10_net 8 = .ok (.invokevirtual 110, 3) := by decide +kernel
theorem dX10_net_11 : decode cX10_net 11 = .ok (.istore_n 1, 1) := by decide +kernel
theorem dX10_net_12 : decode cX10_net 12 = .ok (.aload_n 0, 1) := by decide +kernel
theorem dX10_net_13 : decode cX10_net 13 = .ok (.getfield 10, 3) := by decide +kernel
theorem dX10_net_16 : decode cX10_net 16 = .ok (.invokevirtual 114, 3) := by decide +kernel
theorem dX10_net_19 : decode cX10_net 19 = .ok (.iload_n 1, 1) := by decide +kernel
theorem dX10_net_20 : decode cX10_net 20 = .ok (.ifCond .ne 25, 3) := by decide +kernel
theorem dX10_net_23 : decode cX10_net 23 = .ok (.aload_n 0, 1) := by decide +kernel
theorem dX10_net_24 : decode cX10_net 24 = .ok (.getfield 19, 3) := by decide +kernel
theorem dX10_net_27 : decode cX10_net 27 = .ok (.astore_n 2, 1) := by decide +kernel
theorem dX10_net_28 : decode cX10_net 28 = .ok (.aload_n 0, 1) := by decide +kernel
theorem dX10_net_29 : decode cX10_net 29 = .ok (.aload_n 0, 1) := by decide +kernel
theorem dX10_net_30 : decode cX10_net 30 = .ok (.getfield 23, 3) := by decide +kernel
theorem dX10_net_33 : decode cX10_net 33 = .ok (.putfield 19, 3) := by decide +kernel
theorem dX10_net_36 : decode cX10_net 36 = .ok (.aload_n 0, 1) := by decide +kernel
theorem dX10_net_37 : decode cX10_net 37 = .ok (.aload_n 2, 1) := by decide +kernel
theorem dX10_net_38 : decode cX10_net 38 = .ok (.putfield 23, 3) := by decide +kernel
theorem dX10_net_41 : decode cX10_net 41 = .ok (.aload_n 0, 1) := by decide +kernel
theorem dX10_net_42 : decode cX10_net 42 = .ok (.invokevirtual 117, 3) := by decide +kernel
theorem dX10_net_45 : decode cX10_net 45 = .ok (.iload_n 1, 1) := by decide +kernel
theorem dX10_net_46 : decode cX10_net 46 = .ok (.ireturn, 1) := by decide +kernel
theorem dX10_node_0 : decode cX10_node 0 = .ok (.aload_n 0, 1) := by decide +kernel
theorem dX10_node_1 : decode cX10_node 1 = .ok (.iload_n 1, 1) := by decide +kernel
theorem dX10_node_2 : decode cX10_node 2 = .ok (.invokevirtual 171, 3) := by decide +kernel
theorem dX10_node_5 : decode cX10_node 5 = .ok (.ifCond .ne 5, 3) := by decide +kernel
theorem dX10_node_8 : decode cX10_node 8 = .ok (.iconst (-1), 1) := by decide +kernel
theorem dX10_node_9 : decode cX10_node 9 = .ok (.ireturn, 1) := by decide +kernel
theorem dX10_node_10 : decode cX10_node 10 = .ok (.iload_n 2, 1) := by decide +kernel
theorem dX10_node_11 : decode cX10_node 11 = .ok (.tableswitch 83 0 4 #[33, 43, 53, 63, 73], 33) := by decide +kernel
theorem dX10_node_44 : decode cX10_node 44 = .ok (.aload_n 0, 1) := by decide +kernel
theorem dX10_node_45 : decode cX10_node 45 = .ok (.getfield 19, 3) := by decide +kernel
theorem dX10_node_48 : decode cX10_node 48 = .ok (.getfield 174, 3) := by decide +kernel
theorem dX10_node_51 : decode cX10_node 51 = .ok (.iload_n 1, 1) := by decide +kernel
theorem dX10_node_52 : decode cX10_node 52 = .ok (.iaload, 1) := by decide +kernel
theorem dX10_node_53 : decode cX10_node 53 = .ok (.ireturn, 1) := by decide +kernel
theorem dX10_node_54 : decode cX10_node 54 = .ok (.aload_n 0, 1) := by decide +kernel
theorem dX10_node_55 : decode cX10_node 55 = .ok (.getfield 19, 3) := by decide +kernel
theorem dX10_node_58 : decode cX10_node 58 = .ok (.getfield 177, 3) := by decide +kernel
theorem dX10_node_61 : decode cX10_node 61 = .ok (.iload_n 1, 1) := by decide +kernel
theorem dX10_node_62 : decode cX10_node 62 = .ok (.iaload, 1) := by decide +kernel
theorem dX10_node_63 : decode cX10_node 63 = .ok (.ireturn, 1) := by decide +kernel
theorem dX10_node_64 : decode cX10_node 64 = .ok (.aload_n 0, 1) := by decide +kernel
theorem dX10_node_65 : decode cX10_node 65 = .ok (.getfield 19, 3) := by decide +kernel
theorem dX10_node_68 : decode cX10_node 68 = .ok (.getfield 180, 3) := by decide +kernel
theorem dX10_node_71 : decode cX10_node 71 = .ok (.iload_n 1, 1) := by decide +kernel
theorem dX10_node_72 : decode cX10_node 72 = .ok (.iaload, 1) := by decide +kernel
theorem dX10_node_73 : decode cX10_node 73 = .ok (.ireturn, 1) := by decide +kernel
theorem dX10_node_74 : decode cX10_node 74 = .ok (.aload_n 0, 1) := by decide +kernel
theorem dX10_node_75 : decode cX10_node 75 = .ok (.getfield 48, 3) := by decide +kernel
theorem dX10_node_78 : decode cX10_node 78 = .ok (.getfield 183, 3) := by decide +kernel
theorem dX10_node_81 : decode cX10_node 81 = .ok (.iload_n 1, 1) := by decide +kernel
theorem dX10_node_82 : decode cX10_node 82 = .ok (.iaload, 1) := by decide +kernel
theorem dX10_node_83 : decode cX10_node 83 = .ok (.ireturn, 1) := by decide +kernel
theorem dX10_node_84 : decode cX10_node 84 = .ok (.aload_n 0, 1) := by decide +kernel
theorem dX10_node_85 : decode cX10_node 85 = .ok (.getfield 48, 3) := by decide +kernel
theorem dX10_node_88 : decode cX10_node 88 = .ok (.getfield 186, 3) := by decide +kernel
theorem dX10_node_91 : decode cX10_node 91 = .ok (.iload_n 1, 1) := by decide +kernel
theorem dX10_node_92 : decode cX10_node 92 = .ok (.iaload, 1) := by decide +kernel
theorem dX10_node_93 : decode cX10_node 93 = .ok (.ireturn, 1) := by decide +kernel
theorem dX10_node_94 : decode cX10_node 94 = .ok (.iconst (-1), 1) := by decide +kernel
theorem dX10_node_95 : decode cX10_node 95 = .ok (.ireturn, 1) := by decide +kernel
theorem dX10_oldest_0 : decode cX10_oldest 0 = .ok (.aload_n 0, 1) := by decide +kernel
theorem dX10_oldest_1 : decode cX10_oldest 1 = .ok (.iload_n 1, 1) := by decide +kernel
theorem dX10_oldest_2 : decode cX10_oldest 2 = .ok (.invokevirtual 144, 3) := by decide +kernel
theorem dX10_oldest_5 : decode cX10_oldest 5 = .ok (.ifCond .eq 14, 3) := by decide +kernel
theorem dX10_oldest_8 : decode cX10_oldest 8 = .ok (.aload_n 0, 1) := by decide +kernel
theorem dX10_oldest_9 : decode cX10_oldest 9 = .ok (.getfield 48, 3) := by decide +kernel
theorem dX10_oldest_12 : decode cX10_oldest 12 = .ok (.iload_n 1, 1) := by decide +kernel
theorem dX10_oldest_13 : decode cX10_oldest 13 = .ok (.invokevirtual 320, 3) := by decide +kernel
theorem dX10_oldest_16 : decode cX10_oldest 16 = .ok (.goto 4, 3) := by decide +kernel
theorem dX10_oldest_19 : decode cX10_oldest 19 = .ok (.iconst (-1), 1) := by decide +kernel
theorem dX10_oldest_20 : decode cX10_oldest 20 = .ok (.ireturn, 1) := by decide +kernel
theorem dX10_once_0 : decode cX10_once 0 = .ok (.aload_n 0, 1) := by decide +kernel
theorem dX10_once_1 : decode cX10_once 1 = .ok (.iload_n 1, 1) := by decide +kernel
theorem dX10_once_2 : decode cX10_once 2 = .ok (.invokevirtual 144, 3) := by decide +kernel
theorem dX10_once_5 : decode cX10_once 5 = .ok (.ifCond .eq 18, 3) := by decide +kernel
theorem dX10_once_8 : decode cX10_once 8 = .ok (.aload_n 0, 1) := by decide +kernel
theorem dX10_once_9 : decode cX10_once 9 = .ok (.invokevirtual 246, 3) := by decide +kernel
theorem dX10_once_12 : decode cX10_once 12 = .ok (.ifCond .ne 11, 3) := by decide +kernel
theorem dX10_once_15 : decode cX10_once 15 = .ok (.aload_n 0, 1) := by decide +kernel
theorem dX10_once_16 : decode cX10_once 16 = .ok (.iload_n 1, 1) := by decide +kernel
theorem dX10_once_17 : decode cX10_once 17 = .ok (.invokevirtual 264, 3) := by decide +kernel
theorem dX10_once_20 : decode cX10_once 20 = .ok (.goto 4, 3) := by decide +kernel
theorem dX10_once_23 : decode cX10_once 23 = .ok (.iconst (-1), 1) := by decide +kernel
theorem dX10_once_24 : decode cX10_once 24 = .ok (.ireturn, 1) := by decide +kernel
theorem dX10_paidOnce_0 : decode cX10_paidOnce 0 = .ok (.iconst 0, 1) := by decide +kernel
theorem dX10_paidOnce_1 : decode cX10_paidOnce 1 = .ok (.istore_n 2, 1) := by decide +kernel
theorem dX10_paidOnce_2 : decode cX10_paidOnce 2 = .ok (.iconst 0, 1) := by decide +kernel
theorem dX10_paidOnce_3 : decode cX10_paidOnce 3 = .ok (.istore_n 3, 1) := by decide +kernel
theorem dX10_paidOnce_4 : decode cX10_paidOnce 4 = .ok (.iconst 0, 1) := by decide +kernel
theorem dX10_paidOnce_5 : decode cX10_paidOnce 5 = .ok (.istore 4, 2) := by decide +kernel
theorem dX10_paidOnce_7 : decode cX10_paidOnce 7 = .ok (.iload 4, 2) := by decide +kernel
theorem dX10_paidOnce_9 : decode cX10_paidOnce 9 = .ok (.aload_n 0, 1) := by decide +kernel
theorem dX10_paidOnce_10 : decode cX10_paidOnce 10 = .ok (.getfield 19, 3) := by decide +kernel
theorem dX10_paidOnce_13 : decode cX10_paidOnce 13 = .ok (.getfield 148, 3) := by decide +kernel
theorem dX10_paidOnce_16 : decode cX10_paidOnce 16 = .ok (.iload_n 1, 1) := by decide +kernel
theorem dX10_paidOnce_17 : decode cX10_paidOnce 17 = .ok (.iaload, 1) := by decide +kernel
theorem dX10_paidOnce_18 : decode cX10_paidOnce 18 = .ok (.if_icmp .ge 73, 3) := by decide +kernel
theorem dX10_paidOnce_21 : decode cX10_paidOnce 21 = .ok (.aload_n 0, 1) := by decide +kernel
theorem dX10_paidOnce_22 : decode cX10_paidOnce 22 = .ok (.getfield 19, 3) := by decide +kernel
theorem dX10_paidOnce_25 : decode cX10_paidOnce 25 = .ok (.getfield 206, 3) := by decide +kernel
theorem dX10_paidOnce_28 : decode cX10_paidOnce 28 = .ok (.iload_n 1, 1) := by decide +kernel
theorem dX10_paidOnce_29 : decode cX10_paidOnce 29 = .ok (.aaload, 1) := by decide +kernel
theorem dX10_paidOnce_30 : decode cX10_paidOnce 30 = .ok (.iload 4, 2) := by decide +kernel
theorem dX10_paidOnce_32 : decode cX10_paidOnce 32 = .ok (.iaload, 1) := by decide +kernel
theorem dX10_paidOnce_33 : decode cX10_paidOnce 33 = .ok (.istore 5, 2) := by decide +kernel
theorem dX10_paidOnce_35 : decode cX10_paidOnce 35 = .ok (.aload_n 0, 1) := by decide +kernel
theorem dX10_paidOnce_36 : decode cX10_paidOnce 36 = .ok (.getfield 19, 3) := by decide +kernel
theorem dX10_paidOnce_39 : decode cX10_paidOnce 39 = .ok (.getfield 174, 3) := by decide +kernel
theorem dX10_paidOnce_42 : decode cX10_paidOnce 42 = .ok (.iload 5, 2) := by decide +kernel
theorem dX10_paidOnce_44 : decode cX10_paidOnce 44 = .ok (.iaload, 1) := by decide +kernel
theorem dX10_paidOnce_45 : decode cX10_paidOnce 45 = .ok (.iconst 2, 1) := by decide +kernel
theorem dX10_paidOnce_46 : decode cX10_paidOnce 46 = .ok (.if_icmp .ne 21, 3) := by decide +kernel
theorem dX10_paidOnce_49 : decode cX10_paidOnce 49 = .ok (.iload_n 2, 1) := by decide +kernel
theorem dX10_paidOnce_50 : decode cX10_paidOnce 50 = .ok (.aload_n 0, 1) := by decide +kernel
theorem dX10_paidOnce_51 : decode cX10_paidOnce 51 = .ok (.getfield 79, 3) := by decide +kernel
theorem dX10_paidOnce_54 : decode cX10_paidOnce 54 = .ok (.getfield 250, 3) := by decide +kernel
theorem dX10_paidOnce_57 : decode cX10_paidOnce 57 = .ok (.iload_n 1, 1) := by decide +kernel
theorem dX10_paidOnce_58 : decode cX10_paidOnce 58 = .ok (.aaload, 1) := by decide +kernel
theorem dX10_paidOnce_59 : decode cX10_paidOnce 59 = .ok (.iload 4, 2) := by decide +kernel
theorem dX10_paidOnce_61 : decode cX10_paidOnce 61 = .ok (.iaload, 1) := by decide +kernel
theorem dX10_paidOnce_62 : decode cX10_paidOnce 62 = .ok (.iadd, 1) := by decide +kernel
theorem dX10_paidOnce_63 : decode cX10_paidOnce 63 = .ok (.istore_n 2, 1) := by decide +kernel
theorem dX10_paidOnce_64 : decode cX10_paidOnce 64 = .ok (.goto 21, 3) := by decide +kernel
theorem dX10_paidOnce_67 : decode cX10_paidOnce 67 = .ok (.aload_n 0, 1) := by decide +kernel
theorem dX10_paidOnce_68 : decode cX10_paidOnce 68 = .ok (.iload_n 1, 1) := by decide +kernel
theorem dX10_paidOnce_69 : decode cX10_paidOnce 69 = .ok (.iload 5, 2) := by decide +kernel
theorem dX10_paidOnce_71 : decode cX10_paidOnce 71 = .ok (.iload_n 3, 1) := by decide +kernel
theorem dX10_paidOnce_72 : decode cX10_paidOnce 72 = .ok (.ifCond .ne 7, 3) := by decide +kernel
theorem dX10_paidOnce_75 : decode cX10_paidOnce 75 = .ok (.iconst 1, 1) := by decide +kernel
theorem dX10_paidOnce_76 : decode cX10_paidOnce 76 = .ok (.goto 4, 3) := by decide +kernel
theorem dX10_paidOnce_79 : decode cX10_paidOnce 79 = .ok (.iconst 0, 1) := by decide +kernel
theorem dX10_paidOnce_80 : decode cX10_paidOnce 80 = .ok (.invokevirtual 267, 3) := by decide +kernel
theorem dX10_paidOnce_83 : decode cX10_paidOnce 83 = .ok (.iconst 1, 1) := by decide +kernel
theorem dX10_paidOnce_84 : decode cX10_paidOnce 84 = .ok (.istore_n 3, 1) := by decide +kernel
theorem dX10_paidOnce_85 : decode cX10_paidOnce 85 = .ok (.iinc 4 1, 3) := by decide +kernel
theorem dX10_paidOnce_88 : decode cX10_paidOnce 88 = .ok (.goto (-81), 3) := by decide +kernel
theorem dX10_paidOnce_91 : decode cX10_paidOnce 91 = .ok (.iload_n 3, 1) := by decide +kernel
theorem dX10_paidOnce_92 : decode cX10_paidOnce 92 = .ok (.ifCond .ne 5, 3) := by decide +kernel
theorem dX10_paidOnce_95 : decode cX10_paidOnce 95 = .ok (.iload_n 2, 1) := by decide +kernel
theorem dX10_paidOnce_96 : decode cX10_paidOnce 96 = .ok (.ireturn, 1) := by decide +kernel
theorem dX10_paidOnce_97 : decode cX10_paidOnce 97 = .ok (.aload_n 0, 1) := by decide +kernel
theorem dX10_paidOnce_98 : decode cX10_paidOnce 98 = .ok (.getfield 19, 3) := by decide +kernel
theorem dX10_paidOnce_101 : decode cX10_paidOnce 101 = .ok (.getfield 154, 3) := by decide +kernel
theorem dX10_paidOnce_104 : decode cX10_paidOnce 104 = .ok (.aload_n 0, 1) := by decide +kernel
theorem dX10_paidOnce_105 : decode cX10_paidOnce 105 = .ok (.getfield 19, 3) := by decide +kernel
theorem dX10_paidOnce_108 : decode cX10_paidOnce 108 = .ok (.getfield 189, 3) := by decide +kernel
theorem dX10_paidOnce_111 : decode cX10_paidOnce 111 = .ok (.iload_n 1, 1) := by decide +kernel
theorem dX10_paidOnce_112 : decode cX10_paidOnce 112 = .ok (.iaload, 1) := by decide +kernel
theorem dX10_paidOnce_113 : decode cX10_paidOnce 113 = .ok (.aaload, 1) := by decide +kernel
theorem dX10_paidOnce_114 : decode cX10_paidOnce 114 = .ok (.aload_n 0, 1) := by decide +kernel
theorem dX10_paidOnce_115 : decode cX10_paidOnce 115 = .ok (.getfield 90, 3) := by decide +kernel
theorem dX10_paidOnce_118 : decode cX10_paidOnce 118 = .ok (.iconst 0, 1) := by decide +kernel
theorem dX10_paidOnce_119 : decode cX10_paidOnce 119 = .ok (.invokevirtual 216, 3) := by decide +kernel
theorem dX10_paidOnce_122 : decode cX10_paidOnce 122 = .ok (.aload_n 0, 1) := by decide +kernel
theorem dX10_paidOnce_123 : decode cX10_paidOnce 123 = .ok (.getfield 90, 3) := by decide +kernel
theorem dX10_paidOnce_126 : decode cX10_paidOnce 126 = .ok (.aload_n 0, 1) := by decide +kernel
theorem dX10_paidOnce_127 : decode cX10_paidOnce 127 = .ok (.getfield 87, 3) := by decide +kernel
theorem dX10_paidOnce_130 : decode cX10_paidOnce 130 = .ok (.invokestatic 236, 3) := by decide +kernel
theorem dX10_paidOnce_133 : decode cX10_paidOnce 133 = .ok (.istore 4, 2) := by decide +kernel
theorem dX10_paidOnce_135 : decode cX10_paidOnce 135 = .ok (.iload 4, 2) := by decide +kernel
theorem dX10_paidOnce_137 : decode cX10_paidOnce 137 = .ok (.iconst (-1), 1) := by decide +kernel
theorem dX10_paidOnce_138 : decode cX10_paidOnce 138 = .ok (.if_icmp .ne 7, 3) := by decide +kernel
theorem dX10_paidOnce_141 : decode cX10_paidOnce 141 = .ok (.iconst (-1), 1) := by decide +kernel
theorem dX10_paidOnce_142 : decode cX10_paidOnce 142 = .ok (.goto 7, 3) := by decide +kernel
theorem dX10_paidOnce_145 : decode cX10_paidOnce 145 = .ok (.iload 4, 2) := by decide +kernel
theorem dX10_paidOnce_147 : decode cX10_paidOnce 147 = .ok (.iload_n 2, 1) := by decide +kernel
theorem dX10_paidOnce_148 : decode cX10_paidOnce 148 = .ok (.iadd, 1) := by decide +kernel
theorem dX10_paidOnce_149 : decode cX10_paidOnce 149 = .ok (.ireturn, 1) := by decide +kernel
theorem dX10_put_0 : decode cX10_put 0 = .ok (.aload_n 0, 1) := by decide +kernel
theorem dX10_put_1 : decode cX10_put 1 = .ok (.iload_n 1, 1) := by decide +kernel
theorem dX10_put_2 : decode cX10_put 2 = .ok (.invokevirtual 144, 3) := by decide +kernel
theorem dX10_put_5 : decode cX10_put 5 = .ok (.ifCond .eq 30, 3) := by decide +kernel
theorem dX10_put_8 : decode cX10_put 8 = .ok (.iload_n 2, 1) := by decide +kernel
theorem dX10_put_9 : decode cX10_put 9 = .ok (.iconst 1, 1) := by decide +kernel
theorem dX10_put_10 : decode cX10_put 10 = .ok (.if_icmp .lt 25, 3) := by decide +kernel
theorem dX10_put_13 : decode cX10_put 13 = .ok (.iload_n 2, 1) := by decide +kernel
theorem dX10_put_14 : decode cX10_put 14 = .ok (.bipush 9, 2) := by decide +kernel
theorem dX10_put_16 : decode cX10_put 16 = .ok (.if_icmp .gt 19, 3) := by decide +kernel
theorem dX10_put_19 : decode cX10_put 19 = .ok (.aload_n 0, 1) := by decide +kernel
theorem dX10_put_20 : decode cX10_put 20 = .ok (.getfield 48, 3) := by decide +kernel
theorem dX10_put_23 : decode cX10_put 23 = .ok (.aload_n 0, 1) := by decide +kernel
theorem dX10_put_24 : decode cX10_put 24 = .ok (.getfield 19, 3) := by decide +kernel
theorem dX10_put_27 : decode cX10_put 27 = .ok (.iload_n 1, 1) := by decide +kernel
theorem dX10_put_28 : decode cX10_put 28 = .ok (.iload_n 2, 1) := by decide +kernel
theorem dX10_put_29 : decode cX10_put 29 = .ok (.invokevirtual 291, 3) := by decide +kernel
theorem dX10_put_32 : decode cX10_put 32 = .ok (.goto 4, 3) := by decide +kernel
theorem dX10_put_35 : decode cX10_put 35 = .ok (.iconst (-1), 1) := by decide +kernel
theorem dX10_put_36 : decode cX10_put 36 = .ok (.ireturn, 1) := by decide +kernel
theorem dX10_rounds_0 : decode cX10_rounds 0 = .ok (.aload_n 0, 1) := by decide +kernel
theorem dX10_rounds_1 : decode cX10_rounds 1 = .ok (.getfield 79, 3) := by decide +kernel
theorem dX10_rounds_4 : decode cX10_rounds 4 = .ok (.aload_n 0, 1) := by decide +kernel
theorem dX10_rounds_5 : decode cX10_rounds 5 = .ok (.getfield 19, 3) := by decide +kernel
theorem dX10_rounds_8 : decode cX10_rounds 8 = .ok (.invokevirtual 243, 3) := by decide +kernel
theorem dX10_rounds_11 : decode cX10_rounds 11 = .ok (.ireturn, 1) := by decide +kernel
theorem dX10_run_0 : decode cX10_run 0 = .ok (.aload_n 0, 1) := by decide +kernel
theorem dX10_run_1 : decode cX10_run 1 = .ok (.getfield 42, 3) := by decide +kernel
theorem dX10_run_4 : decode cX10_run 4 = .ok (.aload_n 0, 1) := by decide +kernel
theorem dX10_run_5 : decode cX10_run 5 = .ok (.getfield 10, 3) := by decide +kernel
theorem dX10_run_8 : decode cX10_run 8 = .ok (.aload_n 0, 1) := by decide +kernel
theorem dX10_run_9 : decode cX10_run 9 = .ok (.getfield 19, 3) := by decide +kernel
theorem dX10_run_12 : decode cX10_run 12 = .ok (.invokevirtual 132, 3) := by decide +kernel
theorem dX10_run_15 : decode cX10_run 15 = .ok (.istore_n 1, 1) := by decide +kernel
theorem dX10_run_16 : decode cX10_run 16 = .ok (.aload_n 0, 1) := by decide +kernel
theorem dX10_run_17 : decode cX10_run 17 = .ok (.getfield 10, 3) := by decide +kernel
theorem dX10_run_20 : decode cX10_run 20 = .ok (.invokevirtual 114, 3) := by decide +kernel
theorem dX10_run_23 : decode cX10_run 23 = .ok (.iload_n 1, 1) := by decide +kernel
theorem dX10_run_24 : decode cX10_run 24 = .ok (.ifCond .ne 21, 3) := by decide +kernel
theorem dX10_run_27 : decode cX10_run 27 = .ok (.aload_n 0, 1) := by decide +kernel
theorem dX10_run_28 : decode cX10_run 28 = .ok (.getfield 38, 3) := by decide +kernel
theorem dX10_run_31 : decode cX10_run 31 = .ok (.astore_n 2, 1) := by decide +kernel
theorem dX10_run_32 : decode cX10_run 32 = .ok (.aload_n 0, 1) := by decide +kernel
theorem dX10_run_33 : decode cX10_run 33 = .ok (.aload_n 0, 1) := by decide +kernel
theorem dX10_run_34 : decode cX10_run 34 = .ok (.getfield 42, 3) := by decide +kernel
theorem dX10_run_37 : decode cX10_run 37 = .ok (.putfield 38, 3) := by decide +kernel
theorem dX10_run_40 : decode cX10_run 40 = .ok (.aload_n 0, 1) := by decide +kernel
theorem dX10_run_41 : decode cX10_run 41 = .ok (.aload_n 2, 1) := by decide +kernel
theorem dX10_run_42 : decode cX10_run 42 = .ok (.putfield 42, 3) := by decide +kernel
theorem dX10_run_45 : decode cX10_run 45 = .ok (.iload_n 1, 1) := by decide +kernel
theorem dX10_run_46 : decode cX10_run 46 = .ok (.ireturn, 1) := by decide +kernel
theorem dX10_saves_0 : decode cX10_saves 0 = .ok (.aload_n 0, 1) := by decide +kernel
theorem dX10_saves_1 : decode cX10_saves 1 = .ok (.iload_n 1, 1) := by decide +kernel
theorem dX10_saves_2 : decode cX10_saves 2 = .ok (.invokevirtual 144, 3) := by decide +kernel
theorem dX10_saves_5 : decode cX10_saves 5 = .ok (.ifCond .eq 18, 3) := by decide +kernel
theorem dX10_saves_8 : decode cX10_saves 8 = .ok (.aload_n 0, 1) := by decide +kernel
theorem dX10_saves_9 : decode cX10_saves 9 = .ok (.invokevirtual 246, 3) := by decide +kernel
theorem dX10_saves_12 : decode cX10_saves 12 = .ok (.ifCond .ne 11, 3) := by decide +kernel
theorem dX10_saves_15 : decode cX10_saves 15 = .ok (.aload_n 0, 1) := by decide +kernel
theorem dX10_saves_16 : decode cX10_saves 16 = .ok (.iload_n 1, 1) := by decide +kernel
theorem dX10_saves_17 : decode cX10_saves 17 = .ok (.invokevirtual 264, 3) := by decide +kernel
theorem dX10_saves_20 : decode cX10_saves 20 = .ok (.goto 4, 3) := by decide +kernel
theorem dX10_saves_23 : decode cX10_saves 23 = .ok (.iconst (-1), 1) := by decide +kernel
theorem dX10_saves_24 : decode cX10_saves 24 = .ok (.istore_n 2, 1) := by decide +kernel
theorem dX10_saves_25 : decode cX10_saves 25 = .ok (.iload_n 2, 1) := by decide +kernel
theorem dX10_saves_26 : decode cX10_saves 26 = .ok (.iconst (-1), 1) := by decide +kernel
theorem dX10_saves_27 : decode cX10_saves 27 = .ok (.if_icmp .ne 11, 3) := by decide +kernel
theorem dX10_saves_30 : decode cX10_saves 30 = .ok (.new 230, 3) := by decide +kernel
theorem dX10_saves_33 : decode cX10_saves 33 = .ok (.dup, 1) := by decide +kernel
theorem dX10_saves_34 : decode cX10_saves 34 = .ok (.invokespecial 232, 3) := by decide +kernel
theorem dX10_saves_37 : decode cX10_saves 37 = .ok (.athrow, 1) := by decide +kernel
theorem dX10_saves_38 : decode cX10_saves 38 = .ok (.aload_n 0, 1) := by decide +kernel
theorem dX10_saves_39 : decode cX10_saves 39 = .ok (.getfield 79, 3) := by decide +kernel
theorem dX10_saves_42 : decode cX10_saves 42 = .ok (.iload_n 1, 1) := by decide +kernel
theorem dX10_saves_43 : decode cX10_saves 43 = .ok (.invokevirtual 261, 3) := by decide +kernel
theorem dX10_saves_46 : decode cX10_saves 46 = .ok (.iload_n 2, 1) := by decide +kernel
theorem dX10_saves_47 : decode cX10_saves 47 = .ok (.isub, 1) := by decide +kernel
theorem dX10_saves_48 : decode cX10_saves 48 = .ok (.ireturn, 1) := by decide +kernel
theorem dX10_see_0 : decode cX10_see 0 = .ok (.iload_n 1, 1) := by decide +kernel
theorem dX10_see_1 : decode cX10_see 1 = .ok (.bipush 60, 2) := by decide +kernel
theorem dX10_see_3 : decode cX10_see 3 = .ok (.invokestatic 210, 3) := by decide +kernel
theorem dX10_see_6 : decode cX10_see 6 = .ok (.ifCond .eq 30, 3) := by decide +kernel
theorem dX10_see_9 : decode cX10_see 9 = .ok (.iload_n 2, 1) := by decide +kernel
theorem dX10_see_10 : decode cX10_see 10 = .ok (.sipush 999, 3) := by decide +kernel
theorem dX10_see_13 : decode cX10_see 13 = .ok (.invokestatic 210, 3) := by decide +kernel
theorem dX10_see_16 : decode cX10_see 16 = .ok (.ifCond .eq 20, 3) := by decide +kernel
theorem dX10_see_19 : decode cX10_see 19 = .ok (.aload_n 0, 1) := by decide +kernel
theorem dX10_see_20 : decode cX10_see 20 = .ok (.getfield 58, 3) := by decide +kernel
theorem dX10_see_23 : decode cX10_see 23 = .ok (.iload_n 1, 1) := by decide +kernel
theorem dX10_see_24 : decode cX10_see 24 = .ok (.iload_n 2, 1) := by decide +kernel
theorem dX10_see_25 : decode cX10_see 25 = .ok (.iload_n 3, 1) := by decide +kernel
theorem dX10_see_26 : decode cX10_see 26 = .ok (.invokevirtual 323, 3) := by decide +kernel
theorem dX10_see_29 : decode cX10_see 29 = .ok (.ifCond .eq 7, 3) := by decide +kernel
theorem dX10_see_32 : decode cX10_see 32 = .ok (.iconst 1, 1) := by decide +kernel
theorem dX10_see_33 : decode cX10_see 33 = .ok (.goto 4, 3) := by decide +kernel
theorem dX10_see_36 : decode cX10_see 36 = .ok (.iconst 0, 1) := by decide +kernel
theorem dX10_see_37 : decode cX10_see 37 = .ok (.ireturn, 1) := by decide +kernel
theorem dX10_serves_0 : decode cX10_serves 0 = .ok (.aload_n 0, 1) := by decide +kernel
theorem dX10_serves_1 : decode cX10_serves 1 = .ok (.iload_n 1, 1) := by decide +kernel
theorem dX10_serves_2 : decode cX10_serves 2 = .ok (.invokevirtual 171, 3) := by decide +kernel
theorem dX10_serves_5 : decode cX10_serves 5 = .ok (.ifCond .eq 18, 3) := by decide +kernel
theorem dX10_serves_8 : decode cX10_serves 8 = .ok (.aload_n 0, 1) := by decide +kernel
theorem dX10_serves_9 : decode cX10_serves 9 = .ok (.getfield 48, 3) := by decide +kernel
theorem dX10_serves_12 : decode cX10_serves 12 = .ok (.aload_n 0, 1) := by decide +kernel
theorem dX10_serves_13 : decode cX10_serves 13 = .ok (.getfield 19, 3) := by decide +kernel
theorem dX10_serves_16 : decode cX10_serves 16 = .ok (.iload_n 1, 1) := by decide +kernel
theorem dX10_serves_17 : decode cX10_serves 17 = .ok (.invokevirtual 316, 3) := by decide +kernel
theorem dX10_serves_20 : decode cX10_serves 20 = .ok (.goto 4, 3) := by decide +kernel
theorem dX10_serves_23 : decode cX10_serves 23 = .ok (.iconst (-1), 1) := by decide +kernel
theorem dX10_serves_24 : decode cX10_serves 24 = .ok (.ireturn, 1) := by decide +kernel
theorem dX10_star_0 : decode cX10_star 0 = .ok (.aload_n 0, 1) := by decide +kernel
theorem dX10_star_1 : decode cX10_star 1 = .ok (.iload_n 1, 1) := by decide +kernel
theorem dX10_star_2 : decode cX10_star 2 = .ok (.invokevirtual 151, 3) := by decide +kernel
theorem dX10_star_5 : decode cX10_star 5 = .ok (.ifCond .eq 12, 3) := by decide +kernel
theorem dX10_star_8 : decode cX10_star 8 = .ok (.iload_n 2, 1) := by decide +kernel
theorem dX10_star_9 : decode cX10_star 9 = .ok (.bipush 60, 2) := by decide +kernel
theorem dX10_star_11 : decode cX10_star 11 = .ok (.invokestatic 210, 3) := by decide +kernel
theorem dX10_star_14 : decode cX10_star 14 = .ok (.ifCond .ne 5, 3) := by decide +kernel
theorem dX10_star_17 : decode cX10_star 17 = .ok (.iconst (-1), 1) := by decide +kernel
theorem dX10_star_18 : decode cX10_star 18 = .ok (.ireturn, 1) := by decide +kernel
theorem dX10_star_19 : decode cX10_star 19 = .ok (.aload_n 0, 1) := by decide +kernel
theorem dX10_star_20 : decode cX10_star 20 = .ok (.getfield 87, 3) := by decide +kernel
theorem dX10_star_23 : decode cX10_star 23 = .ok (.astore_n 3, 1) := by decide +kernel
theorem dX10_star_24 : decode cX10_star 24 = .ok (.aload_n 3, 1) := by decide +kernel
theorem dX10_star_25 : decode cX10_star 25 = .ok (.iconst 0, 1) := by decide +kernel
theorem dX10_star_26 : decode cX10_star 26 = .ok (.iconst 0, 1) := by decide +kernel
theorem dX10_star_27 : decode cX10_star 27 = .ok (.iastore, 1) := by decide +kernel
theorem dX10_star_28 : decode cX10_star 28 = .ok (.iconst 1, 1) := by decide +kernel
theorem dX10_star_29 : decode cX10_star 29 = .ok (.istore 4, 2) := by decide +kernel
theorem dX10_star_31 : decode cX10_star 31 = .ok (.iload 4, 2) := by decide +kernel
theorem dX10_star_33 : decode cX10_star 33 = .ok (.iload_n 2, 1) := by decide +kernel
theorem dX10_star_34 : decode cX10_star 34 = .ok (.if_icmp .gt 69, 3) := by decide +kernel
theorem dX10_star_37 : decode cX10_star 37 = .ok (.aload_n 0, 1) := by decide +kernel
theorem dX10_star_38 : decode cX10_star 38 = .ok (.getfield 19, 3) := by decide +kernel
theorem dX10_star_41 : decode cX10_star 41 = .ok (.getfield 154, 3) := by decide +kernel
theorem dX10_star_44 : decode cX10_star 44 = .ok (.iload_n 1, 1) := by decide +kernel
theorem dX10_star_45 : decode cX10_star 45 = .ok (.aaload, 1) := by decide +kernel
theorem dX10_star_46 : decode cX10_star 46 = .ok (.iload 4, 2) := by decide +kernel
theorem dX10_star_48 : decode cX10_star 48 = .ok (.invokevirtual 213, 3) := by decide +kernel
theorem dX10_star_51 : decode cX10_star 51 = .ok (.istore 5, 2) := by decide +kernel
theorem dX10_star_53 : decode cX10_star 53 = .ok (.iconst 1, 1) := by decide +kernel
theorem dX10_star_54 : decode cX10_star 54 = .ok (.istore 6, 2) := by decide +kernel
theorem dX10_star_56 : decode cX10_star 56 = .ok (.iload 6, 2) := by decide +kernel
theorem dX10_star_58 : decode cX10_star 58 = .ok (.iload 4, 2) := by decide +kernel
theorem dX10_star_60 : decode cX10_star 60 = .ok (.iload 6, 2) := by decide +kernel
theorem dX10_star_62 : decode cX10_star 62 = .ok (.isub, 1) := by decide +kernel
theorem dX10_star_63 : decode cX10_star 63 = .ok (.if_icmp .gt 28, 3) := by decide +kernel
theorem dX10_star_66 : decode cX10_star 66 = .ok (.iload 5, 2) := by decide +kernel
theorem dX10_star_68 : decode cX10_star 68 = .ok (.aload_n 3, 1) := by decide +kernel
theorem dX10_star_69 : decode cX10_star 69 = .ok (.iload 6, 2) := by decide +kernel
theorem dX10_star_71 : decode cX10_star 71 = .ok (.iaload, 1) := by decide +kernel
theorem dX10_star_72 : decode cX10_star 72 = .ok (.aload_n 3, 1) := by decide +kernel
theorem dX10_star_73 : decode cX10_star 73 = .ok (.iload 4, 2) := by decide +kernel
theorem dX10_star_75 : decode cX10_star 75 = .ok (.iload 6, 2) := by decide +kernel
theorem dX10_star_77 : decode cX10_star 77 = .ok (.isub, 1) := by decide +kernel
theorem dX10_star_78 : decode cX10_star 78 = .ok (.iaload, 1) := by decide +kernel
theorem dX10_star_79 : decode cX10_star 79 = .ok (.iadd, 1) := by decide +kernel
theorem dX10_star_80 : decode cX10_star 80 = .ok (.invokestatic 224, 3) := by decide +kernel
theorem dX10_star_83 : decode cX10_star 83 = .ok (.istore 5, 2) := by decide +kernel
theorem dX10_star_85 : decode cX10_star 85 = .ok (.iinc 6 1, 3) := by decide +kernel
theorem dX10_star_88 : decode cX10_star 88 = .ok (.goto (-32), 3) := by decide +kernel
theorem dX10_star_91 : decode cX10_star 91 = .ok (.aload_n 3, 1) := by decide +kernel
theorem dX10_star_92 : decode cX10_star 92 = .ok (.iload 4, 2) := by decide +kernel
theorem dX10_star_94 : decode cX10_star 94 = .ok (.iload 5, 2) := by decide +kernel
theorem dX10_star_96 : decode cX10_star 96 = .ok (.iastore, 1) := by decide +kernel
theorem dX10_star_97 : decode cX10_star 97 = .ok (.iinc 4 1, 3) := by decide +kernel
theorem dX10_star_100 : decode cX10_star 100 = .ok (.goto (-69), 3) := by decide +kernel
theorem dX10_star_103 : decode cX10_star 103 = .ok (.aload_n 3, 1) := by decide +kernel
theorem dX10_star_104 : decode cX10_star 104 = .ok (.iload_n 2, 1) := by decide +kernel
theorem dX10_star_105 : decode cX10_star 105 = .ok (.iaload, 1) := by decide +kernel
theorem dX10_star_106 : decode cX10_star 106 = .ok (.ireturn, 1) := by decide +kernel
theorem dX10_sub_0 : decode cX10_sub 0 = .ok (.aload_n 0, 1) := by decide +kernel
theorem dX10_sub_1 : decode cX10_sub 1 = .ok (.iload_n 1, 1) := by decide +kernel
theorem dX10_sub_2 : decode cX10_sub 2 = .ok (.invokevirtual 151, 3) := by decide +kernel
theorem dX10_sub_5 : decode cX10_sub 5 = .ok (.ifCond .ne 5, 3) := by decide +kernel
theorem dX10_sub_8 : decode cX10_sub 8 = .ok (.iconst 0, 1) := by decide +kernel
theorem dX10_sub_9 : decode cX10_sub 9 = .ok (.ireturn, 1) := by decide +kernel
theorem dX10_sub_10 : decode cX10_sub 10 = .ok (.aload_n 0, 1) := by decide +kernel
theorem dX10_sub_11 : decode cX10_sub 11 = .ok (.getfield 87, 3) := by decide +kernel
theorem dX10_sub_14 : decode cX10_sub 14 = .ok (.astore_n 2, 1) := by decide +kernel
theorem dX10_sub_15 : decode cX10_sub 15 = .ok (.aload_n 0, 1) := by decide +kernel
theorem dX10_sub_16 : decode cX10_sub 16 = .ok (.getfield 19, 3) := by decide +kernel
theorem dX10_sub_19 : decode cX10_sub 19 = .ok (.getfield 154, 3) := by decide +kernel
theorem dX10_sub_22 : decode cX10_sub 22 = .ok (.iload_n 1, 1) := by decide +kernel
theorem dX10_sub_23 : decode cX10_sub 23 = .ok (.aaload, 1) := by decide +kernel
theorem dX10_sub_24 : decode cX10_sub 24 = .ok (.aload_n 2, 1) := by decide +kernel
theorem dX10_sub_25 : decode cX10_sub 25 = .ok (.iconst 0, 1) := by decide +kernel
theorem dX10_sub_26 : decode cX10_sub 26 = .ok (.invokevirtual 216, 3) := by decide +kernel
theorem dX10_sub_29 : decode cX10_sub 29 = .ok (.iconst 2, 1) := by decide +kernel
theorem dX10_sub_30 : decode cX10_sub 30 = .ok (.istore_n 3, 1) := by decide +kernel
theorem dX10_sub_31 : decode cX10_sub 31 = .ok (.iload_n 3, 1) := by decide +kernel
theorem dX10_sub_32 : decode cX10_sub 32 = .ok (.bipush 60, 2) := by decide +kernel
theorem dX10_sub_34 : decode cX10_sub 34 = .ok (.if_icmp .gt 46, 3) := by decide +kernel
theorem dX10_sub_37 : decode cX10_sub 37 = .ok (.iconst 1, 1) := by decide +kernel
theorem dX10_sub_38 : decode cX10_sub 38 = .ok (.istore 4, 2) := by decide +kernel
theorem dX10_sub_40 : decode cX10_sub 40 = .ok (.iload 4, 2) := by decide +kernel
theorem dX10_sub_42 : decode cX10_sub 42 = .ok (.iload_n 3, 1) := by decide +kernel
theorem dX10_sub_43 : decode cX10_sub 43 = .ok (.iload 4, 2) := by decide +kernel
theorem dX10_sub_45 : decode cX10_sub 45 = .ok (.isub, 1) := by decide +kernel
theorem dX10_sub_46 : decode cX10_sub 46 = .ok (.if_icmp .gt 28, 3) := by decide +kernel
theorem dX10_sub_49 : decode cX10_sub 49 = .ok (.aload_n 2, 1) := by decide +kernel
theorem dX10_sub_50 : decode cX10_sub 50 = .ok (.iload 4, 2) := by decide +kernel
theorem dX10_sub_52 : decode cX10_sub 52 = .ok (.iaload, 1) := by decide +kernel
theorem dX10_sub_53 : decode cX10_sub 53 = .ok (.aload_n 2, 1) := by decide +kernel
theorem dX10_sub_54 : decode cX10_sub 54 = .ok (.iload_n 3, 1) := by decide +kernel
theorem dX10_sub_55 : decode cX10_sub 55 = .ok (.iload 4, 2) := by decide +kernel
theorem dX10_sub_57 : decode cX10_sub 57 = .ok (.isub, 1) := by decide +kernel
theorem dX10_sub_58 : decode cX10_sub 58 = .ok (.iaload, 1) := by decide +kernel
theorem dX10_sub_59 : decode cX10_sub 59 = .ok (.iadd, 1) := by decide +kernel
theorem dX10_sub_60 : decode cX10_sub 60 = .ok (.aload_n 2, 1) := by decide +kernel
theorem dX10_sub_61 : decode cX10_sub 61 = .ok (.iload_n 3, 1) := by decide +kernel
theorem dX10_sub_62 : decode cX10_sub 62 = .ok (.iaload, 1) := by decide +kernel
theorem dX10_sub_63 : decode cX10_sub 63 = .ok (.if_icmp .ge 5, 3) := by decide +kernel
theorem dX10_sub_66 : decode cX10_sub 66 = .ok (.iconst 0, 1) := by decide +kernel
theorem dX10_sub_67 : decode cX10_sub 67 = .ok (.ireturn, 1) := by decide +kernel
theorem dX10_sub_68 : decode cX10_sub 68 = .ok (.iinc 4 1, 3) := by decide +kernel
theorem dX10_sub_71 : decode cX10_sub 71 = .ok (.goto (-31), 3) := by decide +kernel
theorem dX10_sub_74 : decode cX10_sub 74 = .ok (.iinc 3 1, 3) := by decide +kernel
theorem dX10_sub_77 : decode cX10_sub 77 = .ok (.goto (-46), 3) := by decide +kernel
theorem dX10_sub_80 : decode cX10_sub 80 = .ok (.iconst 1, 1) := by decide +kernel
theorem dX10_sub_81 : decode cX10_sub 81 = .ok (.ireturn, 1) := by decide +kernel
theorem dX10_tick_0 : decode cX10_tick 0 = .ok (.aload_n 0, 1) := by decide +kernel
theorem dX10_tick_1 : decode cX10_tick 1 = .ok (.getfield 48, 3) := by decide +kernel
theorem dX10_tick_4 : decode cX10_tick 4 = .ok (.aload_n 0, 1) := by decide +kernel
theorem dX10_tick_5 : decode cX10_tick 5 = .ok (.getfield 19, 3) := by decide +kernel
theorem dX10_tick_8 : decode cX10_tick 8 = .ok (.invokevirtual 295, 3) := by decide +kernel
theorem dX10_tick_11 : decode cX10_tick 11 = .ok (.ireturn, 1) := by decide +kernel
theorem dX10_total_0 : decode cX10_total 0 = .ok (.aload_n 0, 1) := by decide +kernel
theorem dX10_total_1 : decode cX10_total 1 = .ok (.iload_n 1, 1) := by decide +kernel
theorem dX10_total_2 : decode cX10_total 2 = .ok (.invokevirtual 144, 3) := by decide +kernel
theorem dX10_total_5 : decode cX10_total 5 = .ok (.ifCond .eq 21, 3) := by decide +kernel
theorem dX10_total_8 : decode cX10_total 8 = .ok (.aload_n 0, 1) := by decide +kernel
theorem dX10_total_9 : decode cX10_total 9 = .ok (.invokevirtual 246, 3) := by decide +kernel
theorem dX10_total_12 : decode cX10_total 12 = .ok (.ifCond .ne 14, 3) := by decide +kernel
theorem dX10_total_15 : decode cX10_total 15 = .ok (.aload_n 0, 1) := by decide +kernel
theorem dX10_total_16 : decode cX10_total 16 = .ok (.getfield 79, 3) := by decide +kernel
theorem dX10_total_19 : decode cX10_total 19 = .ok (.iload_n 1, 1) := by decide +kernel
theorem dX10_total_20 : decode cX10_total 20 = .ok (.invokevirtual 261, 3) := by decide +kernel
theorem dX10_total_23 : decode cX10_total 23 = .ok (.goto 4, 3) := by decide +kernel
theorem dX10_total_26 : decode cX10_total 26 = .ok (.iconst (-1), 1) := by decide +kernel
theorem dX10_total_27 : decode cX10_total 27 = .ok (.ireturn, 1) := by decide +kernel
theorem dX10_triedTotal_0 : decode cX10_triedTotal 0 = .ok (.iload_n 1, 1) := by decide +kernel
theorem dX10_triedTotal_1 : decode cX10_triedTotal 1 = .ok (.bipush 6, 2) := by decide +kernel
theorem dX10_triedTotal_3 : decode cX10_triedTotal 3 = .ok (.imul, 1) := by decide +kernel
theorem dX10_triedTotal_4 : decode cX10_triedTotal 4 = .ok (.iload_n 2, 1) := by decide +kernel
theorem dX10_triedTotal_5 : decode cX10_triedTotal 5 = .ok (.iadd, 1) := by decide +kernel
theorem dX10_triedTotal_6 : decode cX10_triedTotal 6 = .ok (.iconst 4, 1) := by decide +kernel
theorem dX10_triedTotal_7 : decode cX10_triedTotal 7 = .ok (.imul, 1) := by decide +kernel
theorem dX10_triedTotal_8 : decode cX10_triedTotal 8 = .ok (.istore 4, 2) := by decide +kernel
theorem dX10_triedTotal_10 : decode cX10_triedTotal 10 = .ok (.aload_n 0, 1) := by decide +kernel
theorem dX10_triedTotal_11 : decode cX10_triedTotal 11 = .ok (.getfield 83, 3) := by decide +kernel
theorem dX10_triedTotal_14 : decode cX10_triedTotal 14 = .ok (.iload 4, 2) := by decide +kernel
theorem dX10_triedTotal_16 : decode cX10_triedTotal 16 = .ok (.iload_n 3, 1) := by decide +kernel
theorem dX10_triedTotal_17 : decode cX10_triedTotal 17 = .ok (.iadd, 1) := by decide +kernel
theorem dX10_triedTotal_18 : decode cX10_triedTotal 18 = .ok (.iaload, 1) := by decide +kernel
theorem dX10_triedTotal_19 : decode cX10_triedTotal 19 = .ok (.bipush (-2), 2) := by decide +kernel
theorem dX10_triedTotal_21 : decode cX10_triedTotal 21 = .ok (.if_icmp .ne 71, 3) := by decide +kernel
theorem dX10_triedTotal_24 : decode cX10_triedTotal 24 = .ok (.aload_n 0, 1) := by decide +kernel
theorem dX10_triedTotal_25 : decode cX10_triedTotal 25 = .ok (.getfield 79, 3) := by decide +kernel
theorem dX10_triedTotal_28 : decode cX10_triedTotal 28 = .ok (.aload_n 0, 1) := by decide +kernel
theorem dX10_triedTotal_29 : decode cX10_triedTotal 29 = .ok (.getfield 19, 3) := by decide +kernel
theorem dX10_triedTotal_32 : decode cX10_triedTotal 32 = .ok (.iload_n 1, 1) := by decide +kernel
theorem dX10_triedTotal_33 : decode cX10_triedTotal 33 = .ok (.iload_n 2, 1) := by decide +kernel
theorem dX10_triedTotal_34 : decode cX10_triedTotal 34 = .ok (.invokevirtual 284, 3) := by decide +kernel
theorem dX10_triedTotal_37 : decode cX10_triedTotal 37 = .ok (.iconst 0, 1) := by decide +kernel
theorem dX10_triedTotal_38 : decode cX10_triedTotal 38 = .ok (.istore 5, 2) := by decide +kernel
theorem dX10_triedTotal_40 : decode cX10_triedTotal 40 = .ok (.iload 5, 2) := by decide +kernel
theorem dX10_triedTotal_42 : decode cX10_triedTotal 42 = .ok (.aload_n 0, 1) := by decide +kernel
theorem dX10_triedTotal_43 : decode cX10_triedTotal 43 = .ok (.getfield 19, 3) := by decide +kernel
theorem dX10_triedTotal_46 : decode cX10_triedTotal 46 = .ok (.getfield 141, 3) := by decide +kernel
theorem dX10_triedTotal_49 : decode cX10_triedTotal 49 = .ok (.if_icmp .ge 43, 3) := by decide +kernel
theorem dX10_triedTotal_52 : decode cX10_triedTotal 52 = .ok (.aload_n 0, 1) := by decide +kernel
theorem dX10_triedTotal_53 : decode cX10_triedTotal 53 = .ok (.getfield 83, 3) := by decide +kernel
theorem dX10_triedTotal_56 : decode cX10_triedTotal 56 = .ok (.iload 4, 2) := by decide +kernel
theorem dX10_triedTotal_58 : decode cX10_triedTotal 58 = .ok (.iload 5, 2) := by decide +kernel
theorem dX10_triedTotal_60 : decode cX10_triedTotal 60 = .ok (.iadd, 1) := by decide +kernel
theorem dX10_triedTotal_61 : decode cX10_triedTotal 61 = .ok (.aload_n 0, 1) := by decide +kernel
theorem dX10_triedTotal_62 : decode cX10_triedTotal 62 = .ok (.getfield 79, 3) := by decide +kernel
theorem dX10_triedTotal_65 : decode cX10_triedTotal 65 = .ok (.getfield 288, 3) := by decide +kernel
theorem dX10_triedTotal_68 : decode cX10_triedTotal 68 = .ok (.iconst (-1), 1) := by decide +kernel
theorem dX10_triedTotal_69 : decode cX10_triedTotal 69 = .ok (.if_icmp .ne 7, 3) := by decide +kernel
theorem dX10_triedTotal_72 : decode cX10_triedTotal 72 = .ok (.iconst (-1), 1) := by decide +kernel
theorem dX10_triedTotal_73 : decode cX10_triedTotal 73 = .ok (.goto 12, 3) := by decide +kernel
theorem dX10_triedTotal_76 : decode cX10_triedTotal 76 = .ok (.aload_n 0, 1) := by decide +kernel
theorem dX10_triedTotal_77 : decode cX10_triedTotal 77 = .ok (.getfield 79, 3) := by decide +kernel
theorem dX10_triedTotal_80 : decode cX10_triedTotal 80 = .ok (.iload 5, 2) := by decide +kernel
theorem dX10_triedTotal_82 : decode cX10_triedTotal 82 = .ok (.invokevirtual 261, 3) := by decide +kernel
theorem dX10_triedTotal_85 : decode cX10_triedTotal 85 = .ok (.iastore, 1) := by decide +kernel
theorem dX10_triedTotal_86 : decode cX10_triedTotal 86 = .ok (.iinc 5 1, 3) := by decide +kernel
theorem dX10_triedTotal_89 : decode cX10_triedTotal 89 = .ok (.goto (-49), 3) := by decide +kernel
theorem dX10_triedTotal_92 : decode cX10_triedTotal 92 = .ok (.aload_n 0, 1) := by decide +kernel
theorem dX10_triedTotal_93 : decode cX10_triedTotal 93 = .ok (.getfield 83, 3) := by decide +kernel
theorem dX10_triedTotal_96 : decode cX10_triedTotal 96 = .ok (.iload 4, 2) := by decide +kernel
theorem dX10_triedTotal_98 : decode cX10_triedTotal 98 = .ok (.iload_n 3, 1) := by decide +kernel
theorem dX10_triedTotal_99 : decode cX10_triedTotal 99 = .ok (.iadd, 1) := by decide +kernel
theorem dX10_triedTotal_100 : decode cX10_triedTotal 100 = .ok (.iaload, 1) := by decide +kernel
theorem dX10_triedTotal_101 : decode cX10_triedTotal 101 = .ok (.ireturn, 1) := by decide +kernel
theorem dX10_tries_0 : decode cX10_tries 0 = .ok (.aload_n 0, 1) := by decide +kernel
theorem dX10_tries_1 : decode cX10_tries 1 = .ok (.iload_n 1, 1) := by decide +kernel
theorem dX10_tries_2 : decode cX10_tries 2 = .ok (.invokevirtual 171, 3) := by decide +kernel
theorem dX10_tries_5 : decode cX10_tries 5 = .ok (.ifCond .eq 29, 3) := by decide +kernel
theorem dX10_tries_8 : decode cX10_tries 8 = .ok (.aload_n 0, 1) := by decide +kernel
theorem dX10_tries_9 : decode cX10_tries 9 = .ok (.iload_n 2, 1) := by decide +kernel
theorem dX10_tries_10 : decode cX10_tries 10 = .ok (.invokevirtual 151, 3) := by decide +kernel
theorem dX10_tries_13 : decode cX10_tries 13 = .ok (.ifCond .eq 21, 3) := by decide +kernel
theorem dX10_tries_16 : decode cX10_tries 16 = .ok (.aload_n 0, 1) := by decide +kernel
