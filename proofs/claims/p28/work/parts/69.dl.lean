theorem dL_law_0 : decode cL_law 0 = .ok (.new 7, 3) := dec_2 oL_law (of187 _) 0 7 rfl rfl
theorem dL_law_3 : decode cL_law 3 = .ok (.dup, 1) := dec_0 oL_law (of89 _) rfl
theorem dL_law_4 : decode cL_law 4 = .ok (.invokespecial 9, 3) := dec_2 oL_law (of183 _) 0 9 rfl rfl
theorem dL_law_7 : decode cL_law 7 = .ok (.astore_n 1, 1) := dec_0 oL_law (of76 _) rfl
theorem dL_law_8 : decode cL_law 8 = .ok (.new 10, 3) := dec_2 oL_law (of187 _) 0 10 rfl rfl
theorem dL_law_11 : decode cL_law 11 = .ok (.dup, 1) := dec_0 oL_law (of89 _) rfl
theorem dL_law_12 : decode cL_law 12 = .ok (.invokespecial 12, 3) := dec_2 oL_law (of183 _) 0 12 rfl rfl
theorem dL_law_15 : decode cL_law 15 = .ok (.astore_n 2, 1) := dec_0 oL_law (of77 _) rfl
theorem dL_law_16 : decode cL_law 16 = .ok (.iconst 0, 1) := dec_0 oL_law (of3 _) rfl
theorem dL_law_17 : decode cL_law 17 = .ok (.istore_n 3, 1) := dec_0 oL_law (of62 _) rfl
theorem dL_law_18 : decode cL_law 18 = .ok (.iload_n 3, 1) := dec_0 oL_law (of29 _) rfl
theorem dL_law_19 : decode cL_law 19 = .ok (.aload_n 0, 1) := dec_0 oL_law (of42 _) rfl
theorem dL_law_20 : decode cL_law 20 = .ok (.arraylength, 1) := dec_0 oL_law (of190 _) rfl
theorem dL_law_21 : decode cL_law 21 = .ok (.bipush 6, 2) := dec_s1 oL_law (of16 _) 6 rfl (sg8p rfl) rfl
theorem dL_law_23 : decode cL_law 23 = .ok (.isub, 1) := dec_0 oL_law (of100 _) rfl
theorem dL_law_24 : decode cL_law 24 = .ok (.if_icmp .gt 1447, 3) := dec_s2 oL_law (of163 _) 5 167 rfl (sg16p rfl) rfl
theorem dL_law_27 : decode cL_law 27 = .ok (.aload_n 0, 1) := dec_0 oL_law (of42 _) rfl
theorem dL_law_28 : decode cL_law 28 = .ok (.iload_n 3, 1) := dec_0 oL_law (of29 _) rfl
theorem dL_law_29 : decode cL_law 29 = .ok (.iaload, 1) := dec_0 oL_law (of46 _) rfl
theorem dL_law_30 : decode cL_law 30 = .ok (.bipush 63, 2) := dec_s1 oL_law (of16 _) 63 rfl (sg8p rfl) rfl
theorem dL_law_32 : decode cL_law 32 = .ok (.iand, 1) := dec_0 oL_law (of126 _) rfl
theorem dL_law_33 : decode cL_law 33 = .ok (.tableswitch 1432 0 40 #[179, 242, 265, 278, 291, 304, 327, 360, 383, 396, 419, 442, 475, 488, 531, 574, 607, 650, 703, 736, 769, 812, 845, 888, 921, 954, 997, 1030, 1063, 1096, 1139, 1172, 1205, 1248, 1271, 1294, 1317, 1340, 1363, 1386, 1409], 179) := by decide +kernel
theorem dL_law_212 : decode cL_law 212 = .ok (.aload_n 1, 1) := dec_0 oL_law (of43 _) rfl
theorem dL_law_213 : decode cL_law 213 = .ok (.aload_n 0, 1) := dec_0 oL_law (of42 _) rfl
theorem dL_law_214 : decode cL_law 214 = .ok (.iload_n 3, 1) := dec_0 oL_law (of29 _) rfl
theorem dL_law_215 : decode cL_law 215 = .ok (.iconst 1, 1) := dec_0 oL_law (of4 _) rfl
theorem dL_law_216 : decode cL_law 216 = .ok (.iadd, 1) := dec_0 oL_law (of96 _) rfl
theorem dL_law_217 : decode cL_law 217 = .ok (.iaload, 1) := dec_0 oL_law (of46 _) rfl
theorem dL_law_218 : decode cL_law 218 = .ok (.aload_n 0, 1) := dec_0 oL_law (of42 _) rfl
theorem dL_law_219 : decode cL_law 219 = .ok (.iload_n 3, 1) := dec_0 oL_law (of29 _) rfl
theorem dL_law_220 : decode cL_law 220 = .ok (.iconst 2, 1) := dec_0 oL_law (of5 _) rfl
theorem dL_law_221 : decode cL_law 221 = .ok (.iadd, 1) := dec_0 oL_law (of96 _) rfl
theorem dL_law_222 : decode cL_law 222 = .ok (.iaload, 1) := dec_0 oL_law (of46 _) rfl
theorem dL_law_223 : decode cL_law 223 = .ok (.aload_n 0, 1) := dec_0 oL_law (of42 _) rfl
theorem dL_law_224 : decode cL_law 224 = .ok (.iload_n 3, 1) := dec_0 oL_law (of29 _) rfl
theorem dL_law_225 : decode cL_law 225 = .ok (.iconst 3, 1) := dec_0 oL_law (of6 _) rfl
theorem dL_law_226 : decode cL_law 226 = .ok (.iadd, 1) := dec_0 oL_law (of96 _) rfl
theorem dL_law_227 : decode cL_law 227 = .ok (.iaload, 1) := dec_0 oL_law (of46 _) rfl
theorem dL_law_228 : decode cL_law 228 = .ok (.aload_n 0, 1) := dec_0 oL_law (of42 _) rfl
theorem dL_law_229 : decode cL_law 229 = .ok (.iload_n 3, 1) := dec_0 oL_law (of29 _) rfl
theorem dL_law_230 : decode cL_law 230 = .ok (.iconst 4, 1) := dec_0 oL_law (of7 _) rfl
theorem dL_law_231 : decode cL_law 231 = .ok (.iadd, 1) := dec_0 oL_law (of96 _) rfl
theorem dL_law_232 : decode cL_law 232 = .ok (.iaload, 1) := dec_0 oL_law (of46 _) rfl
theorem dL_law_233 : decode cL_law 233 = .ok (.aload_n 0, 1) := dec_0 oL_law (of42 _) rfl
theorem dL_law_234 : decode cL_law 234 = .ok (.iload_n 3, 1) := dec_0 oL_law (of29 _) rfl
theorem dL_law_235 : decode cL_law 235 = .ok (.iconst 5, 1) := dec_0 oL_law (of8 _) rfl
theorem dL_law_236 : decode cL_law 236 = .ok (.iadd, 1) := dec_0 oL_law (of96 _) rfl
theorem dL_law_237 : decode cL_law 237 = .ok (.iaload, 1) := dec_0 oL_law (of46 _) rfl
theorem dL_law_238 : decode cL_law 238 = .ok (.invokevirtual 13, 3) := dec_2 oL_law (of182 _) 0 13 rfl rfl
theorem dL_law_241 : decode cL_law 241 = .ok (.pop, 1) := dec_0 oL_law (of87 _) rfl
theorem dL_law_242 : decode cL_law 242 = .ok (.aload_n 2, 1) := dec_0 oL_law (of44 _) rfl
theorem dL_law_243 : decode cL_law 243 = .ok (.aload_n 0, 1) := dec_0 oL_law (of42 _) rfl
theorem dL_law_244 : decode cL_law 244 = .ok (.iload_n 3, 1) := dec_0 oL_law (of29 _) rfl
theorem dL_law_245 : decode cL_law 245 = .ok (.iconst 1, 1) := dec_0 oL_law (of4 _) rfl
theorem dL_law_246 : decode cL_law 246 = .ok (.iadd, 1) := dec_0 oL_law (of96 _) rfl
theorem dL_law_247 : decode cL_law 247 = .ok (.iaload, 1) := dec_0 oL_law (of46 _) rfl
theorem dL_law_248 : decode cL_law 248 = .ok (.aload_n 0, 1) := dec_0 oL_law (of42 _) rfl
theorem dL_law_249 : decode cL_law 249 = .ok (.iload_n 3, 1) := dec_0 oL_law (of29 _) rfl
theorem dL_law_250 : decode cL_law 250 = .ok (.iconst 2, 1) := dec_0 oL_law (of5 _) rfl
theorem dL_law_251 : decode cL_law 251 = .ok (.iadd, 1) := dec_0 oL_law (of96 _) rfl
theorem dL_law_252 : decode cL_law 252 = .ok (.iaload, 1) := dec_0 oL_law (of46 _) rfl
theorem dL_law_253 : decode cL_law 253 = .ok (.aload_n 0, 1) := dec_0 oL_law (of42 _) rfl
theorem dL_law_254 : decode cL_law 254 = .ok (.iload_n 3, 1) := dec_0 oL_law (of29 _) rfl
theorem dL_law_255 : decode cL_law 255 = .ok (.iconst 3, 1) := dec_0 oL_law (of6 _) rfl
theorem dL_law_256 : decode cL_law 256 = .ok (.iadd, 1) := dec_0 oL_law (of96 _) rfl
theorem dL_law_257 : decode cL_law 257 = .ok (.iaload, 1) := dec_0 oL_law (of46 _) rfl
theorem dL_law_258 : decode cL_law 258 = .ok (.aload_n 0, 1) := dec_0 oL_law (of42 _) rfl
theorem dL_law_259 : decode cL_law 259 = .ok (.iload_n 3, 1) := dec_0 oL_law (of29 _) rfl
theorem dL_law_260 : decode cL_law 260 = .ok (.iconst 4, 1) := dec_0 oL_law (of7 _) rfl
theorem dL_law_261 : decode cL_law 261 = .ok (.iadd, 1) := dec_0 oL_law (of96 _) rfl
theorem dL_law_262 : decode cL_law 262 = .ok (.iaload, 1) := dec_0 oL_law (of46 _) rfl
theorem dL_law_263 : decode cL_law 263 = .ok (.aload_n 0, 1) := dec_0 oL_law (of42 _) rfl
theorem dL_law_264 : decode cL_law 264 = .ok (.iload_n 3, 1) := dec_0 oL_law (of29 _) rfl
theorem dL_law_265 : decode cL_law 265 = .ok (.iconst 5, 1) := dec_0 oL_law (of8 _) rfl
theorem dL_law_266 : decode cL_law 266 = .ok (.iadd, 1) := dec_0 oL_law (of96 _) rfl
theorem dL_law_267 : decode cL_law 267 = .ok (.iaload, 1) := dec_0 oL_law (of46 _) rfl
theorem dL_law_268 : decode cL_law 268 = .ok (.invokevirtual 17, 3) := dec_2 oL_law (of182 _) 0 17 rfl rfl
theorem dL_law_271 : decode cL_law 271 = .ok (.pop, 1) := dec_0 oL_law (of87 _) rfl
theorem dL_law_272 : decode cL_law 272 = .ok (.goto 1193, 3) := dec_s2 oL_law (of167 _) 4 169 rfl (sg16p rfl) rfl
theorem dL_law_275 : decode cL_law 275 = .ok (.aload_n 1, 1) := dec_0 oL_law (of43 _) rfl
theorem dL_law_276 : decode cL_law 276 = .ok (.aload_n 0, 1) := dec_0 oL_law (of42 _) rfl
theorem dL_law_277 : decode cL_law 277 = .ok (.iload_n 3, 1) := dec_0 oL_law (of29 _) rfl
theorem dL_law_278 : decode cL_law 278 = .ok (.iconst 1, 1) := dec_0 oL_law (of4 _) rfl
theorem dL_law_279 : decode cL_law 279 = .ok (.iadd, 1) := dec_0 oL_law (of96 _) rfl
theorem dL_law_280 : decode cL_law 280 = .ok (.iaload, 1) := dec_0 oL_law (of46 _) rfl
theorem dL_law_281 : decode cL_law 281 = .ok (.invokevirtual 18, 3) := dec_2 oL_law (of182 _) 0 18 rfl rfl
theorem dL_law_284 : decode cL_law 284 = .ok (.pop, 1) := dec_0 oL_law (of87 _) rfl
theorem dL_law_285 : decode cL_law 285 = .ok (.aload_n 2, 1) := dec_0 oL_law (of44 _) rfl
theorem dL_law_286 : decode cL_law 286 = .ok (.aload_n 0, 1) := dec_0 oL_law (of42 _) rfl
theorem dL_law_287 : decode cL_law 287 = .ok (.iload_n 3, 1) := dec_0 oL_law (of29 _) rfl
theorem dL_law_288 : decode cL_law 288 = .ok (.iconst 1, 1) := dec_0 oL_law (of4 _) rfl
theorem dL_law_289 : decode cL_law 289 = .ok (.iadd, 1) := dec_0 oL_law (of96 _) rfl
theorem dL_law_290 : decode cL_law 290 = .ok (.iaload, 1) := dec_0 oL_law (of46 _) rfl
theorem dL_law_291 : decode cL_law 291 = .ok (.invokevirtual 22, 3) := dec_2 oL_law (of182 _) 0 22 rfl rfl
theorem dL_law_294 : decode cL_law 294 = .ok (.pop, 1) := dec_0 oL_law (of87 _) rfl
theorem dL_law_295 : decode cL_law 295 = .ok (.goto 1170, 3) := dec_s2 oL_law (of167 _) 4 146 rfl (sg16p rfl) rfl
theorem dL_law_298 : decode cL_law 298 = .ok (.aload_n 1, 1) := dec_0 oL_law (of43 _) rfl
theorem dL_law_299 : decode cL_law 299 = .ok (.invokevirtual 23, 3) := dec_2 oL_law (of182 _) 0 23 rfl rfl
theorem dL_law_302 : decode cL_law 302 = .ok (.pop, 1) := dec_0 oL_law (of87 _) rfl
theorem dL_law_303 : decode cL_law 303 = .ok (.aload_n 2, 1) := dec_0 oL_law (of44 _) rfl
theorem dL_law_304 : decode cL_law 304 = .ok (.invokevirtual 27, 3) := dec_2 oL_law (of182 _) 0 27 rfl rfl
theorem dL_law_307 : decode cL_law 307 = .ok (.pop, 1) := dec_0 oL_law (of87 _) rfl
theorem dL_law_308 : decode cL_law 308 = .ok (.goto 1157, 3) := dec_s2 oL_law (of167 _) 4 133 rfl (sg16p rfl) rfl
theorem dL_law_311 : decode cL_law 311 = .ok (.aload_n 1, 1) := dec_0 oL_law (of43 _) rfl
theorem dL_law_312 : decode cL_law 312 = .ok (.invokevirtual 28, 3) := dec_2 oL_law (of182 _) 0 28 rfl rfl
theorem dL_law_315 : decode cL_law 315 = .ok (.pop, 1) := dec_0 oL_law (of87 _) rfl
theorem dL_law_316 : decode cL_law 316 = .ok (.aload_n 2, 1) := dec_0 oL_law (of44 _) rfl
theorem dL_law_317 : decode cL_law 317 = .ok (.invokevirtual 31, 3) := dec_2 oL_law (of182 _) 0 31 rfl rfl
theorem dL_law_320 : decode cL_law 320 = .ok (.pop, 1) := dec_0 oL_law (of87 _) rfl
theorem dL_law_321 : decode cL_law 321 = .ok (.goto 1144, 3) := dec_s2 oL_law (of167 _) 4 120 rfl (sg16p rfl) rfl
theorem dL_law_324 : decode cL_law 324 = .ok (.aload_n 1, 1) := dec_0 oL_law (of43 _) rfl
theorem dL_law_325 : decode cL_law 325 = .ok (.invokevirtual 32, 3) := dec_2 oL_law (of182 _) 0 32 rfl rfl
theorem dL_law_328 : decode cL_law 328 = .ok (.pop, 1) := dec_0 oL_law (of87 _) rfl
theorem dL_law_329 : decode cL_law 329 = .ok (.aload_n 2, 1) := dec_0 oL_law (of44 _) rfl
theorem dL_law_330 : decode cL_law 330 = .ok (.invokevirtual 35, 3) := dec_2 oL_law (of182 _) 0 35 rfl rfl
theorem dL_law_333 : decode cL_law 333 = .ok (.pop, 1) := dec_0 oL_law (of87 _) rfl
theorem dL_law_334 : decode cL_law 334 = .ok (.goto 1131, 3) := dec_s2 oL_law (of167 _) 4 107 rfl (sg16p rfl) rfl
theorem dL_law_337 : decode cL_law 337 = .ok (.aload_n 1, 1) := dec_0 oL_law (of43 _) rfl
theorem dL_law_338 : decode cL_law 338 = .ok (.aload_n 0, 1) := dec_0 oL_law (of42 _) rfl
theorem dL_law_339 : decode cL_law 339 = .ok (.iload_n 3, 1) := dec_0 oL_law (of29 _) rfl
theorem dL_law_340 : decode cL_law 340 = .ok (.iconst 1, 1) := dec_0 oL_law (of4 _) rfl
theorem dL_law_341 : decode cL_law 341 = .ok (.iadd, 1) := dec_0 oL_law (of96 _) rfl
theorem dL_law_342 : decode cL_law 342 = .ok (.iaload, 1) := dec_0 oL_law (of46 _) rfl
theorem dL_law_343 : decode cL_law 343 = .ok (.invokevirtual 36, 3) := dec_2 oL_law (of182 _) 0 36 rfl rfl
theorem dL_law_346 : decode cL_law 346 = .ok (.pop, 1) := dec_0 oL_law (of87 _) rfl
theorem dL_law_347 : decode cL_law 347 = .ok (.aload_n 2, 1) := dec_0 oL_law (of44 _) rfl
theorem dL_law_348 : decode cL_law 348 = .ok (.aload_n 0, 1) := dec_0 oL_law (of42 _) rfl
theorem dL_law_349 : decode cL_law 349 = .ok (.iload_n 3, 1) := dec_0 oL_law (of29 _) rfl
theorem dL_law_350 : decode cL_law 350 = .ok (.iconst 1, 1) := dec_0 oL_law (of4 _) rfl
theorem dL_law_351 : decode cL_law 351 = .ok (.iadd, 1) := dec_0 oL_law (of96 _) rfl
theorem dL_law_352 : decode cL_law 352 = .ok (.iaload, 1) := dec_0 oL_law (of46 _) rfl
theorem dL_law_353 : decode cL_law 353 = .ok (.invokevirtual 39, 3) := dec_2 oL_law (of182 _) 0 39 rfl rfl
theorem dL_law_356 : decode cL_law 356 = .ok (.pop, 1) := dec_0 oL_law (of87 _) rfl
theorem dL_law_357 : decode cL_law 357 = .ok (.goto 1108, 3) := dec_s2 oL_law (of167 _) 4 84 rfl (sg16p rfl) rfl
theorem dL_law_360 : decode cL_law 360 = .ok (.aload_n 1, 1) := dec_0 oL_law (of43 _) rfl
theorem dL_law_361 : decode cL_law 361 = .ok (.aload_n 0, 1) := dec_0 oL_law (of42 _) rfl
theorem dL_law_362 : decode cL_law 362 = .ok (.iload_n 3, 1) := dec_0 oL_law (of29 _) rfl
theorem dL_law_363 : decode cL_law 363 = .ok (.iconst 1, 1) := dec_0 oL_law (of4 _) rfl
theorem dL_law_364 : decode cL_law 364 = .ok (.iadd, 1) := dec_0 oL_law (of96 _) rfl
theorem dL_law_365 : decode cL_law 365 = .ok (.iaload, 1) := dec_0 oL_law (of46 _) rfl
theorem dL_law_366 : decode cL_law 366 = .ok (.aload_n 0, 1) := dec_0 oL_law (of42 _) rfl
theorem dL_law_367 : decode cL_law 367 = .ok (.iload_n 3, 1) := dec_0 oL_law (of29 _) rfl
theorem dL_law_368 : decode cL_law 368 = .ok (.iconst 2, 1) := dec_0 oL_law (of5 _) rfl
theorem dL_law_369 : decode cL_law 369 = .ok (.iadd, 1) := dec_0 oL_law (of96 _) rfl
theorem dL_law_370 : decode cL_law 370 = .ok (.iaload, 1) := dec_0 oL_law (of46 _) rfl
theorem dL_law_371 : decode cL_law 371 = .ok (.invokevirtual 40, 3) := dec_2 oL_law (of182 _) 0 40 rfl rfl
theorem dL_law_374 : decode cL_law 374 = .ok (.pop, 1) := dec_0 oL_law (of87 _) rfl
theorem dL_law_375 : decode cL_law 375 = .ok (.aload_n 2, 1) := dec_0 oL_law (of44 _) rfl
theorem dL_law_376 : decode cL_law 376 = .ok (.aload_n 0, 1) := dec_0 oL_law (of42 _) rfl
theorem dL_law_377 : decode cL_law 377 = .ok (.iload_n 3, 1) := dec_0 oL_law (of29 _) rfl
theorem dL_law_378 : decode cL_law 378 = .ok (.iconst 1, 1) := dec_0 oL_law (of4 _) rfl
theorem dL_law_379 : decode cL_law 379 = .ok (.iadd, 1) := dec_0 oL_law (of96 _) rfl
theorem dL_law_380 : decode cL_law 380 = .ok (.iaload, 1) := dec_0 oL_law (of46 _) rfl
theorem dL_law_381 : decode cL_law 381 = .ok (.aload_n 0, 1) := dec_0 oL_law (of42 _) rfl
theorem dL_law_382 : decode cL_law 382 = .ok (.iload_n 3, 1) := dec_0 oL_law (of29 _) rfl
theorem dL_law_383 : decode cL_law 383 = .ok (.iconst 2, 1) := dec_0 oL_law (of5 _) rfl
theorem dL_law_384 : decode cL_law 384 = .ok (.iadd, 1) := dec_0 oL_law (of96 _) rfl
theorem dL_law_385 : decode cL_law 385 = .ok (.iaload, 1) := dec_0 oL_law (of46 _) rfl
theorem dL_law_386 : decode cL_law 386 = .ok (.invokevirtual 44, 3) := dec_2 oL_law (of182 _) 0 44 rfl rfl
theorem dL_law_389 : decode cL_law 389 = .ok (.pop, 1) := dec_0 oL_law (of87 _) rfl
theorem dL_law_390 : decode cL_law 390 = .ok (.goto 1075, 3) := dec_s2 oL_law (of167 _) 4 51 rfl (sg16p rfl) rfl
theorem dL_law_393 : decode cL_law 393 = .ok (.aload_n 1, 1) := dec_0 oL_law (of43 _) rfl
theorem dL_law_394 : decode cL_law 394 = .ok (.aload_n 0, 1) := dec_0 oL_law (of42 _) rfl
theorem dL_law_395 : decode cL_law 395 = .ok (.iload_n 3, 1) := dec_0 oL_law (of29 _) rfl
theorem dL_law_396 : decode cL_law 396 = .ok (.iconst 1, 1) := dec_0 oL_law (of4 _) rfl
theorem dL_law_397 : decode cL_law 397 = .ok (.iadd, 1) := dec_0 oL_law (of96 _) rfl
theorem dL_law_398 : decode cL_law 398 = .ok (.iaload, 1) := dec_0 oL_law (of46 _) rfl
theorem dL_law_399 : decode cL_law 399 = .ok (.invokevirtual 45, 3) := dec_2 oL_law (of182 _) 0 45 rfl rfl
theorem dL_law_402 : decode cL_law 402 = .ok (.pop, 1) := dec_0 oL_law (of87 _) rfl
theorem dL_law_403 : decode cL_law 403 = .ok (.aload_n 2, 1) := dec_0 oL_law (of44 _) rfl
theorem dL_law_404 : decode cL_law 404 = .ok (.aload_n 0, 1) := dec_0 oL_law (of42 _) rfl
theorem dL_law_405 : decode cL_law 405 = .ok (.iload_n 3, 1) := dec_0 oL_law (of29 _) rfl
theorem dL_law_406 : decode cL_law 406 = .ok (.iconst 1, 1) := dec_0 oL_law (of4 _) rfl
theorem dL_law_407 : decode cL_law 407 = .ok (.iadd, 1) := dec_0 oL_law (of96 _) rfl
theorem dL_law_408 : decode cL_law 408 = .ok (.iaload, 1) := dec_0 oL_law (of46 _) rfl
theorem dL_law_409 : decode cL_law 409 = .ok (.invokevirtual 48, 3) := dec_2 oL_law (of182 _) 0 48 rfl rfl
theorem dL_law_412 : decode cL_law 412 = .ok (.pop, 1) := dec_0 oL_law (of87 _) rfl
theorem dL_law_413 : decode cL_law 413 = .ok (.goto 1052, 3) := dec_s2 oL_law (of167 _) 4 28 rfl (sg16p rfl) rfl
theorem dL_law_416 : decode cL_law 416 = .ok (.aload_n 1, 1) := dec_0 oL_law (of43 _) rfl
theorem dL_law_417 : decode cL_law 417 = .ok (.invokevirtual 49, 3) := dec_2 oL_law (of182 _) 0 49 rfl rfl
theorem dL_law_420 : decode cL_law 420 = .ok (.pop, 1) := dec_0 oL_law (of87 _) rfl
theorem dL_law_421 : decode cL_law 421 = .ok (.aload_n 2, 1) := dec_0 oL_law (of44 _) rfl
theorem dL_law_422 : decode cL_law 422 = .ok (.invokevirtual 52, 3) := dec_2 oL_law (of182 _) 0 52 rfl rfl
theorem dL_law_425 : decode cL_law 425 = .ok (.pop, 1) := dec_0 oL_law (of87 _) rfl
theorem dL_law_426 : decode cL_law 426 = .ok (.goto 1039, 3) := dec_s2 oL_law (of167 _) 4 15 rfl (sg16p rfl) rfl
theorem dL_law_429 : decode cL_law 429 = .ok (.aload_n 1, 1) := dec_0 oL_law (of43 _) rfl
theorem dL_law_430 : decode cL_law 430 = .ok (.aload_n 0, 1) := dec_0 oL_law (of42 _) rfl
theorem dL_law_431 : decode cL_law 431 = .ok (.iload_n 3, 1) := dec_0 oL_law (of29 _) rfl
theorem dL_law_432 : decode cL_law 432 = .ok (.iconst 1, 1) := dec_0 oL_law (of4 _) rfl
theorem dL_law_433 : decode cL_law 433 = .ok (.iadd, 1) := dec_0 oL_law (of96 _) rfl
theorem dL_law_434 : decode cL_law 434 = .ok (.iaload, 1) := dec_0 oL_law (of46 _) rfl
theorem dL_law_435 : decode cL_law 435 = .ok (.invokevirtual 53, 3) := dec_2 oL_law (of182 _) 0 53 rfl rfl
theorem dL_law_438 : decode cL_law 438 = .ok (.pop, 1) := dec_0 oL_law (of87 _) rfl
theorem dL_law_439 : decode cL_law 439 = .ok (.aload_n 2, 1) := dec_0 oL_law (of44 _) rfl
theorem dL_law_440 : decode cL_law 440 = .ok (.aload_n 0, 1) := dec_0 oL_law (of42 _) rfl
theorem dL_law_441 : decode cL_law 441 = .ok (.iload_n 3, 1) := dec_0 oL_law (of29 _) rfl
theorem dL_law_442 : decode cL_law 442 = .ok (.iconst 1, 1) := dec_0 oL_law (of4 _) rfl
theorem dL_law_443 : decode cL_law 443 = .ok (.iadd, 1) := dec_0 oL_law (of96 _) rfl
theorem dL_law_444 : decode cL_law 444 = .ok (.iaload, 1) := dec_0 oL_law (of46 _) rfl
theorem dL_law_445 : decode cL_law 445 = .ok (.invokevirtual 56, 3) := dec_2 oL_law (of182 _) 0 56 rfl rfl
theorem dL_law_448 : decode cL_law 448 = .ok (.pop, 1) := dec_0 oL_law (of87 _) rfl
theorem dL_law_449 : decode cL_law 449 = .ok (.goto 1016, 3) := dec_s2 oL_law (of167 _) 3 248 rfl (sg16p rfl) rfl
theorem dL_law_452 : decode cL_law 452 = .ok (.aload_n 1, 1) := dec_0 oL_law (of43 _) rfl
theorem dL_law_453 : decode cL_law 453 = .ok (.aload_n 0, 1) := dec_0 oL_law (of42 _) rfl
theorem dL_law_454 : decode cL_law 454 = .ok (.iload_n 3, 1) := dec_0 oL_law (of29 _) rfl
theorem dL_law_455 : decode cL_law 455 = .ok (.iconst 1, 1) := dec_0 oL_law (of4 _) rfl
theorem dL_law_456 : decode cL_law 456 = .ok (.iadd, 1) := dec_0 oL_law (of96 _) rfl
theorem dL_law_457 : decode cL_law 457 = .ok (.iaload, 1) := dec_0 oL_law (of46 _) rfl
theorem dL_law_458 : decode cL_law 458 = .ok (.invokevirtual 57, 3) := dec_2 oL_law (of182 _) 0 57 rfl rfl
theorem dL_law_461 : decode cL_law 461 = .ok (.pop, 1) := dec_0 oL_law (of87 _) rfl
theorem dL_law_462 : decode cL_law 462 = .ok (.aload_n 2, 1) := dec_0 oL_law (of44 _) rfl
theorem dL_law_463 : decode cL_law 463 = .ok (.aload_n 0, 1) := dec_0 oL_law (of42 _) rfl
theorem dL_law_464 : decode cL_law 464 = .ok (.iload_n 3, 1) := dec_0 oL_law (of29 _) rfl
theorem dL_law_465 : decode cL_law 465 = .ok (.iconst 1, 1) := dec_0 oL_law (of4 _) rfl
theorem dL_law_466 : decode cL_law 466 = .ok (.iadd, 1) := dec_0 oL_law (of96 _) rfl
theorem dL_law_467 : decode cL_law 467 = .ok (.iaload, 1) := dec_0 oL_law (of46 _) rfl
theorem dL_law_468 : decode cL_law 468 = .ok (.invokevirtual 61, 3) := dec_2 oL_law (of182 _) 0 61 rfl rfl
theorem dL_law_471 : decode cL_law 471 = .ok (.pop, 1) := dec_0 oL_law (of87 _) rfl
theorem dL_law_472 : decode cL_law 472 = .ok (.goto 993, 3) := dec_s2 oL_law (of167 _) 3 225 rfl (sg16p rfl) rfl
theorem dL_law_475 : decode cL_law 475 = .ok (.aload_n 1, 1) := dec_0 oL_law (of43 _) rfl
theorem dL_law_476 : decode cL_law 476 = .ok (.aload_n 0, 1) := dec_0 oL_law (of42 _) rfl
theorem dL_law_477 : decode cL_law 477 = .ok (.iload_n 3, 1) := dec_0 oL_law (of29 _) rfl
theorem dL_law_478 : decode cL_law 478 = .ok (.iconst 1, 1) := dec_0 oL_law (of4 _) rfl
theorem dL_law_479 : decode cL_law 479 = .ok (.iadd, 1) := dec_0 oL_law (of96 _) rfl
theorem dL_law_480 : decode cL_law 480 = .ok (.iaload, 1) := dec_0 oL_law (of46 _) rfl
theorem dL_law_481 : decode cL_law 481 = .ok (.aload_n 0, 1) := dec_0 oL_law (of42 _) rfl
theorem dL_law_482 : decode cL_law 482 = .ok (.iload_n 3, 1) := dec_0 oL_law (of29 _) rfl
theorem dL_law_483 : decode cL_law 483 = .ok (.iconst 2, 1) := dec_0 oL_law (of5 _) rfl
theorem dL_law_484 : decode cL_law 484 = .ok (.iadd, 1) := dec_0 oL_law (of96 _) rfl
theorem dL_law_485 : decode cL_law 485 = .ok (.iaload, 1) := dec_0 oL_law (of46 _) rfl
theorem dL_law_486 : decode cL_law 486 = .ok (.invokevirtual 62, 3) := dec_2 oL_law (of182 _) 0 62 rfl rfl
theorem dL_law_489 : decode cL_law 489 = .ok (.pop, 1) := dec_0 oL_law (of87 _) rfl
theorem dL_law_490 : decode cL_law 490 = .ok (.aload_n 2, 1) := dec_0 oL_law (of44 _) rfl
theorem dL_law_491 : decode cL_law 491 = .ok (.aload_n 0, 1) := dec_0 oL_law (of42 _) rfl
theorem dL_law_492 : decode cL_law 492 = .ok (.iload_n 3, 1) := dec_0 oL_law (of29 _) rfl
theorem dL_law_493 : decode cL_law 493 = .ok (.iconst 1, 1) := dec_0 oL_law (of4 _) rfl
theorem dL_law_494 : decode cL_law 494 = .ok (.iadd, 1) := dec_0 oL_law (of96 _) rfl
theorem dL_law_495 : decode cL_law 495 = .ok (.iaload, 1) := dec_0 oL_law (of46 _) rfl
theorem dL_law_496 : decode cL_law 496 = .ok (.aload_n 0, 1) := dec_0 oL_law (of42 _) rfl
theorem dL_law_497 : decode cL_law 497 = .ok (.iload_n 3, 1) := dec_0 oL_law (of29 _) rfl
theorem dL_law_498 : decode cL_law 498 = .ok (.iconst 2, 1) := dec_0 oL_law (of5 _) rfl
theorem dL_law_499 : decode cL_law 499 = .ok (.iadd, 1) := dec_0 oL_law (of96 _) rfl
theorem dL_law_500 : decode cL_law 500 = .ok (.iaload, 1) := dec_0 oL_law (of46 _) rfl
theorem dL_law_501 : decode cL_law 501 = .ok (.invokevirtual 66, 3) := dec_2 oL_law (of182 _) 0 66 rfl rfl
theorem dL_law_504 : decode cL_law 504 = .ok (.pop, 1) := dec_0 oL_law (of87 _) rfl
theorem dL_law_505 : decode cL_law 505 = .ok (.goto 960, 3) := dec_s2 oL_law (of167 _) 3 192 rfl (sg16p rfl) rfl
theorem dL_law_508 : decode cL_law 508 = .ok (.aload_n 1, 1) := dec_0 oL_law (of43 _) rfl
theorem dL_law_509 : decode cL_law 509 = .ok (.invokevirtual 67, 3) := dec_2 oL_law (of182 _) 0 67 rfl rfl
theorem dL_law_512 : decode cL_law 512 = .ok (.pop, 1) := dec_0 oL_law (of87 _) rfl
theorem dL_law_513 : decode cL_law 513 = .ok (.aload_n 2, 1) := dec_0 oL_law (of44 _) rfl
theorem dL_law_514 : decode cL_law 514 = .ok (.invokevirtual 71, 3) := dec_2 oL_law (of182 _) 0 71 rfl rfl
theorem dL_law_517 : decode cL_law 517 = .ok (.pop, 1) := dec_0 oL_law (of87 _) rfl
theorem dL_law_518 : decode cL_law 518 = .ok (.goto 947, 3) := dec_s2 oL_law (of167 _) 3 179 rfl (sg16p rfl) rfl
theorem dL_law_521 : decode cL_law 521 = .ok (.aload_n 1, 1) := dec_0 oL_law (of43 _) rfl
theorem dL_law_522 : decode cL_law 522 = .ok (.aload_n 0, 1) := dec_0 oL_law (of42 _) rfl
theorem dL_law_523 : decode cL_law 523 = .ok (.iload_n 3, 1) := dec_0 oL_law (of29 _) rfl
theorem dL_law_524 : decode cL_law 524 = .ok (.iconst 1, 1) := dec_0 oL_law (of4 _) rfl
theorem dL_law_525 : decode cL_law 525 = .ok (.iadd, 1) := dec_0 oL_law (of96 _) rfl
theorem dL_law_526 : decode cL_law 526 = .ok (.iaload, 1) := dec_0 oL_law (of46 _) rfl
theorem dL_law_527 : decode cL_law 527 = .ok (.aload_n 0, 1) := dec_0 oL_law (of42 _) rfl
theorem dL_law_528 : decode cL_law 528 = .ok (.iload_n 3, 1) := dec_0 oL_law (of29 _) rfl
theorem dL_law_529 : decode cL_law 529 = .ok (.iconst 2, 1) := dec_0 oL_law (of5 _) rfl
theorem dL_law_530 : decode cL_law 530 = .ok (.iadd, 1) := dec_0 oL_law (of96 _) rfl
theorem dL_law_531 : decode cL_law 531 = .ok (.iaload, 1) := dec_0 oL_law (of46 _) rfl
theorem dL_law_532 : decode cL_law 532 = .ok (.aload_n 0, 1) := dec_0 oL_law (of42 _) rfl
theorem dL_law_533 : decode cL_law 533 = .ok (.iload_n 3, 1) := dec_0 oL_law (of29 _) rfl
theorem dL_law_534 : decode cL_law 534 = .ok (.iconst 3, 1) := dec_0 oL_law (of6 _) rfl
theorem dL_law_535 : decode cL_law 535 = .ok (.iadd, 1) := dec_0 oL_law (of96 _) rfl
theorem dL_law_536 : decode cL_law 536 = .ok (.iaload, 1) := dec_0 oL_law (of46 _) rfl
theorem dL_law_537 : decode cL_law 537 = .ok (.invokevirtual 72, 3) := dec_2 oL_law (of182 _) 0 72 rfl rfl
theorem dL_law_540 : decode cL_law 540 = .ok (.pop, 1) := dec_0 oL_law (of87 _) rfl
theorem dL_law_541 : decode cL_law 541 = .ok (.aload_n 2, 1) := dec_0 oL_law (of44 _) rfl
theorem dL_law_542 : decode cL_law 542 = .ok (.aload_n 0, 1) := dec_0 oL_law (of42 _) rfl
theorem dL_law_543 : decode cL_law 543 = .ok (.iload_n 3, 1) := dec_0 oL_law (of29 _) rfl
theorem dL_law_544 : decode cL_law 544 = .ok (.iconst 1, 1) := dec_0 oL_law (of4 _) rfl
theorem dL_law_545 : decode cL_law 545 = .ok (.iadd, 1) := dec_0 oL_law (of96 _) rfl
theorem dL_law_546 : decode cL_law 546 = .ok (.iaload, 1) := dec_0 oL_law (of46 _) rfl
theorem dL_law_547 : decode cL_law 547 = .ok (.aload_n 0, 1) := dec_0 oL_law (of42 _) rfl
theorem dL_law_548 : decode cL_law 548 = .ok (.iload_n 3, 1) := dec_0 oL_law (of29 _) rfl
theorem dL_law_549 : decode cL_law 549 = .ok (.iconst 2, 1) := dec_0 oL_law (of5 _) rfl
theorem dL_law_550 : decode cL_law 550 = .ok (.iadd, 1) := dec_0 oL_law (of96 _) rfl
theorem dL_law_551 : decode cL_law 551 = .ok (.iaload, 1) := dec_0 oL_law (of46 _) rfl
theorem dL_law_552 : decode cL_law 552 = .ok (.aload_n 0, 1) := dec_0 oL_law (of42 _) rfl
theorem dL_law_553 : decode cL_law 553 = .ok (.iload_n 3, 1) := dec_0 oL_law (of29 _) rfl
theorem dL_law_554 : decode cL_law 554 = .ok (.iconst 3, 1) := dec_0 oL_law (of6 _) rfl
theorem dL_law_555 : decode cL_law 555 = .ok (.iadd, 1) := dec_0 oL_law (of96 _) rfl
theorem dL_law_556 : decode cL_law 556 = .ok (.iaload, 1) := dec_0 oL_law (of46 _) rfl
theorem dL_law_557 : decode cL_law 557 = .ok (.invokevirtual 76, 3) := dec_2 oL_law (of182 _) 0 76 rfl rfl
theorem dL_law_560 : decode cL_law 560 = .ok (.pop, 1) := dec_0 oL_law (of87 _) rfl
theorem dL_law_561 : decode cL_law 561 = .ok (.goto 904, 3) := dec_s2 oL_law (of167 _) 3 136 rfl (sg16p rfl) rfl
theorem dL_law_564 : decode cL_law 564 = .ok (.aload_n 1, 1) := dec_0 oL_law (of43 _) rfl
theorem dL_law_565 : decode cL_law 565 = .ok (.aload_n 0, 1) := dec_0 oL_law (of42 _) rfl
theorem dL_law_566 : decode cL_law 566 = .ok (.iload_n 3, 1) := dec_0 oL_law (of29 _) rfl
theorem dL_law_567 : decode cL_law 567 = .ok (.iconst 1, 1) := dec_0 oL_law (of4 _) rfl
theorem dL_law_568 : decode cL_law 568 = .ok (.iadd, 1) := dec_0 oL_law (of96 _) rfl
theorem dL_law_569 : decode cL_law 569 = .ok (.iaload, 1) := dec_0 oL_law (of46 _) rfl
theorem dL_law_570 : decode cL_law 570 = .ok (.aload_n 0, 1) := dec_0 oL_law (of42 _) rfl
theorem dL_law_571 : decode cL_law 571 = .ok (.iload_n 3, 1) := dec_0 oL_law (of29 _) rfl
theorem dL_law_572 : decode cL_law 572 = .ok (.iconst 2, 1) := dec_0 oL_law (of5 _) rfl
theorem dL_law_573 : decode cL_law 573 = .ok (.iadd, 1) := dec_0 oL_law (of96 _) rfl
theorem dL_law_574 : decode cL_law 574 = .ok (.iaload, 1) := dec_0 oL_law (of46 _) rfl
theorem dL_law_575 : decode cL_law 575 = .ok (.aload_n 0, 1) := dec_0 oL_law (of42 _) rfl
theorem dL_law_576 : decode cL_law 576 = .ok (.iload_n 3, 1) := dec_0 oL_law (of29 _) rfl
theorem dL_law_577 : decode cL_law 577 = .ok (.iconst 3, 1) := dec_0 oL_law (of6 _) rfl
theorem dL_law_578 : decode cL_law 578 = .ok (.iadd, 1) := dec_0 oL_law (of96 _) rfl
theorem dL_law_579 : decode cL_law 579 = .ok (.iaload, 1) := dec_0 oL_law (of46 _) rfl
theorem dL_law_580 : decode cL_law 580 = .ok (.invokevirtual 77, 3) := dec_2 oL_law (of182 _) 0 77 rfl rfl
theorem dL_law_583 : decode cL_law 583 = .ok (.pop, 1) := dec_0 oL_law (of87 _) rfl
theorem dL_law_584 : decode cL_law 584 = .ok (.aload_n 2, 1) := dec_0 oL_law (of44 _) rfl
theorem dL_law_585 : decode cL_law 585 = .ok (.aload_n 0, 1) := dec_0 oL_law (of42 _) rfl
theorem dL_law_586 : decode cL_law 586 = .ok (.iload_n 3, 1) := dec_0 oL_law (of29 _) rfl
theorem dL_law_587 : decode cL_law 587 = .ok (.iconst 1, 1) := dec_0 oL_law (of4 _) rfl
theorem dL_law_588 : decode cL_law 588 = .ok (.iadd, 1) := dec_0 oL_law (of96 _) rfl
theorem dL_law_589 : decode cL_law 589 = .ok (.iaload, 1) := dec_0 oL_law (of46 _) rfl
theorem dL_law_590 : decode cL_law 590 = .ok (.aload_n 0, 1) := dec_0 oL_law (of42 _) rfl
theorem dL_law_591 : decode cL_law 591 = .ok (.iload_n 3, 1) := dec_0 oL_law (of29 _) rfl
theorem dL_law_592 : decode cL_law 592 = .ok (.iconst 2, 1) := dec_0 oL_law (of5 _) rfl
theorem dL_law_593 : decode cL_law 593 = .ok (.iadd, 1) := dec_0 oL_law (of96 _) rfl
theorem dL_law_594 : decode cL_law 594 = .ok (.iaload, 1) := dec_0 oL_law (of46 _) rfl
theorem dL_law_595 : decode cL_law 595 = .ok (.aload_n 0, 1) := dec_0 oL_law (of42 _) rfl
theorem dL_law_596 : decode cL_law 596 = .ok (.iload_n 3, 1) := dec_0 oL_law (of29 _) rfl
theorem dL_law_597 : decode cL_law 597 = .ok (.iconst 3, 1) := dec_0 oL_law (of6 _) rfl
theorem dL_law_598 : decode cL_law 598 = .ok (.iadd, 1) := dec_0 oL_law (of96 _) rfl
theorem dL_law_599 : decode cL_law 599 = .ok (.iaload, 1) := dec_0 oL_law (of46 _) rfl
theorem dL_law_600 : decode cL_law 600 = .ok (.invokevirtual 80, 3) := dec_2 oL_law (of182 _) 0 80 rfl rfl
theorem dL_law_603 : decode cL_law 603 = .ok (.pop, 1) := dec_0 oL_law (of87 _) rfl
theorem dL_law_604 : decode cL_law 604 = .ok (.goto 861, 3) := dec_s2 oL_law (of167 _) 3 93 rfl (sg16p rfl) rfl
theorem dL_law_607 : decode cL_law 607 = .ok (.aload_n 1, 1) := dec_0 oL_law (of43 _) rfl
theorem dL_law_608 : decode cL_law 608 = .ok (.aload_n 0, 1) := dec_0 oL_law (of42 _) rfl
theorem dL_law_609 : decode cL_law 609 = .ok (.iload_n 3, 1) := dec_0 oL_law (of29 _) rfl
theorem dL_law_610 : decode cL_law 610 = .ok (.iconst 1, 1) := dec_0 oL_law (of4 _) rfl
theorem dL_law_611 : decode cL_law 611 = .ok (.iadd, 1) := dec_0 oL_law (of96 _) rfl
theorem dL_law_612 : decode cL_law 612 = .ok (.iaload, 1) := dec_0 oL_law (of46 _) rfl
theorem dL_law_613 : decode cL_law 613 = .ok (.aload_n 0, 1) := dec_0 oL_law (of42 _) rfl
theorem dL_law_614 : decode cL_law 614 = .ok (.iload_n 3, 1) := dec_0 oL_law (of29 _) rfl
theorem dL_law_615 : decode cL_law 615 = .ok (.iconst 2, 1) := dec_0 oL_law (of5 _) rfl
theorem dL_law_616 : decode cL_law 616 = .ok (.iadd, 1) := dec_0 oL_law (of96 _) rfl
theorem dL_law_617 : decode cL_law 617 = .ok (.iaload, 1) := dec_0 oL_law (of46 _) rfl
theorem dL_law_618 : decode cL_law 618 = .ok (.invokevirtual 81, 3) := dec_2 oL_law (of182 _) 0 81 rfl rfl
theorem dL_law_621 : decode cL_law 621 = .ok (.pop, 1) := dec_0 oL_law (of87 _) rfl
theorem dL_law_622 : decode cL_law 622 = .ok (.aload_n 2, 1) := dec_0 oL_law (of44 _) rfl
theorem dL_law_623 : decode cL_law 623 = .ok (.aload_n 0, 1) := dec_0 oL_law (of42 _) rfl
theorem dL_law_624 : decode cL_law 624 = .ok (.iload_n 3, 1) := dec_0 oL_law (of29 _) rfl
theorem dL_law_625 : decode cL_law 625 = .ok (.iconst 1, 1) := dec_0 oL_law (of4 _) rfl
theorem dL_law_626 : decode cL_law 626 = .ok (.iadd, 1) := dec_0 oL_law (of96 _) rfl
theorem dL_law_627 : decode cL_law 627 = .ok (.iaload, 1) := dec_0 oL_law (of46 _) rfl
theorem dL_law_628 : decode cL_law 628 = .ok (.aload_n 0, 1) := dec_0 oL_law (of42 _) rfl
theorem dL_law_629 : decode cL_law 629 = .ok (.iload_n 3, 1) := dec_0 oL_law (of29 _) rfl
theorem dL_law_630 : decode cL_law 630 = .ok (.iconst 2, 1) := dec_0 oL_law (of5 _) rfl
theorem dL_law_631 : decode cL_law 631 = .ok (.iadd, 1) := dec_0 oL_law (of96 _) rfl
theorem dL_law_632 : decode cL_law 632 = .ok (.iaload, 1) := dec_0 oL_law (of46 _) rfl
theorem dL_law_633 : decode cL_law 633 = .ok (.invokevirtual 84, 3) := dec_2 oL_law (of182 _) 0 84 rfl rfl
theorem dL_law_636 : decode cL_law 636 = .ok (.pop, 1) := dec_0 oL_law (of87 _) rfl
theorem dL_law_637 : decode cL_law 637 = .ok (.goto 828, 3) := dec_s2 oL_law (of167 _) 3 60 rfl (sg16p rfl) rfl
theorem dL_law_640 : decode cL_law 640 = .ok (.aload_n 1, 1) := dec_0 oL_law (of43 _) rfl
theorem dL_law_641 : decode cL_law 641 = .ok (.aload_n 0, 1) := dec_0 oL_law (of42 _) rfl
theorem dL_law_642 : decode cL_law 642 = .ok (.iload_n 3, 1) := dec_0 oL_law (of29 _) rfl
theorem dL_law_643 : decode cL_law 643 = .ok (.iconst 1, 1) := dec_0 oL_law (of4 _) rfl
theorem dL_law_644 : decode cL_law 644 = .ok (.iadd, 1) := dec_0 oL_law (of96 _) rfl
theorem dL_law_645 : decode cL_law 645 = .ok (.iaload, 1) := dec_0 oL_law (of46 _) rfl
theorem dL_law_646 : decode cL_law 646 = .ok (.aload_n 0, 1) := dec_0 oL_law (of42 _) rfl
theorem dL_law_647 : decode cL_law 647 = .ok (.iload_n 3, 1) := dec_0 oL_law (of29 _) rfl
theorem dL_law_648 : decode cL_law 648 = .ok (.iconst 2, 1) := dec_0 oL_law (of5 _) rfl
theorem dL_law_649 : decode cL_law 649 = .ok (.iadd, 1) := dec_0 oL_law (of96 _) rfl
theorem dL_law_650 : decode cL_law 650 = .ok (.iaload, 1) := dec_0 oL_law (of46 _) rfl
theorem dL_law_651 : decode cL_law 651 = .ok (.aload_n 0, 1) := dec_0 oL_law (of42 _) rfl
theorem dL_law_652 : decode cL_law 652 = .ok (.iload_n 3, 1) := dec_0 oL_law (of29 _) rfl
theorem dL_law_653 : decode cL_law 653 = .ok (.iconst 3, 1) := dec_0 oL_law (of6 _) rfl
theorem dL_law_654 : decode cL_law 654 = .ok (.iadd, 1) := dec_0 oL_law (of96 _) rfl
theorem dL_law_655 : decode cL_law 655 = .ok (.iaload, 1) := dec_0 oL_law (of46 _) rfl
theorem dL_law_656 : decode cL_law 656 = .ok (.invokevirtual 85, 3) := dec_2 oL_law (of182 _) 0 85 rfl rfl
theorem dL_law_659 : decode cL_law 659 = .ok (.pop, 1) := dec_0 oL_law (of87 _) rfl
theorem dL_law_660 : decode cL_law 660 = .ok (.aload_n 2, 1) := dec_0 oL_law (of44 _) rfl
theorem dL_law_661 : decode cL_law 661 = .ok (.aload_n 0, 1) := dec_0 oL_law (of42 _) rfl
theorem dL_law_662 : decode cL_law 662 = .ok (.iload_n 3, 1) := dec_0 oL_law (of29 _) rfl
theorem dL_law_663 : decode cL_law 663 = .ok (.iconst 1, 1) := dec_0 oL_law (of4 _) rfl
theorem dL_law_664 : decode cL_law 664 = .ok (.iadd, 1) := dec_0 oL_law (of96 _) rfl
theorem dL_law_665 : decode cL_law 665 = .ok (.iaload, 1) := dec_0 oL_law (of46 _) rfl
theorem dL_law_666 : decode cL_law 666 = .ok (.aload_n 0, 1) := dec_0 oL_law (of42 _) rfl
theorem dL_law_667 : decode cL_law 667 = .ok (.iload_n 3, 1) := dec_0 oL_law (of29 _) rfl
theorem dL_law_668 : decode cL_law 668 = .ok (.iconst 2, 1) := dec_0 oL_law (of5 _) rfl
theorem dL_law_669 : decode cL_law 669 = .ok (.iadd, 1) := dec_0 oL_law (of96 _) rfl
theorem dL_law_670 : decode cL_law 670 = .ok (.iaload, 1) := dec_0 oL_law (of46 _) rfl
theorem dL_law_671 : decode cL_law 671 = .ok (.aload_n 0, 1) := dec_0 oL_law (of42 _) rfl
theorem dL_law_672 : decode cL_law 672 = .ok (.iload_n 3, 1) := dec_0 oL_law (of29 _) rfl
theorem dL_law_673 : decode cL_law 673 = .ok (.iconst 3, 1) := dec_0 oL_law (of6 _) rfl
theorem dL_law_674 : decode cL_law 674 = .ok (.iadd, 1) := dec_0 oL_law (of96 _) rfl
theorem dL_law_675 : decode cL_law 675 = .ok (.iaload, 1) := dec_0 oL_law (of46 _) rfl
theorem dL_law_676 : decode cL_law 676 = .ok (.invokevirtual 88, 3) := dec_2 oL_law (of182 _) 0 88 rfl rfl
theorem dL_law_679 : decode cL_law 679 = .ok (.pop, 1) := dec_0 oL_law (of87 _) rfl
theorem dL_law_680 : decode cL_law 680 = .ok (.goto 785, 3) := dec_s2 oL_law (of167 _) 3 17 rfl (sg16p rfl) rfl
theorem dL_law_683 : decode cL_law 683 = .ok (.aload_n 1, 1) := dec_0 oL_law (of43 _) rfl
theorem dL_law_684 : decode cL_law 684 = .ok (.aload_n 0, 1) := dec_0 oL_law (of42 _) rfl
theorem dL_law_685 : decode cL_law 685 = .ok (.iload_n 3, 1) := dec_0 oL_law (of29 _) rfl
theorem dL_law_686 : decode cL_law 686 = .ok (.iconst 1, 1) := dec_0 oL_law (of4 _) rfl
theorem dL_law_687 : decode cL_law 687 = .ok (.iadd, 1) := dec_0 oL_law (of96 _) rfl
theorem dL_law_688 : decode cL_law 688 = .ok (.iaload, 1) := dec_0 oL_law (of46 _) rfl
theorem dL_law_689 : decode cL_law 689 = .ok (.aload_n 0, 1) := dec_0 oL_law (of42 _) rfl
theorem dL_law_690 : decode cL_law 690 = .ok (.iload_n 3, 1) := dec_0 oL_law (of29 _) rfl
theorem dL_law_691 : decode cL_law 691 = .ok (.iconst 2, 1) := dec_0 oL_law (of5 _) rfl
theorem dL_law_692 : decode cL_law 692 = .ok (.iadd, 1) := dec_0 oL_law (of96 _) rfl
theorem dL_law_693 : decode cL_law 693 = .ok (.iaload, 1) := dec_0 oL_law (of46 _) rfl
theorem dL_law_694 : decode cL_law 694 = .ok (.aload_n 0, 1) := dec_0 oL_law (of42 _) rfl
theorem dL_law_695 : decode cL_law 695 = .ok (.iload_n 3, 1) := dec_0 oL_law (of29 _) rfl
theorem dL_law_696 : decode cL_law 696 = .ok (.iconst 3, 1) := dec_0 oL_law (of6 _) rfl
theorem dL_law_697 : decode cL_law 697 = .ok (.iadd, 1) := dec_0 oL_law (of96 _) rfl
theorem dL_law_698 : decode cL_law 698 = .ok (.iaload, 1) := dec_0 oL_law (of46 _) rfl
theorem dL_law_699 : decode cL_law 699 = .ok (.aload_n 0, 1) := dec_0 oL_law (of42 _) rfl
theorem dL_law_700 : decode cL_law 700 = .ok (.iload_n 3, 1) := dec_0 oL_law (of29 _) rfl
theorem dL_law_701 : decode cL_law 701 = .ok (.iconst 4, 1) := dec_0 oL_law (of7 _) rfl
theorem dL_law_702 : decode cL_law 702 = .ok (.iadd, 1) := dec_0 oL_law (of96 _) rfl
theorem dL_law_703 : decode cL_law 703 = .ok (.iaload, 1) := dec_0 oL_law (of46 _) rfl
theorem dL_law_704 : decode cL_law 704 = .ok (.invokevirtual 89, 3) := dec_2 oL_law (of182 _) 0 89 rfl rfl
theorem dL_law_707 : decode cL_law 707 = .ok (.pop, 1) := dec_0 oL_law (of87 _) rfl
theorem dL_law_708 : decode cL_law 708 = .ok (.aload_n 2, 1) := dec_0 oL_law (of44 _) rfl
theorem dL_law_709 : decode cL_law 709 = .ok (.aload_n 0, 1) := dec_0 oL_law (of42 _) rfl
theorem dL_law_710 : decode cL_law 710 = .ok (.iload_n 3, 1) := dec_0 oL_law (of29 _) rfl
theorem dL_law_711 : decode cL_law 711 = .ok (.iconst 1, 1) := dec_0 oL_law (of4 _) rfl
theorem dL_law_712 : decode cL_law 712 = .ok (.iadd, 1) := dec_0 oL_law (of96 _) rfl
theorem dL_law_713 : decode cL_law 713 = .ok (.iaload, 1) := dec_0 oL_law (of46 _) rfl
theorem dL_law_714 : decode cL_law 714 = .ok (.aload_n 0, 1) := dec_0 oL_law (of42 _) rfl
theorem dL_law_715 : decode cL_law 715 = .ok (.iload_n 3, 1) := dec_0 oL_law (of29 _) rfl
theorem dL_law_716 : decode cL_law 716 = .ok (.iconst 2, 1) := dec_0 oL_law (of5 _) rfl
theorem dL_law_717 : decode cL_law 717 = .ok (.iadd, 1) := dec_0 oL_law (of96 _) rfl
theorem dL_law_718 : decode cL_law 718 = .ok (.iaload, 1) := dec_0 oL_law (of46 _) rfl
theorem dL_law_719 : decode cL_law 719 = .ok (.aload_n 0, 1) := dec_0 oL_law (of42 _) rfl
theorem dL_law_720 : decode cL_law 720 = .ok (.iload_n 3, 1) := dec_0 oL_law (of29 _) rfl
theorem dL_law_721 : decode cL_law 721 = .ok (.iconst 3, 1) := dec_0 oL_law (of6 _) rfl
theorem dL_law_722 : decode cL_law 722 = .ok (.iadd, 1) := dec_0 oL_law (of96 _) rfl
theorem dL_law_723 : decode cL_law 723 = .ok (.iaload, 1) := dec_0 oL_law (of46 _) rfl
theorem dL_law_724 : decode cL_law 724 = .ok (.aload_n 0, 1) := dec_0 oL_law (of42 _) rfl
theorem dL_law_725 : decode cL_law 725 = .ok (.iload_n 3, 1) := dec_0 oL_law (of29 _) rfl
theorem dL_law_726 : decode cL_law 726 = .ok (.iconst 4, 1) := dec_0 oL_law (of7 _) rfl
theorem dL_law_727 : decode cL_law 727 = .ok (.iadd, 1) := dec_0 oL_law (of96 _) rfl
theorem dL_law_728 : decode cL_law 728 = .ok (.iaload, 1) := dec_0 oL_law (of46 _) rfl
theorem dL_law_729 : decode cL_law 729 = .ok (.invokevirtual 93, 3) := dec_2 oL_law (of182 _) 0 93 rfl rfl
theorem dL_law_732 : decode cL_law 732 = .ok (.pop, 1) := dec_0 oL_law (of87 _) rfl
theorem dL_law_733 : decode cL_law 733 = .ok (.goto 732, 3) := dec_s2 oL_law (of167 _) 2 220 rfl (sg16p rfl) rfl
theorem dL_law_736 : decode cL_law 736 = .ok (.aload_n 1, 1) := dec_0 oL_law (of43 _) rfl
theorem dL_law_737 : decode cL_law 737 = .ok (.aload_n 0, 1) := dec_0 oL_law (of42 _) rfl
theorem dL_law_738 : decode cL_law 738 = .ok (.iload_n 3, 1) := dec_0 oL_law (of29 _) rfl
theorem dL_law_739 : decode cL_law 739 = .ok (.iconst 1, 1) := dec_0 oL_law (of4 _) rfl
theorem dL_law_740 : decode cL_law 740 = .ok (.iadd, 1) := dec_0 oL_law (of96 _) rfl
theorem dL_law_741 : decode cL_law 741 = .ok (.iaload, 1) := dec_0 oL_law (of46 _) rfl
theorem dL_law_742 : decode cL_law 742 = .ok (.aload_n 0, 1) := dec_0 oL_law (of42 _) rfl
theorem dL_law_743 : decode cL_law 743 = .ok (.iload_n 3, 1) := dec_0 oL_law (of29 _) rfl
theorem dL_law_744 : decode cL_law 744 = .ok (.iconst 2, 1) := dec_0 oL_law (of5 _) rfl
theorem dL_law_745 : decode cL_law 745 = .ok (.iadd, 1) := dec_0 oL_law (of96 _) rfl
theorem dL_law_746 : decode cL_law 746 = .ok (.iaload, 1) := dec_0 oL_law (of46 _) rfl
theorem dL_law_747 : decode cL_law 747 = .ok (.invokevirtual 94, 3) := dec_2 oL_law (of182 _) 0 94 rfl rfl
theorem dL_law_750 : decode cL_law 750 = .ok (.pop, 1) := dec_0 oL_law (of87 _) rfl
theorem dL_law_751 : decode cL_law 751 = .ok (.aload_n 2, 1) := dec_0 oL_law (of44 _) rfl
theorem dL_law_752 : decode cL_law 752 = .ok (.aload_n 0, 1) := dec_0 oL_law (of42 _) rfl
theorem dL_law_753 : decode cL_law 753 = .ok (.iload_n 3, 1) := dec_0 oL_law (of29 _) rfl
theorem dL_law_754 : decode cL_law 754 = .ok (.iconst 1, 1) := dec_0 oL_law (of4 _) rfl
theorem dL_law_755 : decode cL_law 755 = .ok (.iadd, 1) := dec_0 oL_law (of96 _) rfl
theorem dL_law_756 : decode cL_law 756 = .ok (.iaload, 1) := dec_0 oL_law (of46 _) rfl
theorem dL_law_757 : decode cL_law 757 = .ok (.aload_n 0, 1) := dec_0 oL_law (of42 _) rfl
theorem dL_law_758 : decode cL_law 758 = .ok (.iload_n 3, 1) := dec_0 oL_law (of29 _) rfl
theorem dL_law_759 : decode cL_law 759 = .ok (.iconst 2, 1) := dec_0 oL_law (of5 _) rfl
theorem dL_law_760 : decode cL_law 760 = .ok (.iadd, 1) := dec_0 oL_law (of96 _) rfl
theorem dL_law_761 : decode cL_law 761 = .ok (.iaload, 1) := dec_0 oL_law (of46 _) rfl
theorem dL_law_762 : decode cL_law 762 = .ok (.invokevirtual 97, 3) := dec_2 oL_law (of182 _) 0 97 rfl rfl
theorem dL_law_765 : decode cL_law 765 = .ok (.pop, 1) := dec_0 oL_law (of87 _) rfl
theorem dL_law_766 : decode cL_law 766 = .ok (.goto 699, 3) := dec_s2 oL_law (of167 _) 2 187 rfl (sg16p rfl) rfl
theorem dL_law_769 : decode cL_law 769 = .ok (.aload_n 1, 1) := dec_0 oL_law (of43 _) rfl
theorem dL_law_770 : decode cL_law 770 = .ok (.aload_n 0, 1) := dec_0 oL_law (of42 _) rfl
theorem dL_law_771 : decode cL_law 771 = .ok (.iload_n 3, 1) := dec_0 oL_law (of29 _) rfl
theorem dL_law_772 : decode cL_law 772 = .ok (.iconst 1, 1) := dec_0 oL_law (of4 _) rfl
theorem dL_law_773 : decode cL_law 773 = .ok (.iadd, 1) := dec_0 oL_law (of96 _) rfl
theorem dL_law_774 : decode cL_law 774 = .ok (.iaload, 1) := dec_0 oL_law (of46 _) rfl
theorem dL_law_775 : decode cL_law 775 = .ok (.aload_n 0, 1) := dec_0 oL_law (of42 _) rfl
theorem dL_law_776 : decode cL_law 776 = .ok (.iload_n 3, 1) := dec_0 oL_law (of29 _) rfl
theorem dL_law_777 : decode cL_law 777 = .ok (.iconst 2, 1) := dec_0 oL_law (of5 _) rfl
theorem dL_law_778 : decode cL_law 778 = .ok (.iadd, 1) := dec_0 oL_law (of96 _) rfl
theorem dL_law_779 : decode cL_law 779 = .ok (.iaload, 1) := dec_0 oL_law (of46 _) rfl
theorem dL_law_780 : decode cL_law 780 = .ok (.invokevirtual 98, 3) := dec_2 oL_law (of182 _) 0 98 rfl rfl
theorem dL_law_783 : decode cL_law 783 = .ok (.pop, 1) := dec_0 oL_law (of87 _) rfl
theorem dL_law_784 : decode cL_law 784 = .ok (.aload_n 2, 1) := dec_0 oL_law (of44 _) rfl
theorem dL_law_785 : decode cL_law 785 = .ok (.aload_n 0, 1) := dec_0 oL_law (of42 _) rfl
theorem dL_law_786 : decode cL_law 786 = .ok (.iload_n 3, 1) := dec_0 oL_law (of29 _) rfl
theorem dL_law_787 : decode cL_law 787 = .ok (.iconst 1, 1) := dec_0 oL_law (of4 _) rfl
theorem dL_law_788 : decode cL_law 788 = .ok (.iadd, 1) := dec_0 oL_law (of96 _) rfl
theorem dL_law_789 : decode cL_law 789 = .ok (.iaload, 1) := dec_0 oL_law (of46 _) rfl
theorem dL_law_790 : decode cL_law 790 = .ok (.aload_n 0, 1) := dec_0 oL_law (of42 _) rfl
theorem dL_law_791 : decode cL_law 791 = .ok (.iload_n 3, 1) := dec_0 oL_law (of29 _) rfl
theorem dL_law_792 : decode cL_law 792 = .ok (.iconst 2, 1) := dec_0 oL_law (of5 _) rfl
theorem dL_law_793 : decode cL_law 793 = .ok (.iadd, 1) := dec_0 oL_law (of96 _) rfl
theorem dL_law_794 : decode cL_law 794 = .ok (.iaload, 1) := dec_0 oL_law (of46 _) rfl
theorem dL_law_795 : decode cL_law 795 = .ok (.invokevirtual 101, 3) := dec_2 oL_law (of182 _) 0 101 rfl rfl
theorem dL_law_798 : decode cL_law 798 = .ok (.pop, 1) := dec_0 oL_law (of87 _) rfl
theorem dL_law_799 : decode cL_law 799 = .ok (.goto 666, 3) := dec_s2 oL_law (of167 _) 2 154 rfl (sg16p rfl) rfl
theorem dL_law_802 : decode cL_law 802 = .ok (.aload_n 1, 1) := dec_0 oL_law (of43 _) rfl
theorem dL_law_803 : decode cL_law 803 = .ok (.aload_n 0, 1) := dec_0 oL_law (of42 _) rfl
theorem dL_law_804 : decode cL_law 804 = .ok (.iload_n 3, 1) := dec_0 oL_law (of29 _) rfl
theorem dL_law_805 : decode cL_law 805 = .ok (.iconst 1, 1) := dec_0 oL_law (of4 _) rfl
theorem dL_law_806 : decode cL_law 806 = .ok (.iadd, 1) := dec_0 oL_law (of96 _) rfl
theorem dL_law_807 : decode cL_law 807 = .ok (.iaload, 1) := dec_0 oL_law (of46 _) rfl
theorem dL_law_808 : decode cL_law 808 = .ok (.aload_n 0, 1) := dec_0 oL_law (of42 _) rfl
theorem dL_law_809 : decode cL_law 809 = .ok (.iload_n 3, 1) := dec_0 oL_law (of29 _) rfl
theorem dL_law_810 : decode cL_law 810 = .ok (.iconst 2, 1) := dec_0 oL_law (of5 _) rfl
theorem dL_law_811 : decode cL_law 811 = .ok (.iadd, 1) := dec_0 oL_law (of96 _) rfl
theorem dL_law_812 : decode cL_law 812 = .ok (.iaload, 1) := dec_0 oL_law (of46 _) rfl
theorem dL_law_813 : decode cL_law 813 = .ok (.aload_n 0, 1) := dec_0 oL_law (of42 _) rfl
theorem dL_law_814 : decode cL_law 814 = .ok (.iload_n 3, 1) := dec_0 oL_law (of29 _) rfl
theorem dL_law_815 : decode cL_law 815 = .ok (.iconst 3, 1) := dec_0 oL_law (of6 _) rfl
theorem dL_law_816 : decode cL_law 816 = .ok (.iadd, 1) := dec_0 oL_law (of96 _) rfl
theorem dL_law_817 : decode cL_law 817 = .ok (.iaload, 1) := dec_0 oL_law (of46 _) rfl
theorem dL_law_818 : decode cL_law 818 = .ok (.invokevirtual 102, 3) := dec_2 oL_law (of182 _) 0 102 rfl rfl
theorem dL_law_821 : decode cL_law 821 = .ok (.pop, 1) := dec_0 oL_law (of87 _) rfl
theorem dL_law_822 : decode cL_law 822 = .ok (.aload_n 2, 1) := dec_0 oL_law (of44 _) rfl
theorem dL_law_823 : decode cL_law 823 = .ok (.aload_n 0, 1) := dec_0 oL_law (of42 _) rfl
theorem dL_law_824 : decode cL_law 824 = .ok (.iload_n 3, 1) := dec_0 oL_law (of29 _) rfl
theorem dL_law_825 : decode cL_law 825 = .ok (.iconst 1, 1) := dec_0 oL_law (of4 _) rfl
theorem dL_law_826 : decode cL_law 826 = .ok (.iadd, 1) := dec_0 oL_law (of96 _) rfl
theorem dL_law_827 : decode cL_law 827 = .ok (.iaload, 1) := dec_0 oL_law (of46 _) rfl
theorem dL_law_828 : decode cL_law 828 = .ok (.aload_n 0, 1) := dec_0 oL_law (of42 _) rfl
theorem dL_law_829 : decode cL_law 829 = .ok (.iload_n 3, 1) := dec_0 oL_law (of29 _) rfl
theorem dL_law_830 : decode cL_law 830 = .ok (.iconst 2, 1) := dec_0 oL_law (of5 _) rfl
theorem dL_law_831 : decode cL_law 831 = .ok (.iadd, 1) := dec_0 oL_law (of96 _) rfl
theorem dL_law_832 : decode cL_law 832 = .ok (.iaload, 1) := dec_0 oL_law (of46 _) rfl
theorem dL_law_833 : decode cL_law 833 = .ok (.aload_n 0, 1) := dec_0 oL_law (of42 _) rfl
theorem dL_law_834 : decode cL_law 834 = .ok (.iload_n 3, 1) := dec_0 oL_law (of29 _) rfl
theorem dL_law_835 : decode cL_law 835 = .ok (.iconst 3, 1) := dec_0 oL_law (of6 _) rfl
theorem dL_law_836 : decode cL_law 836 = .ok (.iadd, 1) := dec_0 oL_law (of96 _) rfl
theorem dL_law_837 : decode cL_law 837 = .ok (.iaload, 1) := dec_0 oL_law (of46 _) rfl
theorem dL_law_838 : decode cL_law 838 = .ok (.invokevirtual 105, 3) := dec_2 oL_law (of182 _) 0 105 rfl rfl
theorem dL_law_841 : decode cL_law 841 = .ok (.pop, 1) := dec_0 oL_law (of87 _) rfl
theorem dL_law_842 : decode cL_law 842 = .ok (.goto 623, 3) := dec_s2 oL_law (of167 _) 2 111 rfl (sg16p rfl) rfl
theorem dL_law_845 : decode cL_law 845 = .ok (.aload_n 1, 1) := dec_0 oL_law (of43 _) rfl
theorem dL_law_846 : decode cL_law 846 = .ok (.aload_n 0, 1) := dec_0 oL_law (of42 _) rfl
theorem dL_law_847 : decode cL_law 847 = .ok (.iload_n 3, 1) := dec_0 oL_law (of29 _) rfl
theorem dL_law_848 : decode cL_law 848 = .ok (.iconst 1, 1) := dec_0 oL_law (of4 _) rfl
theorem dL_law_849 : decode cL_law 849 = .ok (.iadd, 1) := dec_0 oL_law (of96 _) rfl
theorem dL_law_850 : decode cL_law 850 = .ok (.iaload, 1) := dec_0 oL_law (of46 _) rfl
theorem dL_law_851 : decode cL_law 851 = .ok (.aload_n 0, 1) := dec_0 oL_law (of42 _) rfl
theorem dL_law_852 : decode cL_law 852 = .ok (.iload_n 3, 1) := dec_0 oL_law (of29 _) rfl
theorem dL_law_853 : decode cL_law 853 = .ok (.iconst 2, 1) := dec_0 oL_law (of5 _) rfl
theorem dL_law_854 : decode cL_law 854 = .ok (.iadd, 1) := dec_0 oL_law (of96 _) rfl
theorem dL_law_855 : decode cL_law 855 = .ok (.iaload, 1) := dec_0 oL_law (of46 _) rfl
theorem dL_law_856 : decode cL_law 856 = .ok (.invokevirtual 106, 3) := dec_2 oL_law (of182 _) 0 106 rfl rfl
theorem dL_law_859 : decode cL_law 859 = .ok (.pop, 1) := dec_0 oL_law (of87 _) rfl
theorem dL_law_860 : decode cL_law 860 = .ok (.aload_n 2, 1) := dec_0 oL_law (of44 _) rfl
theorem dL_law_861 : decode cL_law 861 = .ok (.aload_n 0, 1) := dec_0 oL_law (of42 _) rfl
theorem dL_law_862 : decode cL_law 862 = .ok (.iload_n 3, 1) := dec_0 oL_law (of29 _) rfl
theorem dL_law_863 : decode cL_law 863 = .ok (.iconst 1, 1) := dec_0 oL_law (of4 _) rfl
theorem dL_law_864 : decode cL_law 864 = .ok (.iadd, 1) := dec_0 oL_law (of96 _) rfl
theorem dL_law_865 : decode cL_law 865 = .ok (.iaload, 1) := dec_0 oL_law (of46 _) rfl
theorem dL_law_866 : decode cL_law 866 = .ok (.aload_n 0, 1) := dec_0 oL_law (of42 _) rfl
theorem dL_law_867 : decode cL_law 867 = .ok (.iload_n 3, 1) := dec_0 oL_law (of29 _) rfl
theorem dL_law_868 : decode cL_law 868 = .ok (.iconst 2, 1) := dec_0 oL_law (of5 _) rfl
theorem dL_law_869 : decode cL_law 869 = .ok (.iadd, 1) := dec_0 oL_law (of96 _) rfl
theorem dL_law_870 : decode cL_law 870 = .ok (.iaload, 1) := dec_0 oL_law (of46 _) rfl
theorem dL_law_871 : decode cL_law 871 = .ok (.invokevirtual 109, 3) := dec_2 oL_law (of182 _) 0 109 rfl rfl
theorem dL_law_874 : decode cL_law 874 = .ok (.pop, 1) := dec_0 oL_law (of87 _) rfl
theorem dL_law_875 : decode cL_law 875 = .ok (.goto 590, 3) := dec_s2 oL_law (of167 _) 2 78 rfl (sg16p rfl) rfl
theorem dL_law_878 : decode cL_law 878 = .ok (.aload_n 1, 1) := dec_0 oL_law (of43 _) rfl
theorem dL_law_879 : decode cL_law 879 = .ok (.aload_n 0, 1) := dec_0 oL_law (of42 _) rfl
theorem dL_law_880 : decode cL_law 880 = .ok (.iload_n 3, 1) := dec_0 oL_law (of29 _) rfl
theorem dL_law_881 : decode cL_law 881 = .ok (.iconst 1, 1) := dec_0 oL_law (of4 _) rfl
theorem dL_law_882 : decode cL_law 882 = .ok (.iadd, 1) := dec_0 oL_law (of96 _) rfl
theorem dL_law_883 : decode cL_law 883 = .ok (.iaload, 1) := dec_0 oL_law (of46 _) rfl
theorem dL_law_884 : decode cL_law 884 = .ok (.aload_n 0, 1) := dec_0 oL_law (of42 _) rfl
theorem dL_law_885 : decode cL_law 885 = .ok (.iload_n 3, 1) := dec_0 oL_law (of29 _) rfl
theorem dL_law_886 : decode cL_law 886 = .ok (.iconst 2, 1) := dec_0 oL_law (of5 _) rfl
theorem dL_law_887 : decode cL_law 887 = .ok (.iadd, 1) := dec_0 oL_law (of96 _) rfl
theorem dL_law_888 : decode cL_law 888 = .ok (.iaload, 1) := dec_0 oL_law (of46 _) rfl
theorem dL_law_889 : decode cL_law 889 = .ok (.aload_n 0, 1) := dec_0 oL_law (of42 _) rfl
theorem dL_law_890 : decode cL_law 890 = .ok (.iload_n 3, 1) := dec_0 oL_law (of29 _) rfl
theorem dL_law_891 : decode cL_law 891 = .ok (.iconst 3, 1) := dec_0 oL_law (of6 _) rfl
theorem dL_law_892 : decode cL_law 892 = .ok (.iadd, 1) := dec_0 oL_law (of96 _) rfl
theorem dL_law_893 : decode cL_law 893 = .ok (.iaload, 1) := dec_0 oL_law (of46 _) rfl
theorem dL_law_894 : decode cL_law 894 = .ok (.invokevirtual 110, 3) := dec_2 oL_law (of182 _) 0 110 rfl rfl
theorem dL_law_897 : decode cL_law 897 = .ok (.pop, 1) := dec_0 oL_law (of87 _) rfl
theorem dL_law_898 : decode cL_law 898 = .ok (.aload_n 2, 1) := dec_0 oL_law (of44 _) rfl
theorem dL_law_899 : decode cL_law 899 = .ok (.aload_n 0, 1) := dec_0 oL_law (of42 _) rfl
theorem dL_law_900 : decode cL_law 900 = .ok (.iload_n 3, 1) := dec_0 oL_law (of29 _) rfl
theorem dL_law_901 : decode cL_law 901 = .ok (.iconst 1, 1) := dec_0 oL_law (of4 _) rfl
theorem dL_law_902 : decode cL_law 902 = .ok (.iadd, 1) := dec_0 oL_law (of96 _) rfl
theorem dL_law_903 : decode cL_law 903 = .ok (.iaload, 1) := dec_0 oL_law (of46 _) rfl
theorem dL_law_904 : decode cL_law 904 = .ok (.aload_n 0, 1) := dec_0 oL_law (of42 _) rfl
theorem dL_law_905 : decode cL_law 905 = .ok (.iload_n 3, 1) := dec_0 oL_law (of29 _) rfl
theorem dL_law_906 : decode cL_law 906 = .ok (.iconst 2, 1) := dec_0 oL_law (of5 _) rfl
theorem dL_law_907 : decode cL_law 907 = .ok (.iadd, 1) := dec_0 oL_law (of96 _) rfl
theorem dL_law_908 : decode cL_law 908 = .ok (.iaload, 1) := dec_0 oL_law (of46 _) rfl
theorem dL_law_909 : decode cL_law 909 = .ok (.aload_n 0, 1) := dec_0 oL_law (of42 _) rfl
theorem dL_law_910 : decode cL_law 910 = .ok (.iload_n 3, 1) := dec_0 oL_law (of29 _) rfl
theorem dL_law_911 : decode cL_law 911 = .ok (.iconst 3, 1) := dec_0 oL_law (of6 _) rfl
theorem dL_law_912 : decode cL_law 912 = .ok (.iadd, 1) := dec_0 oL_law (of96 _) rfl
theorem dL_law_913 : decode cL_law 913 = .ok (.iaload, 1) := dec_0 oL_law (of46 _) rfl
theorem dL_law_914 : decode cL_law 914 = .ok (.invokevirtual 113, 3) := dec_2 oL_law (of182 _) 0 113 rfl rfl
theorem dL_law_917 : decode cL_law 917 = .ok (.pop, 1) := dec_0 oL_law (of87 _) rfl
theorem dL_law_918 : decode cL_law 918 = .ok (.goto 547, 3) := dec_s2 oL_law (of167 _) 2 35 rfl (sg16p rfl) rfl
theorem dL_law_921 : decode cL_law 921 = .ok (.aload_n 1, 1) := dec_0 oL_law (of43 _) rfl
theorem dL_law_922 : decode cL_law 922 = .ok (.aload_n 0, 1) := dec_0 oL_law (of42 _) rfl
theorem dL_law_923 : decode cL_law 923 = .ok (.iload_n 3, 1) := dec_0 oL_law (of29 _) rfl
theorem dL_law_924 : decode cL_law 924 = .ok (.iconst 1, 1) := dec_0 oL_law (of4 _) rfl
theorem dL_law_925 : decode cL_law 925 = .ok (.iadd, 1) := dec_0 oL_law (of96 _) rfl
theorem dL_law_926 : decode cL_law 926 = .ok (.iaload, 1) := dec_0 oL_law (of46 _) rfl
theorem dL_law_927 : decode cL_law 927 = .ok (.aload_n 0, 1) := dec_0 oL_law (of42 _) rfl
theorem dL_law_928 : decode cL_law 928 = .ok (.iload_n 3, 1) := dec_0 oL_law (of29 _) rfl
theorem dL_law_929 : decode cL_law 929 = .ok (.iconst 2, 1) := dec_0 oL_law (of5 _) rfl
theorem dL_law_930 : decode cL_law 930 = .ok (.iadd, 1) := dec_0 oL_law (of96 _) rfl
theorem dL_law_931 : decode cL_law 931 = .ok (.iaload, 1) := dec_0 oL_law (of46 _) rfl
theorem dL_law_932 : decode cL_law 932 = .ok (.invokevirtual 114, 3) := dec_2 oL_law (of182 _) 0 114 rfl rfl
theorem dL_law_935 : decode cL_law 935 = .ok (.pop, 1) := dec_0 oL_law (of87 _) rfl
theorem dL_law_936 : decode cL_law 936 = .ok (.aload_n 2, 1) := dec_0 oL_law (of44 _) rfl
theorem dL_law_937 : decode cL_law 937 = .ok (.aload_n 0, 1) := dec_0 oL_law (of42 _) rfl
theorem dL_law_938 : decode cL_law 938 = .ok (.iload_n 3, 1) := dec_0 oL_law (of29 _) rfl
theorem dL_law_939 : decode cL_law 939 = .ok (.iconst 1, 1) := dec_0 oL_law (of4 _) rfl
theorem dL_law_940 : decode cL_law 940 = .ok (.iadd, 1) := dec_0 oL_law (of96 _) rfl
theorem dL_law_941 : decode cL_law 941 = .ok (.iaload, 1) := dec_0 oL_law (of46 _) rfl
theorem dL_law_942 : decode cL_law 942 = .ok (.aload_n 0, 1) := dec_0 oL_law (of42 _) rfl
theorem dL_law_943 : decode cL_law 943 = .ok (.iload_n 3, 1) := dec_0 oL_law (of29 _) rfl
theorem dL_law_944 : decode cL_law 944 = .ok (.iconst 2, 1) := dec_0 oL_law (of5 _) rfl
theorem dL_law_945 : decode cL_law 945 = .ok (.iadd, 1) := dec_0 oL_law (of96 _) rfl
theorem dL_law_946 : decode cL_law 946 = .ok (.iaload, 1) := dec_0 oL_law (of46 _) rfl
theorem dL_law_947 : decode cL_law 947 = .ok (.invokevirtual 117, 3) := dec_2 oL_law (of182 _) 0 117 rfl rfl
theorem dL_law_950 : decode cL_law 950 = .ok (.pop, 1) := dec_0 oL_law (of87 _) rfl
theorem dL_law_951 : decode cL_law 951 = .ok (.goto 514, 3) := dec_s2 oL_law (of167 _) 2 2 rfl (sg16p rfl) rfl
theorem dL_law_954 : decode cL_law 954 = .ok (.aload_n 1, 1) := dec_0 oL_law (of43 _) rfl
theorem dL_law_955 : decode cL_law 955 = .ok (.aload_n 0, 1) := dec_0 oL_law (of42 _) rfl
theorem dL_law_956 : decode cL_law 956 = .ok (.iload_n 3, 1) := dec_0 oL_law (of29 _) rfl
theorem dL_law_957 : decode cL_law 957 = .ok (.iconst 1, 1) := dec_0 oL_law (of4 _) rfl
theorem dL_law_958 : decode cL_law 958 = .ok (.iadd, 1) := dec_0 oL_law (of96 _) rfl
theorem dL_law_959 : decode cL_law 959 = .ok (.iaload, 1) := dec_0 oL_law (of46 _) rfl
theorem dL_law_960 : decode cL_law 960 = .ok (.aload_n 0, 1) := dec_0 oL_law (of42 _) rfl
theorem dL_law_961 : decode cL_law 961 = .ok (.iload_n 3, 1) := dec_0 oL_law (of29 _) rfl
theorem dL_law_962 : decode cL_law 962 = .ok (.iconst 2, 1) := dec_0 oL_law (of5 _) rfl
theorem dL_law_963 : decode cL_law 963 = .ok (.iadd, 1) := dec_0 oL_law (of96 _) rfl
theorem dL_law_964 : decode cL_law 964 = .ok (.iaload, 1) := dec_0 oL_law (of46 _) rfl
theorem dL_law_965 : decode cL_law 965 = .ok (.invokevirtual 118, 3) := dec_2 oL_law (of182 _) 0 118 rfl rfl
theorem dL_law_968 : decode cL_law 968 = .ok (.pop, 1) := dec_0 oL_law (of87 _) rfl
theorem dL_law_969 : decode cL_law 969 = .ok (.aload_n 2, 1) := dec_0 oL_law (of44 _) rfl
theorem dL_law_970 : decode cL_law 970 = .ok (.aload_n 0, 1) := dec_0 oL_law (of42 _) rfl
theorem dL_law_971 : decode cL_law 971 = .ok (.iload_n 3, 1) := dec_0 oL_law (of29 _) rfl
theorem dL_law_972 : decode cL_law 972 = .ok (.iconst 1, 1) := dec_0 oL_law (of4 _) rfl
theorem dL_law_973 : decode cL_law 973 = .ok (.iadd, 1) := dec_0 oL_law (of96 _) rfl
theorem dL_law_974 : decode cL_law 974 = .ok (.iaload, 1) := dec_0 oL_law (of46 _) rfl
theorem dL_law_975 : decode cL_law 975 = .ok (.aload_n 0, 1) := dec_0 oL_law (of42 _) rfl
theorem dL_law_976 : decode cL_law 976 = .ok (.iload_n 3, 1) := dec_0 oL_law (of29 _) rfl
theorem dL_law_977 : decode cL_law 977 = .ok (.iconst 2, 1) := dec_0 oL_law (of5 _) rfl
theorem dL_law_978 : decode cL_law 978 = .ok (.iadd, 1) := dec_0 oL_law (of96 _) rfl
theorem dL_law_979 : decode cL_law 979 = .ok (.iaload, 1) := dec_0 oL_law (of46 _) rfl
theorem dL_law_980 : decode cL_law 980 = .ok (.invokevirtual 121, 3) := dec_2 oL_law (of182 _) 0 121 rfl rfl
theorem dL_law_983 : decode cL_law 983 = .ok (.pop, 1) := dec_0 oL_law (of87 _) rfl
theorem dL_law_984 : decode cL_law 984 = .ok (.goto 481, 3) := dec_s2 oL_law (of167 _) 1 225 rfl (sg16p rfl) rfl
theorem dL_law_987 : decode cL_law 987 = .ok (.aload_n 1, 1) := dec_0 oL_law (of43 _) rfl
theorem dL_law_988 : decode cL_law 988 = .ok (.aload_n 0, 1) := dec_0 oL_law (of42 _) rfl
theorem dL_law_989 : decode cL_law 989 = .ok (.iload_n 3, 1) := dec_0 oL_law (of29 _) rfl
theorem dL_law_990 : decode cL_law 990 = .ok (.iconst 1, 1) := dec_0 oL_law (of4 _) rfl
theorem dL_law_991 : decode cL_law 991 = .ok (.iadd, 1) := dec_0 oL_law (of96 _) rfl
theorem dL_law_992 : decode cL_law 992 = .ok (.iaload, 1) := dec_0 oL_law (of46 _) rfl
theorem dL_law_993 : decode cL_law 993 = .ok (.aload_n 0, 1) := dec_0 oL_law (of42 _) rfl
theorem dL_law_994 : decode cL_law 994 = .ok (.iload_n 3, 1) := dec_0 oL_law (of29 _) rfl
theorem dL_law_995 : decode cL_law 995 = .ok (.iconst 2, 1) := dec_0 oL_law (of5 _) rfl
theorem dL_law_996 : decode cL_law 996 = .ok (.iadd, 1) := dec_0 oL_law (of96 _) rfl
theorem dL_law_997 : decode cL_law 997 = .ok (.iaload, 1) := dec_0 oL_law (of46 _) rfl
theorem dL_law_998 : decode cL_law 998 = .ok (.aload_n 0, 1) := dec_0 oL_law (of42 _) rfl
theorem dL_law_999 : decode cL_law 999 = .ok (.iload_n 3, 1) := dec_0 oL_law (of29 _) rfl
theorem dL_law_1000 : decode cL_law 1000 = .ok (.iconst 3, 1) := dec_0 oL_law (of6 _) rfl
theorem dL_law_1001 : decode cL_law 1001 = .ok (.iadd, 1) := dec_0 oL_law (of96 _) rfl
theorem dL_law_1002 : decode cL_law 1002 = .ok (.iaload, 1) := dec_0 oL_law (of46 _) rfl
theorem dL_law_1003 : decode cL_law 1003 = .ok (.invokevirtual 122, 3) := dec_2 oL_law (of182 _) 0 122 rfl rfl
theorem dL_law_1006 : decode cL_law 1006 = .ok (.pop, 1) := dec_0 oL_law (of87 _) rfl
theorem dL_law_1007 : decode cL_law 1007 = .ok (.aload_n 2, 1) := dec_0 oL_law (of44 _) rfl
theorem dL_law_1008 : decode cL_law 1008 = .ok (.aload_n 0, 1) := dec_0 oL_law (of42 _) rfl
theorem dL_law_1009 : decode cL_law 1009 = .ok (.iload_n 3, 1) := dec_0 oL_law (of29 _) rfl
theorem dL_law_1010 : decode cL_law 1010 = .ok (.iconst 1, 1) := dec_0 oL_law (of4 _) rfl
theorem dL_law_1011 : decode cL_law 1011 = .ok (.iadd, 1) := dec_0 oL_law (of96 _) rfl
theorem dL_law_1012 : decode cL_law 1012 = .ok (.iaload, 1) := dec_0 oL_law (of46 _) rfl
theorem dL_law_1013 : decode cL_law 1013 = .ok (.aload_n 0, 1) := dec_0 oL_law (of42 _) rfl
theorem dL_law_1014 : decode cL_law 1014 = .ok (.iload_n 3, 1) := dec_0 oL_law (of29 _) rfl
theorem dL_law_1015 : decode cL_law 1015 = .ok (.iconst 2, 1) := dec_0 oL_law (of5 _) rfl
theorem dL_law_1016 : decode cL_law 1016 = .ok (.iadd, 1) := dec_0 oL_law (of96 _) rfl
theorem dL_law_1017 : decode cL_law 1017 = .ok (.iaload, 1) := dec_0 oL_law (of46 _) rfl
theorem dL_law_1018 : decode cL_law 1018 = .ok (.aload_n 0, 1) := dec_0 oL_law (of42 _) rfl
theorem dL_law_1019 : decode cL_law 1019 = .ok (.iload_n 3, 1) := dec_0 oL_law (of29 _) rfl
theorem dL_law_1020 : decode cL_law 1020 = .ok (.iconst 3, 1) := dec_0 oL_law (of6 _) rfl
theorem dL_law_1021 : decode cL_law 1021 = .ok (.iadd, 1) := dec_0 oL_law (of96 _) rfl
theorem dL_law_1022 : decode cL_law 1022 = .ok (.iaload, 1) := dec_0 oL_law (of46 _) rfl
theorem dL_law_1023 : decode cL_law 1023 = .ok (.invokevirtual 125, 3) := dec_2 oL_law (of182 _) 0 125 rfl rfl
theorem dL_law_1026 : decode cL_law 1026 = .ok (.pop, 1) := dec_0 oL_law (of87 _) rfl
theorem dL_law_1027 : decode cL_law 1027 = .ok (.goto 438, 3) := dec_s2 oL_law (of167 _) 1 182 rfl (sg16p rfl) rfl
theorem dL_law_1030 : decode cL_law 1030 = .ok (.aload_n 1, 1) := dec_0 oL_law (of43 _) rfl
theorem dL_law_1031 : decode cL_law 1031 = .ok (.aload_n 0, 1) := dec_0 oL_law (of42 _) rfl
theorem dL_law_1032 : decode cL_law 1032 = .ok (.iload_n 3, 1) := dec_0 oL_law (of29 _) rfl
theorem dL_law_1033 : decode cL_law 1033 = .ok (.iconst 1, 1) := dec_0 oL_law (of4 _) rfl
theorem dL_law_1034 : decode cL_law 1034 = .ok (.iadd, 1) := dec_0 oL_law (of96 _) rfl
theorem dL_law_1035 : decode cL_law 1035 = .ok (.iaload, 1) := dec_0 oL_law (of46 _) rfl
theorem dL_law_1036 : decode cL_law 1036 = .ok (.aload_n 0, 1) := dec_0 oL_law (of42 _) rfl
theorem dL_law_1037 : decode cL_law 1037 = .ok (.iload_n 3, 1) := dec_0 oL_law (of29 _) rfl
theorem dL_law_1038 : decode cL_law 1038 = .ok (.iconst 2, 1) := dec_0 oL_law (of5 _) rfl
theorem dL_law_1039 : decode cL_law 1039 = .ok (.iadd, 1) := dec_0 oL_law (of96 _) rfl
theorem dL_law_1040 : decode cL_law 1040 = .ok (.iaload, 1) := dec_0 oL_law (of46 _) rfl
theorem dL_law_1041 : decode cL_law 1041 = .ok (.invokevirtual 126, 3) := dec_2 oL_law (of182 _) 0 126 rfl rfl
theorem dL_law_1044 : decode cL_law 1044 = .ok (.aload_n 2, 1) := dec_0 oL_law (of44 _) rfl
theorem dL_law_1045 : decode cL_law 1045 = .ok (.aload_n 0, 1) := dec_0 oL_law (of42 _) rfl
theorem dL_law_1046 : decode cL_law 1046 = .ok (.iload_n 3, 1) := dec_0 oL_law (of29 _) rfl
theorem dL_law_1047 : decode cL_law 1047 = .ok (.iconst 1, 1) := dec_0 oL_law (of4 _) rfl
theorem dL_law_1048 : decode cL_law 1048 = .ok (.iadd, 1) := dec_0 oL_law (of96 _) rfl
theorem dL_law_1049 : decode cL_law 1049 = .ok (.iaload, 1) := dec_0 oL_law (of46 _) rfl
theorem dL_law_1050 : decode cL_law 1050 = .ok (.aload_n 0, 1) := dec_0 oL_law (of42 _) rfl
theorem dL_law_1051 : decode cL_law 1051 = .ok (.iload_n 3, 1) := dec_0 oL_law (of29 _) rfl
theorem dL_law_1052 : decode cL_law 1052 = .ok (.iconst 2, 1) := dec_0 oL_law (of5 _) rfl
theorem dL_law_1053 : decode cL_law 1053 = .ok (.iadd, 1) := dec_0 oL_law (of96 _) rfl
theorem dL_law_1054 : decode cL_law 1054 = .ok (.iaload, 1) := dec_0 oL_law (of46 _) rfl
theorem dL_law_1055 : decode cL_law 1055 = .ok (.invokevirtual 129, 3) := dec_2 oL_law (of182 _) 0 129 rfl rfl
theorem dL_law_1058 : decode cL_law 1058 = .ok (.if_icmp .eq 407, 3) := dec_s2 oL_law (of159 _) 1 151 rfl (sg16p rfl) rfl
theorem dL_law_1061 : decode cL_law 1061 = .ok (.iconst 0, 1) := dec_0 oL_law (of3 _) rfl
theorem dL_law_1062 : decode cL_law 1062 = .ok (.ireturn, 1) := dec_0 oL_law (of172 _) rfl
theorem dL_law_1063 : decode cL_law 1063 = .ok (.aload_n 1, 1) := dec_0 oL_law (of43 _) rfl
theorem dL_law_1064 : decode cL_law 1064 = .ok (.aload_n 0, 1) := dec_0 oL_law (of42 _) rfl
theorem dL_law_1065 : decode cL_law 1065 = .ok (.iload_n 3, 1) := dec_0 oL_law (of29 _) rfl
theorem dL_law_1066 : decode cL_law 1066 = .ok (.iconst 1, 1) := dec_0 oL_law (of4 _) rfl
theorem dL_law_1067 : decode cL_law 1067 = .ok (.iadd, 1) := dec_0 oL_law (of96 _) rfl
theorem dL_law_1068 : decode cL_law 1068 = .ok (.iaload, 1) := dec_0 oL_law (of46 _) rfl
theorem dL_law_1069 : decode cL_law 1069 = .ok (.aload_n 0, 1) := dec_0 oL_law (of42 _) rfl
theorem dL_law_1070 : decode cL_law 1070 = .ok (.iload_n 3, 1) := dec_0 oL_law (of29 _) rfl
theorem dL_law_1071 : decode cL_law 1071 = .ok (.iconst 2, 1) := dec_0 oL_law (of5 _) rfl
theorem dL_law_1072 : decode cL_law 1072 = .ok (.iadd, 1) := dec_0 oL_law (of96 _) rfl
theorem dL_law_1073 : decode cL_law 1073 = .ok (.iaload, 1) := dec_0 oL_law (of46 _) rfl
theorem dL_law_1074 : decode cL_law 1074 = .ok (.invokevirtual 130, 3) := dec_2 oL_law (of182 _) 0 130 rfl rfl
theorem dL_law_1077 : decode cL_law 1077 = .ok (.pop, 1) := dec_0 oL_law (of87 _) rfl
theorem dL_law_1078 : decode cL_law 1078 = .ok (.aload_n 2, 1) := dec_0 oL_law (of44 _) rfl
theorem dL_law_1079 : decode cL_law 1079 = .ok (.aload_n 0, 1) := dec_0 oL_law (of42 _) rfl
theorem dL_law_1080 : decode cL_law 1080 = .ok (.iload_n 3, 1) := dec_0 oL_law (of29 _) rfl
theorem dL_law_1081 : decode cL_law 1081 = .ok (.iconst 1, 1) := dec_0 oL_law (of4 _) rfl
theorem dL_law_1082 : decode cL_law 1082 = .ok (.iadd, 1) := dec_0 oL_law (of96 _) rfl
theorem dL_law_1083 : decode cL_law 1083 = .ok (.iaload, 1) := dec_0 oL_law (of46 _) rfl
theorem dL_law_1084 : decode cL_law 1084 = .ok (.aload_n 0, 1) := dec_0 oL_law (of42 _) rfl
theorem dL_law_1085 : decode cL_law 1085 = .ok (.iload_n 3, 1) := dec_0 oL_law (of29 _) rfl
theorem dL_law_1086 : decode cL_law 1086 = .ok (.iconst 2, 1) := dec_0 oL_law (of5 _) rfl
theorem dL_law_1087 : decode cL_law 1087 = .ok (.iadd, 1) := dec_0 oL_law (of96 _) rfl
theorem dL_law_1088 : decode cL_law 1088 = .ok (.iaload, 1) := dec_0 oL_law (of46 _) rfl
theorem dL_law_1089 : decode cL_law 1089 = .ok (.invokevirtual 133, 3) := dec_2 oL_law (of182 _) 0 133 rfl rfl
theorem dL_law_1092 : decode cL_law 1092 = .ok (.pop, 1) := dec_0 oL_law (of87 _) rfl
theorem dL_law_1093 : decode cL_law 1093 = .ok (.goto 372, 3) := dec_s2 oL_law (of167 _) 1 116 rfl (sg16p rfl) rfl
theorem dL_law_1096 : decode cL_law 1096 = .ok (.aload_n 1, 1) := dec_0 oL_law (of43 _) rfl
theorem dL_law_1097 : decode cL_law 1097 = .ok (.aload_n 0, 1) := dec_0 oL_law (of42 _) rfl
theorem dL_law_1098 : decode cL_law 1098 = .ok (.iload_n 3, 1) := dec_0 oL_law (of29 _) rfl
theorem dL_law_1099 : decode cL_law 1099 = .ok (.iconst 1, 1) := dec_0 oL_law (of4 _) rfl
theorem dL_law_1100 : decode cL_law 1100 = .ok (.iadd, 1) := dec_0 oL_law (of96 _) rfl
theorem dL_law_1101 : decode cL_law 1101 = .ok (.iaload, 1) := dec_0 oL_law (of46 _) rfl
theorem dL_law_1102 : decode cL_law 1102 = .ok (.aload_n 0, 1) := dec_0 oL_law (of42 _) rfl
theorem dL_law_1103 : decode cL_law 1103 = .ok (.iload_n 3, 1) := dec_0 oL_law (of29 _) rfl
theorem dL_law_1104 : decode cL_law 1104 = .ok (.iconst 2, 1) := dec_0 oL_law (of5 _) rfl
theorem dL_law_1105 : decode cL_law 1105 = .ok (.iadd, 1) := dec_0 oL_law (of96 _) rfl
theorem dL_law_1106 : decode cL_law 1106 = .ok (.iaload, 1) := dec_0 oL_law (of46 _) rfl
theorem dL_law_1107 : decode cL_law 1107 = .ok (.invokevirtual 134, 3) := dec_2 oL_law (of182 _) 0 134 rfl rfl
theorem dL_law_1110 : decode cL_law 1110 = .ok (.pop, 1) := dec_0 oL_law (of87 _) rfl
theorem dL_law_1111 : decode cL_law 1111 = .ok (.aload_n 2, 1) := dec_0 oL_law (of44 _) rfl
theorem dL_law_1112 : decode cL_law 1112 = .ok (.aload_n 0, 1) := dec_0 oL_law (of42 _) rfl
theorem dL_law_1113 : decode cL_law 1113 = .ok (.iload_n 3, 1) := dec_0 oL_law (of29 _) rfl
theorem dL_law_1114 : decode cL_law 1114 = .ok (.iconst 1, 1) := dec_0 oL_law (of4 _) rfl
theorem dL_law_1115 : decode cL_law 1115 = .ok (.iadd, 1) := dec_0 oL_law (of96 _) rfl
theorem dL_law_1116 : decode cL_law 1116 = .ok (.iaload, 1) := dec_0 oL_law (of46 _) rfl
theorem dL_law_1117 : decode cL_law 1117 = .ok (.aload_n 0, 1) := dec_0 oL_law (of42 _) rfl
theorem dL_law_1118 : decode cL_law 1118 = .ok (.iload_n 3, 1) := dec_0 oL_law (of29 _) rfl
theorem dL_law_1119 : decode cL_law 1119 = .ok (.iconst 2, 1) := dec_0 oL_law (of5 _) rfl
theorem dL_law_1120 : decode cL_law 1120 = .ok (.iadd, 1) := dec_0 oL_law (of96 _) rfl
theorem dL_law_1121 : decode cL_law 1121 = .ok (.iaload, 1) := dec_0 oL_law (of46 _) rfl
theorem dL_law_1122 : decode cL_law 1122 = .ok (.invokevirtual 137, 3) := dec_2 oL_law (of182 _) 0 137 rfl rfl
theorem dL_law_1125 : decode cL_law 1125 = .ok (.pop, 1) := dec_0 oL_law (of87 _) rfl
theorem dL_law_1126 : decode cL_law 1126 = .ok (.goto 339, 3) := dec_s2 oL_law (of167 _) 1 83 rfl (sg16p rfl) rfl
theorem dL_law_1129 : decode cL_law 1129 = .ok (.aload_n 1, 1) := dec_0 oL_law (of43 _) rfl
theorem dL_law_1130 : decode cL_law 1130 = .ok (.aload_n 0, 1) := dec_0 oL_law (of42 _) rfl
theorem dL_law_1131 : decode cL_law 1131 = .ok (.iload_n 3, 1) := dec_0 oL_law (of29 _) rfl
theorem dL_law_1132 : decode cL_law 1132 = .ok (.iconst 1, 1) := dec_0 oL_law (of4 _) rfl
theorem dL_law_1133 : decode cL_law 1133 = .ok (.iadd, 1) := dec_0 oL_law (of96 _) rfl
theorem dL_law_1134 : decode cL_law 1134 = .ok (.iaload, 1) := dec_0 oL_law (of46 _) rfl
theorem dL_law_1135 : decode cL_law 1135 = .ok (.aload_n 0, 1) := dec_0 oL_law (of42 _) rfl
theorem dL_law_1136 : decode cL_law 1136 = .ok (.iload_n 3, 1) := dec_0 oL_law (of29 _) rfl
theorem dL_law_1137 : decode cL_law 1137 = .ok (.iconst 2, 1) := dec_0 oL_law (of5 _) rfl
theorem dL_law_1138 : decode cL_law 1138 = .ok (.iadd, 1) := dec_0 oL_law (of96 _) rfl
theorem dL_law_1139 : decode cL_law 1139 = .ok (.iaload, 1) := dec_0 oL_law (of46 _) rfl
theorem dL_law_1140 : decode cL_law 1140 = .ok (.aload_n 0, 1) := dec_0 oL_law (of42 _) rfl
theorem dL_law_1141 : decode cL_law 1141 = .ok (.iload_n 3, 1) := dec_0 oL_law (of29 _) rfl
theorem dL_law_1142 : decode cL_law 1142 = .ok (.iconst 3, 1) := dec_0 oL_law (of6 _) rfl
theorem dL_law_1143 : decode cL_law 1143 = .ok (.iadd, 1) := dec_0 oL_law (of96 _) rfl
theorem dL_law_1144 : decode cL_law 1144 = .ok (.iaload, 1) := dec_0 oL_law (of46 _) rfl
theorem dL_law_1145 : decode cL_law 1145 = .ok (.invokevirtual 138, 3) := dec_2 oL_law (of182 _) 0 138 rfl rfl
theorem dL_law_1148 : decode cL_law 1148 = .ok (.pop, 1) := dec_0 oL_law (of87 _) rfl
theorem dL_law_1149 : decode cL_law 1149 = .ok (.aload_n 2, 1) := dec_0 oL_law (of44 _) rfl
theorem dL_law_1150 : decode cL_law 1150 = .ok (.aload_n 0, 1) := dec_0 oL_law (of42 _) rfl
theorem dL_law_1151 : decode cL_law 1151 = .ok (.iload_n 3, 1) := dec_0 oL_law (of29 _) rfl
theorem dL_law_1152 : decode cL_law 1152 = .ok (.iconst 1, 1) := dec_0 oL_law (of4 _) rfl
theorem dL_law_1153 : decode cL_law 1153 = .ok (.iadd, 1) := dec_0 oL_law (of96 _) rfl
theorem dL_law_1154 : decode cL_law 1154 = .ok (.iaload, 1) := dec_0 oL_law (of46 _) rfl
theorem dL_law_1155 : decode cL_law 1155 = .ok (.aload_n 0, 1) := dec_0 oL_law (of42 _) rfl
theorem dL_law_1156 : decode cL_law 1156 = .ok (.iload_n 3, 1) := dec_0 oL_law (of29 _) rfl
theorem dL_law_1157 : decode cL_law 1157 = .ok (.iconst 2, 1) := dec_0 oL_law (of5 _) rfl
theorem dL_law_1158 : decode cL_law 1158 = .ok (.iadd, 1) := dec_0 oL_law (of96 _) rfl
theorem dL_law_1159 : decode cL_law 1159 = .ok (.iaload, 1) := dec_0 oL_law (of46 _) rfl
theorem dL_law_1160 : decode cL_law 1160 = .ok (.aload_n 0, 1) := dec_0 oL_law (of42 _) rfl
theorem dL_law_1161 : decode cL_law 1161 = .ok (.iload_n 3, 1) := dec_0 oL_law (of29 _) rfl
theorem dL_law_1162 : decode cL_law 1162 = .ok (.iconst 3, 1) := dec_0 oL_law (of6 _) rfl
theorem dL_law_1163 : decode cL_law 1163 = .ok (.iadd, 1) := dec_0 oL_law (of96 _) rfl
theorem dL_law_1164 : decode cL_law 1164 = .ok (.iaload, 1) := dec_0 oL_law (of46 _) rfl
theorem dL_law_1165 : decode cL_law 1165 = .ok (.invokevirtual 141, 3) := dec_2 oL_law (of182 _) 0 141 rfl rfl
theorem dL_law_1168 : decode cL_law 1168 = .ok (.pop, 1) := dec_0 oL_law (of87 _) rfl
theorem dL_law_1169 : decode cL_law 1169 = .ok (.goto 296, 3) := dec_s2 oL_law (of167 _) 1 40 rfl (sg16p rfl) rfl
theorem dL_law_1172 : decode cL_law 1172 = .ok (.aload_n 1, 1) := dec_0 oL_law (of43 _) rfl
theorem dL_law_1173 : decode cL_law 1173 = .ok (.aload_n 0, 1) := dec_0 oL_law (of42 _) rfl
theorem dL_law_1174 : decode cL_law 1174 = .ok (.iload_n 3, 1) := dec_0 oL_law (of29 _) rfl
theorem dL_law_1175 : decode cL_law 1175 = .ok (.iconst 1, 1) := dec_0 oL_law (of4 _) rfl
theorem dL_law_1176 : decode cL_law 1176 = .ok (.iadd, 1) := dec_0 oL_law (of96 _) rfl
theorem dL_law_1177 : decode cL_law 1177 = .ok (.iaload, 1) := dec_0 oL_law (of46 _) rfl
theorem dL_law_1178 : decode cL_law 1178 = .ok (.aload_n 0, 1) := dec_0 oL_law (of42 _) rfl
theorem dL_law_1179 : decode cL_law 1179 = .ok (.iload_n 3, 1) := dec_0 oL_law (of29 _) rfl
theorem dL_law_1180 : decode cL_law 1180 = .ok (.iconst 2, 1) := dec_0 oL_law (of5 _) rfl
theorem dL_law_1181 : decode cL_law 1181 = .ok (.iadd, 1) := dec_0 oL_law (of96 _) rfl
theorem dL_law_1182 : decode cL_law 1182 = .ok (.iaload, 1) := dec_0 oL_law (of46 _) rfl
theorem dL_law_1183 : decode cL_law 1183 = .ok (.invokevirtual 142, 3) := dec_2 oL_law (of182 _) 0 142 rfl rfl
theorem dL_law_1186 : decode cL_law 1186 = .ok (.pop, 1) := dec_0 oL_law (of87 _) rfl
theorem dL_law_1187 : decode cL_law 1187 = .ok (.aload_n 2, 1) := dec_0 oL_law (of44 _) rfl
theorem dL_law_1188 : decode cL_law 1188 = .ok (.aload_n 0, 1) := dec_0 oL_law (of42 _) rfl
theorem dL_law_1189 : decode cL_law 1189 = .ok (.iload_n 3, 1) := dec_0 oL_law (of29 _) rfl
theorem dL_law_1190 : decode cL_law 1190 = .ok (.iconst 1, 1) := dec_0 oL_law (of4 _) rfl
theorem dL_law_1191 : decode cL_law 1191 = .ok (.iadd, 1) := dec_0 oL_law (of96 _) rfl
theorem dL_law_1192 : decode cL_law 1192 = .ok (.iaload, 1) := dec_0 oL_law (of46 _) rfl
theorem dL_law_1193 : decode cL_law 1193 = .ok (.aload_n 0, 1) := dec_0 oL_law (of42 _) rfl
theorem dL_law_1194 : decode cL_law 1194 = .ok (.iload_n 3, 1) := dec_0 oL_law (of29 _) rfl
theorem dL_law_1195 : decode cL_law 1195 = .ok (.iconst 2, 1) := dec_0 oL_law (of5 _) rfl
theorem dL_law_1196 : decode cL_law 1196 = .ok (.iadd, 1) := dec_0 oL_law (of96 _) rfl
theorem dL_law_1197 : decode cL_law 1197 = .ok (.iaload, 1) := dec_0 oL_law (of46 _) rfl
theorem dL_law_1198 : decode cL_law 1198 = .ok (.invokevirtual 145, 3) := dec_2 oL_law (of182 _) 0 145 rfl rfl
theorem dL_law_1201 : decode cL_law 1201 = .ok (.pop, 1) := dec_0 oL_law (of87 _) rfl
theorem dL_law_1202 : decode cL_law 1202 = .ok (.goto 263, 3) := dec_s2 oL_law (of167 _) 1 7 rfl (sg16p rfl) rfl
theorem dL_law_1205 : decode cL_law 1205 = .ok (.aload_n 1, 1) := dec_0 oL_law (of43 _) rfl
theorem dL_law_1206 : decode cL_law 1206 = .ok (.aload_n 0, 1) := dec_0 oL_law (of42 _) rfl
theorem dL_law_1207 : decode cL_law 1207 = .ok (.iload_n 3, 1) := dec_0 oL_law (of29 _) rfl
theorem dL_law_1208 : decode cL_law 1208 = .ok (.iconst 1, 1) := dec_0 oL_law (of4 _) rfl
theorem dL_law_1209 : decode cL_law 1209 = .ok (.iadd, 1) := dec_0 oL_law (of96 _) rfl
theorem dL_law_1210 : decode cL_law 1210 = .ok (.iaload, 1) := dec_0 oL_law (of46 _) rfl
theorem dL_law_1211 : decode cL_law 1211 = .ok (.aload_n 0, 1) := dec_0 oL_law (of42 _) rfl
theorem dL_law_1212 : decode cL_law 1212 = .ok (.iload_n 3, 1) := dec_0 oL_law (of29 _) rfl
theorem dL_law_1213 : decode cL_law 1213 = .ok (.iconst 2, 1) := dec_0 oL_law (of5 _) rfl
theorem dL_law_1214 : decode cL_law 1214 = .ok (.iadd, 1) := dec_0 oL_law (of96 _) rfl
theorem dL_law_1215 : decode cL_law 1215 = .ok (.iaload, 1) := dec_0 oL_law (of46 _) rfl
theorem dL_law_1216 : decode cL_law 1216 = .ok (.invokevirtual 146, 3) := dec_2 oL_law (of182 _) 0 146 rfl rfl
theorem dL_law_1219 : decode cL_law 1219 = .ok (.pop, 1) := dec_0 oL_law (of87 _) rfl
theorem dL_law_1220 : decode cL_law 1220 = .ok (.aload_n 2, 1) := dec_0 oL_law (of44 _) rfl
theorem dL_law_1221 : decode cL_law 1221 = .ok (.aload_n 0, 1) := dec_0 oL_law (of42 _) rfl
theorem dL_law_1222 : decode cL_law 1222 = .ok (.iload_n 3, 1) := dec_0 oL_law (of29 _) rfl
theorem dL_law_1223 : decode cL_law 1223 = .ok (.iconst 1, 1) := dec_0 oL_law (of4 _) rfl
theorem dL_law_1224 : decode cL_law 1224 = .ok (.iadd, 1) := dec_0 oL_law (of96 _) rfl
theorem dL_law_1225 : decode cL_law 1225 = .ok (.iaload, 1) := dec_0 oL_law (of46 _) rfl
theorem dL_law_1226 : decode cL_law 1226 = .ok (.aload_n 0, 1) := dec_0 oL_law (of42 _) rfl
theorem dL_law_1227 : decode cL_law 1227 = .ok (.iload_n 3, 1) := dec_0 oL_law (of29 _) rfl
theorem dL_law_1228 : decode cL_law 1228 = .ok (.iconst 2, 1) := dec_0 oL_law (of5 _) rfl
theorem dL_law_1229 : decode cL_law 1229 = .ok (.iadd, 1) := dec_0 oL_law (of96 _) rfl
theorem dL_law_1230 : decode cL_law 1230 = .ok (.iaload, 1) := dec_0 oL_law (of46 _) rfl
theorem dL_law_1231 : decode cL_law 1231 = .ok (.invokevirtual 149, 3) := dec_2 oL_law (of182 _) 0 149 rfl rfl
theorem dL_law_1234 : decode cL_law 1234 = .ok (.pop, 1) := dec_0 oL_law (of87 _) rfl
theorem dL_law_1235 : decode cL_law 1235 = .ok (.goto 230, 3) := dec_s2 oL_law (of167 _) 0 230 rfl (sg16p rfl) rfl
theorem dL_law_1238 : decode cL_law 1238 = .ok (.aload_n 1, 1) := dec_0 oL_law (of43 _) rfl
theorem dL_law_1239 : decode cL_law 1239 = .ok (.aload_n 0, 1) := dec_0 oL_law (of42 _) rfl
theorem dL_law_1240 : decode cL_law 1240 = .ok (.iload_n 3, 1) := dec_0 oL_law (of29 _) rfl
theorem dL_law_1241 : decode cL_law 1241 = .ok (.iconst 1, 1) := dec_0 oL_law (of4 _) rfl
theorem dL_law_1242 : decode cL_law 1242 = .ok (.iadd, 1) := dec_0 oL_law (of96 _) rfl
theorem dL_law_1243 : decode cL_law 1243 = .ok (.iaload, 1) := dec_0 oL_law (of46 _) rfl
theorem dL_law_1244 : decode cL_law 1244 = .ok (.aload_n 0, 1) := dec_0 oL_law (of42 _) rfl
theorem dL_law_1245 : decode cL_law 1245 = .ok (.iload_n 3, 1) := dec_0 oL_law (of29 _) rfl
theorem dL_law_1246 : decode cL_law 1246 = .ok (.iconst 2, 1) := dec_0 oL_law (of5 _) rfl
theorem dL_law_1247 : decode cL_law 1247 = .ok (.iadd, 1) := dec_0 oL_law (of96 _) rfl
theorem dL_law_1248 : decode cL_law 1248 = .ok (.iaload, 1) := dec_0 oL_law (of46 _) rfl
theorem dL_law_1249 : decode cL_law 1249 = .ok (.aload_n 0, 1) := dec_0 oL_law (of42 _) rfl
theorem dL_law_1250 : decode cL_law 1250 = .ok (.iload_n 3, 1) := dec_0 oL_law (of29 _) rfl
theorem dL_law_1251 : decode cL_law 1251 = .ok (.iconst 3, 1) := dec_0 oL_law (of6 _) rfl
theorem dL_law_1252 : decode cL_law 1252 = .ok (.iadd, 1) := dec_0 oL_law (of96 _) rfl
theorem dL_law_1253 : decode cL_law 1253 = .ok (.iaload, 1) := dec_0 oL_law (of46 _) rfl
theorem dL_law_1254 : decode cL_law 1254 = .ok (.invokevirtual 150, 3) := dec_2 oL_law (of182 _) 0 150 rfl rfl
theorem dL_law_1257 : decode cL_law 1257 = .ok (.pop, 1) := dec_0 oL_law (of87 _) rfl
theorem dL_law_1258 : decode cL_law 1258 = .ok (.aload_n 2, 1) := dec_0 oL_law (of44 _) rfl
theorem dL_law_1259 : decode cL_law 1259 = .ok (.aload_n 0, 1) := dec_0 oL_law (of42 _) rfl
theorem dL_law_1260 : decode cL_law 1260 = .ok (.iload_n 3, 1) := dec_0 oL_law (of29 _) rfl
theorem dL_law_1261 : decode cL_law 1261 = .ok (.iconst 1, 1) := dec_0 oL_law (of4 _) rfl
theorem dL_law_1262 : decode cL_law 1262 = .ok (.iadd, 1) := dec_0 oL_law (of96 _) rfl
theorem dL_law_1263 : decode cL_law 1263 = .ok (.iaload, 1) := dec_0 oL_law (of46 _) rfl
theorem dL_law_1264 : decode cL_law 1264 = .ok (.aload_n 0, 1) := dec_0 oL_law (of42 _) rfl
theorem dL_law_1265 : decode cL_law 1265 = .ok (.iload_n 3, 1) := dec_0 oL_law (of29 _) rfl
theorem dL_law_1266 : decode cL_law 1266 = .ok (.iconst 2, 1) := dec_0 oL_law (of5 _) rfl
theorem dL_law_1267 : decode cL_law 1267 = .ok (.iadd, 1) := dec_0 oL_law (of96 _) rfl
theorem dL_law_1268 : decode cL_law 1268 = .ok (.iaload, 1) := dec_0 oL_law (of46 _) rfl
theorem dL_law_1269 : decode cL_law 1269 = .ok (.aload_n 0, 1) := dec_0 oL_law (of42 _) rfl
theorem dL_law_1270 : decode cL_law 1270 = .ok (.iload_n 3, 1) := dec_0 oL_law (of29 _) rfl
theorem dL_law_1271 : decode cL_law 1271 = .ok (.iconst 3, 1) := dec_0 oL_law (of6 _) rfl
theorem dL_law_1272 : decode cL_law 1272 = .ok (.iadd, 1) := dec_0 oL_law (of96 _) rfl
theorem dL_law_1273 : decode cL_law 1273 = .ok (.iaload, 1) := dec_0 oL_law (of46 _) rfl
theorem dL_law_1274 : decode cL_law 1274 = .ok (.invokevirtual 153, 3) := dec_2 oL_law (of182 _) 0 153 rfl rfl
theorem dL_law_1277 : decode cL_law 1277 = .ok (.pop, 1) := dec_0 oL_law (of87 _) rfl
theorem dL_law_1278 : decode cL_law 1278 = .ok (.goto 187, 3) := dec_s2 oL_law (of167 _) 0 187 rfl (sg16p rfl) rfl
theorem dL_law_1281 : decode cL_law 1281 = .ok (.aload_n 1, 1) := dec_0 oL_law (of43 _) rfl
theorem dL_law_1282 : decode cL_law 1282 = .ok (.aload_n 0, 1) := dec_0 oL_law (of42 _) rfl
theorem dL_law_1283 : decode cL_law 1283 = .ok (.iload_n 3, 1) := dec_0 oL_law (of29 _) rfl
theorem dL_law_1284 : decode cL_law 1284 = .ok (.iconst 1, 1) := dec_0 oL_law (of4 _) rfl
theorem dL_law_1285 : decode cL_law 1285 = .ok (.iadd, 1) := dec_0 oL_law (of96 _) rfl
theorem dL_law_1286 : decode cL_law 1286 = .ok (.iaload, 1) := dec_0 oL_law (of46 _) rfl
theorem dL_law_1287 : decode cL_law 1287 = .ok (.invokevirtual 154, 3) := dec_2 oL_law (of182 _) 0 154 rfl rfl
theorem dL_law_1290 : decode cL_law 1290 = .ok (.pop, 1) := dec_0 oL_law (of87 _) rfl
theorem dL_law_1291 : decode cL_law 1291 = .ok (.aload_n 2, 1) := dec_0 oL_law (of44 _) rfl
theorem dL_law_1292 : decode cL_law 1292 = .ok (.aload_n 0, 1) := dec_0 oL_law (of42 _) rfl
theorem dL_law_1293 : decode cL_law 1293 = .ok (.iload_n 3, 1) := dec_0 oL_law (of29 _) rfl
theorem dL_law_1294 : decode cL_law 1294 = .ok (.iconst 1, 1) := dec_0 oL_law (of4 _) rfl
theorem dL_law_1295 : decode cL_law 1295 = .ok (.iadd, 1) := dec_0 oL_law (of96 _) rfl
theorem dL_law_1296 : decode cL_law 1296 = .ok (.iaload, 1) := dec_0 oL_law (of46 _) rfl
theorem dL_law_1297 : decode cL_law 1297 = .ok (.invokevirtual 157, 3) := dec_2 oL_law (of182 _) 0 157 rfl rfl
theorem dL_law_1300 : decode cL_law 1300 = .ok (.pop, 1) := dec_0 oL_law (of87 _) rfl
theorem dL_law_1301 : decode cL_law 1301 = .ok (.goto 164, 3) := dec_s2 oL_law (of167 _) 0 164 rfl (sg16p rfl) rfl
theorem dL_law_1304 : decode cL_law 1304 = .ok (.aload_n 1, 1) := dec_0 oL_law (of43 _) rfl
theorem dL_law_1305 : decode cL_law 1305 = .ok (.aload_n 0, 1) := dec_0 oL_law (of42 _) rfl
theorem dL_law_1306 : decode cL_law 1306 = .ok (.iload_n 3, 1) := dec_0 oL_law (of29 _) rfl
theorem dL_law_1307 : decode cL_law 1307 = .ok (.iconst 1, 1) := dec_0 oL_law (of4 _) rfl
theorem dL_law_1308 : decode cL_law 1308 = .ok (.iadd, 1) := dec_0 oL_law (of96 _) rfl
theorem dL_law_1309 : decode cL_law 1309 = .ok (.iaload, 1) := dec_0 oL_law (of46 _) rfl
theorem dL_law_1310 : decode cL_law 1310 = .ok (.invokevirtual 158, 3) := dec_2 oL_law (of182 _) 0 158 rfl rfl
theorem dL_law_1313 : decode cL_law 1313 = .ok (.pop, 1) := dec_0 oL_law (of87 _) rfl
theorem dL_law_1314 : decode cL_law 1314 = .ok (.aload_n 2, 1) := dec_0 oL_law (of44 _) rfl
theorem dL_law_1315 : decode cL_law 1315 = .ok (.aload_n 0, 1) := dec_0 oL_law (of42 _) rfl
theorem dL_law_1316 : decode cL_law 1316 = .ok (.iload_n 3, 1) := dec_0 oL_law (of29 _) rfl
theorem dL_law_1317 : decode cL_law 1317 = .ok (.iconst 1, 1) := dec_0 oL_law (of4 _) rfl
theorem dL_law_1318 : decode cL_law 1318 = .ok (.iadd, 1) := dec_0 oL_law (of96 _) rfl
theorem dL_law_1319 : decode cL_law 1319 = .ok (.iaload, 1) := dec_0 oL_law (of46 _) rfl
theorem dL_law_1320 : decode cL_law 1320 = .ok (.invokevirtual 161, 3) := dec_2 oL_law (of182 _) 0 161 rfl rfl
theorem dL_law_1323 : decode cL_law 1323 = .ok (.pop, 1) := dec_0 oL_law (of87 _) rfl
theorem dL_law_1324 : decode cL_law 1324 = .ok (.goto 141, 3) := dec_s2 oL_law (of167 _) 0 141 rfl (sg16p rfl) rfl
theorem dL_law_1327 : decode cL_law 1327 = .ok (.aload_n 1, 1) := dec_0 oL_law (of43 _) rfl
theorem dL_law_1328 : decode cL_law 1328 = .ok (.aload_n 0, 1) := dec_0 oL_law (of42 _) rfl
theorem dL_law_1329 : decode cL_law 1329 = .ok (.iload_n 3, 1) := dec_0 oL_law (of29 _) rfl
theorem dL_law_1330 : decode cL_law 1330 = .ok (.iconst 1, 1) := dec_0 oL_law (of4 _) rfl
theorem dL_law_1331 : decode cL_law 1331 = .ok (.iadd, 1) := dec_0 oL_law (of96 _) rfl
theorem dL_law_1332 : decode cL_law 1332 = .ok (.iaload, 1) := dec_0 oL_law (of46 _) rfl
theorem dL_law_1333 : decode cL_law 1333 = .ok (.invokevirtual 162, 3) := dec_2 oL_law (of182 _) 0 162 rfl rfl
theorem dL_law_1336 : decode cL_law 1336 = .ok (.pop, 1) := dec_0 oL_law (of87 _) rfl
theorem dL_law_1337 : decode cL_law 1337 = .ok (.aload_n 2, 1) := dec_0 oL_law (of44 _) rfl
theorem dL_law_1338 : decode cL_law 1338 = .ok (.aload_n 0, 1) := dec_0 oL_law (of42 _) rfl
theorem dL_law_1339 : decode cL_law 1339 = .ok (.iload_n 3, 1) := dec_0 oL_law (of29 _) rfl
theorem dL_law_1340 : decode cL_law 1340 = .ok (.iconst 1, 1) := dec_0 oL_law (of4 _) rfl
theorem dL_law_1341 : decode cL_law 1341 = .ok (.iadd, 1) := dec_0 oL_law (of96 _) rfl
theorem dL_law_1342 : decode cL_law 1342 = .ok (.iaload, 1) := dec_0 oL_law (of46 _) rfl
theorem dL_law_1343 : decode cL_law 1343 = .ok (.invokevirtual 165, 3) := dec_2 oL_law (of182 _) 0 165 rfl rfl
theorem dL_law_1346 : decode cL_law 1346 = .ok (.pop, 1) := dec_0 oL_law (of87 _) rfl
theorem dL_law_1347 : decode cL_law 1347 = .ok (.goto 118, 3) := dec_s2 oL_law (of167 _) 0 118 rfl (sg16p rfl) rfl
theorem dL_law_1350 : decode cL_law 1350 = .ok (.aload_n 1, 1) := dec_0 oL_law (of43 _) rfl
theorem dL_law_1351 : decode cL_law 1351 = .ok (.aload_n 0, 1) := dec_0 oL_law (of42 _) rfl
theorem dL_law_1352 : decode cL_law 1352 = .ok (.iload_n 3, 1) := dec_0 oL_law (of29 _) rfl
theorem dL_law_1353 : decode cL_law 1353 = .ok (.iconst 1, 1) := dec_0 oL_law (of4 _) rfl
theorem dL_law_1354 : decode cL_law 1354 = .ok (.iadd, 1) := dec_0 oL_law (of96 _) rfl
theorem dL_law_1355 : decode cL_law 1355 = .ok (.iaload, 1) := dec_0 oL_law (of46 _) rfl
theorem dL_law_1356 : decode cL_law 1356 = .ok (.invokevirtual 166, 3) := dec_2 oL_law (of182 _) 0 166 rfl rfl
theorem dL_law_1359 : decode cL_law 1359 = .ok (.pop, 1) := dec_0 oL_law (of87 _) rfl
theorem dL_law_1360 : decode cL_law 1360 = .ok (.aload_n 2, 1) := dec_0 oL_law (of44 _) rfl
theorem dL_law_1361 : decode cL_law 1361 = .ok (.aload_n 0, 1) := dec_0 oL_law (of42 _) rfl
theorem dL_law_1362 : decode cL_law 1362 = .ok (.iload_n 3, 1) := dec_0 oL_law (of29 _) rfl
theorem dL_law_1363 : decode cL_law 1363 = .ok (.iconst 1, 1) := dec_0 oL_law (of4 _) rfl
theorem dL_law_1364 : decode cL_law 1364 = .ok (.iadd, 1) := dec_0 oL_law (of96 _) rfl
theorem dL_law_1365 : decode cL_law 1365 = .ok (.iaload, 1) := dec_0 oL_law (of46 _) rfl
theorem dL_law_1366 : decode cL_law 1366 = .ok (.invokevirtual 169, 3) := dec_2 oL_law (of182 _) 0 169 rfl rfl
theorem dL_law_1369 : decode cL_law 1369 = .ok (.pop, 1) := dec_0 oL_law (of87 _) rfl
theorem dL_law_1370 : decode cL_law 1370 = .ok (.goto 95, 3) := dec_s2 oL_law (of167 _) 0 95 rfl (sg16p rfl) rfl
theorem dL_law_1373 : decode cL_law 1373 = .ok (.aload_n 1, 1) := dec_0 oL_law (of43 _) rfl
theorem dL_law_1374 : decode cL_law 1374 = .ok (.aload_n 0, 1) := dec_0 oL_law (of42 _) rfl
theorem dL_law_1375 : decode cL_law 1375 = .ok (.iload_n 3, 1) := dec_0 oL_law (of29 _) rfl
theorem dL_law_1376 : decode cL_law 1376 = .ok (.iconst 1, 1) := dec_0 oL_law (of4 _) rfl
theorem dL_law_1377 : decode cL_law 1377 = .ok (.iadd, 1) := dec_0 oL_law (of96 _) rfl
theorem dL_law_1378 : decode cL_law 1378 = .ok (.iaload, 1) := dec_0 oL_law (of46 _) rfl
theorem dL_law_1379 : decode cL_law 1379 = .ok (.invokevirtual 170, 3) := dec_2 oL_law (of182 _) 0 170 rfl rfl
theorem dL_law_1382 : decode cL_law 1382 = .ok (.pop, 1) := dec_0 oL_law (of87 _) rfl
theorem dL_law_1383 : decode cL_law 1383 = .ok (.aload_n 2, 1) := dec_0 oL_law (of44 _) rfl
theorem dL_law_1384 : decode cL_law 1384 = .ok (.aload_n 0, 1) := dec_0 oL_law (of42 _) rfl
theorem dL_law_1385 : decode cL_law 1385 = .ok (.iload_n 3, 1) := dec_0 oL_law (of29 _) rfl
theorem dL_law_1386 : decode cL_law 1386 = .ok (.iconst 1, 1) := dec_0 oL_law (of4 _) rfl
theorem dL_law_1387 : decode cL_law 1387 = .ok (.iadd, 1) := dec_0 oL_law (of96 _) rfl
theorem dL_law_1388 : decode cL_law 1388 = .ok (.iaload, 1) := dec_0 oL_law (of46 _) rfl
theorem dL_law_1389 : decode cL_law 1389 = .ok (.invokevirtual 173, 3) := dec_2 oL_law (of182 _) 0 173 rfl rfl
theorem dL_law_1392 : decode cL_law 1392 = .ok (.pop, 1) := dec_0 oL_law (of87 _) rfl
theorem dL_law_1393 : decode cL_law 1393 = .ok (.goto 72, 3) := dec_s2 oL_law (of167 _) 0 72 rfl (sg16p rfl) rfl
theorem dL_law_1396 : decode cL_law 1396 = .ok (.aload_n 1, 1) := dec_0 oL_law (of43 _) rfl
theorem dL_law_1397 : decode cL_law 1397 = .ok (.aload_n 0, 1) := dec_0 oL_law (of42 _) rfl
theorem dL_law_1398 : decode cL_law 1398 = .ok (.iload_n 3, 1) := dec_0 oL_law (of29 _) rfl
theorem dL_law_1399 : decode cL_law 1399 = .ok (.iconst 1, 1) := dec_0 oL_law (of4 _) rfl
theorem dL_law_1400 : decode cL_law 1400 = .ok (.iadd, 1) := dec_0 oL_law (of96 _) rfl
theorem dL_law_1401 : decode cL_law 1401 = .ok (.iaload, 1) := dec_0 oL_law (of46 _) rfl
theorem dL_law_1402 : decode cL_law 1402 = .ok (.invokevirtual 174, 3) := dec_2 oL_law (of182 _) 0 174 rfl rfl
theorem dL_law_1405 : decode cL_law 1405 = .ok (.pop, 1) := dec_0 oL_law (of87 _) rfl
theorem dL_law_1406 : decode cL_law 1406 = .ok (.aload_n 2, 1) := dec_0 oL_law (of44 _) rfl
theorem dL_law_1407 : decode cL_law 1407 = .ok (.aload_n 0, 1) := dec_0 oL_law (of42 _) rfl
theorem dL_law_1408 : decode cL_law 1408 = .ok (.iload_n 3, 1) := dec_0 oL_law (of29 _) rfl
theorem dL_law_1409 : decode cL_law 1409 = .ok (.iconst 1, 1) := dec_0 oL_law (of4 _) rfl
theorem dL_law_1410 : decode cL_law 1410 = .ok (.iadd, 1) := dec_0 oL_law (of96 _) rfl
theorem dL_law_1411 : decode cL_law 1411 = .ok (.iaload, 1) := dec_0 oL_law (of46 _) rfl
theorem dL_law_1412 : decode cL_law 1412 = .ok (.invokevirtual 177, 3) := dec_2 oL_law (of182 _) 0 177 rfl rfl
theorem dL_law_1415 : decode cL_law 1415 = .ok (.pop, 1) := dec_0 oL_law (of87 _) rfl
theorem dL_law_1416 : decode cL_law 1416 = .ok (.goto 49, 3) := dec_s2 oL_law (of167 _) 0 49 rfl (sg16p rfl) rfl
theorem dL_law_1419 : decode cL_law 1419 = .ok (.aload_n 1, 1) := dec_0 oL_law (of43 _) rfl
theorem dL_law_1420 : decode cL_law 1420 = .ok (.aload_n 0, 1) := dec_0 oL_law (of42 _) rfl
theorem dL_law_1421 : decode cL_law 1421 = .ok (.iload_n 3, 1) := dec_0 oL_law (of29 _) rfl
theorem dL_law_1422 : decode cL_law 1422 = .ok (.iconst 1, 1) := dec_0 oL_law (of4 _) rfl
theorem dL_law_1423 : decode cL_law 1423 = .ok (.iadd, 1) := dec_0 oL_law (of96 _) rfl
theorem dL_law_1424 : decode cL_law 1424 = .ok (.iaload, 1) := dec_0 oL_law (of46 _) rfl
theorem dL_law_1425 : decode cL_law 1425 = .ok (.invokevirtual 178, 3) := dec_2 oL_law (of182 _) 0 178 rfl rfl
theorem dL_law_1428 : decode cL_law 1428 = .ok (.pop, 1) := dec_0 oL_law (of87 _) rfl
theorem dL_law_1429 : decode cL_law 1429 = .ok (.aload_n 2, 1) := dec_0 oL_law (of44 _) rfl
theorem dL_law_1430 : decode cL_law 1430 = .ok (.aload_n 0, 1) := dec_0 oL_law (of42 _) rfl
theorem dL_law_1431 : decode cL_law 1431 = .ok (.iload_n 3, 1) := dec_0 oL_law (of29 _) rfl
theorem dL_law_1432 : decode cL_law 1432 = .ok (.iconst 1, 1) := dec_0 oL_law (of4 _) rfl
theorem dL_law_1433 : decode cL_law 1433 = .ok (.iadd, 1) := dec_0 oL_law (of96 _) rfl
theorem dL_law_1434 : decode cL_law 1434 = .ok (.iaload, 1) := dec_0 oL_law (of46 _) rfl
theorem dL_law_1435 : decode cL_law 1435 = .ok (.invokevirtual 181, 3) := dec_2 oL_law (of182 _) 0 181 rfl rfl
theorem dL_law_1438 : decode cL_law 1438 = .ok (.pop, 1) := dec_0 oL_law (of87 _) rfl
theorem dL_law_1439 : decode cL_law 1439 = .ok (.goto 26, 3) := dec_s2 oL_law (of167 _) 0 26 rfl (sg16p rfl) rfl
theorem dL_law_1442 : decode cL_law 1442 = .ok (.aload_n 1, 1) := dec_0 oL_law (of43 _) rfl
theorem dL_law_1443 : decode cL_law 1443 = .ok (.aload_n 0, 1) := dec_0 oL_law (of42 _) rfl
theorem dL_law_1444 : decode cL_law 1444 = .ok (.iload_n 3, 1) := dec_0 oL_law (of29 _) rfl
theorem dL_law_1445 : decode cL_law 1445 = .ok (.iconst 1, 1) := dec_0 oL_law (of4 _) rfl
theorem dL_law_1446 : decode cL_law 1446 = .ok (.iadd, 1) := dec_0 oL_law (of96 _) rfl
theorem dL_law_1447 : decode cL_law 1447 = .ok (.iaload, 1) := dec_0 oL_law (of46 _) rfl
theorem dL_law_1448 : decode cL_law 1448 = .ok (.invokevirtual 182, 3) := dec_2 oL_law (of182 _) 0 182 rfl rfl
theorem dL_law_1451 : decode cL_law 1451 = .ok (.pop, 1) := dec_0 oL_law (of87 _) rfl
theorem dL_law_1452 : decode cL_law 1452 = .ok (.aload_n 2, 1) := dec_0 oL_law (of44 _) rfl
theorem dL_law_1453 : decode cL_law 1453 = .ok (.aload_n 0, 1) := dec_0 oL_law (of42 _) rfl
theorem dL_law_1454 : decode cL_law 1454 = .ok (.iload_n 3, 1) := dec_0 oL_law (of29 _) rfl
theorem dL_law_1455 : decode cL_law 1455 = .ok (.iconst 1, 1) := dec_0 oL_law (of4 _) rfl
theorem dL_law_1456 : decode cL_law 1456 = .ok (.iadd, 1) := dec_0 oL_law (of96 _) rfl
theorem dL_law_1457 : decode cL_law 1457 = .ok (.iaload, 1) := dec_0 oL_law (of46 _) rfl
theorem dL_law_1458 : decode cL_law 1458 = .ok (.invokevirtual 185, 3) := dec_2 oL_law (of182 _) 0 185 rfl rfl
theorem dL_law_1461 : decode cL_law 1461 = .ok (.pop, 1) := dec_0 oL_law (of87 _) rfl
theorem dL_law_1462 : decode cL_law 1462 = .ok (.goto 3, 3) := dec_s2 oL_law (of167 _) 0 3 rfl (sg16p rfl) rfl
theorem dL_law_1465 : decode cL_law 1465 = .ok (.iinc 3 6, 3) := dec_ii oL_law (of132 _) 3 6 rfl (sg8p rfl) rfl
theorem dL_law_1468 : decode cL_law 1468 = .ok (.goto (-1450), 3) := dec_s2 oL_law (of167 _) 250 86 rfl (sg16n (k := 1450) rfl) rfl
theorem dL_law_1471 : decode cL_law 1471 = .ok (.iconst 1, 1) := dec_0 oL_law (of4 _) rfl
theorem dL_law_1472 : decode cL_law 1472 = .ok (.ireturn, 1) := dec_0 oL_law (of172 _) rfl
