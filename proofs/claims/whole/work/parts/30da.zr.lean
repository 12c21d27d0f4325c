/-! the rows: printed by a program -/
theorem zr_0_0 : z_co 0 0 = (.new 7, 3, 11, 0, [125, 126, 104]) := rfl
theorem zr_0_3 : z_co 0 3 = (.dup, 1, 0, 0, []) := rfl
theorem zr_0_4 : z_co 0 4 = (.invokespecial 9, 3, 91, 0, [127, 128]) := rfl
theorem zr_0_7 : z_co 0 7 = (.astore_n 1, 1, 0, 0, []) := rfl
theorem zr_0_8 : z_co 0 8 = (.new 10, 3, 12, 0, [1175, 1176, 115]) := rfl
theorem zr_0_11 : z_co 0 11 = (.dup, 1, 0, 0, []) := rfl
theorem zr_0_12 : z_co 0 12 = (.invokespecial 12, 3, 144, 0, [1177, 1178]) := rfl
theorem zr_0_15 : z_co 0 15 = (.astore_n 2, 1, 0, 0, []) := rfl
theorem zr_0_16 : z_co 0 16 = (.iconst 0, 1, 0, 0, []) := rfl
theorem zr_0_17 : z_co 0 17 = (.istore_n 3, 1, 0, 0, []) := rfl
theorem zr_0_18 : z_co 0 18 = (.iload_n 3, 1, 0, 0, []) := rfl
theorem zr_0_19 : z_co 0 19 = (.aload_n 0, 1, 0, 0, []) := rfl
theorem zr_0_20 : z_co 0 20 = (.arraylength, 1, 0, 0, []) := rfl
theorem zr_0_21 : z_co 0 21 = (.bipush 6, 2, 0, 0, []) := rfl
theorem zr_0_23 : z_co 0 23 = (.isub, 1, 0, 0, []) := rfl
theorem zr_0_24 : z_co 0 24 = (.if_icmp .gt 1226, 3, 0, 0, []) := rfl
theorem zr_0_27 : z_co 0 27 = (.aload_n 0, 1, 0, 0, []) := rfl
theorem zr_0_28 : z_co 0 28 = (.iload_n 3, 1, 0, 0, []) := rfl
theorem zr_0_29 : z_co 0 29 = (.iaload, 1, 0, 0, []) := rfl
theorem zr_0_30 : z_co 0 30 = (.bipush 63, 2, 0, 0, []) := rfl
theorem zr_0_32 : z_co 0 32 = (.iand, 1, 0, 0, []) := rfl
theorem zr_0_33 : z_co 0 33 = (.tableswitch 1211 0 37 #[167, 200, 243, 276, 309, 352, 385, 448, 471, 484, 497, 510, 523, 546, 579, 602, 645, 678, 711, 744, 777, 800, 823, 846, 869, 892, 905, 938, 971, 994, 1017, 1030, 1063, 1096, 1129, 1152, 1175, 1198], 167, 0, 0, []) := rfl
theorem zr_0_200 : z_co 0 200 = (.aload_n 1, 1, 0, 0, []) := rfl
theorem zr_0_201 : z_co 0 201 = (.aload_n 0, 1, 0, 0, []) := rfl
theorem zr_0_202 : z_co 0 202 = (.iload_n 3, 1, 0, 0, []) := rfl
theorem zr_0_203 : z_co 0 203 = (.iconst 1, 1, 0, 0, []) := rfl
theorem zr_0_204 : z_co 0 204 = (.iadd, 1, 0, 0, []) := rfl
theorem zr_0_205 : z_co 0 205 = (.iaload, 1, 0, 0, []) := rfl
theorem zr_0_206 : z_co 0 206 = (.aload_n 0, 1, 0, 0, []) := rfl
theorem zr_0_207 : z_co 0 207 = (.iload_n 3, 1, 0, 0, []) := rfl
theorem zr_0_208 : z_co 0 208 = (.iconst 2, 1, 0, 0, []) := rfl
theorem zr_0_209 : z_co 0 209 = (.iadd, 1, 0, 0, []) := rfl
theorem zr_0_210 : z_co 0 210 = (.iaload, 1, 0, 0, []) := rfl
theorem zr_0_211 : z_co 0 211 = (.invokevirtual 13, 3, 92, 0, [489, 490, 491]) := rfl
theorem zr_0_214 : z_co 0 214 = (.aload_n 2, 1, 0, 0, []) := rfl
theorem zr_0_215 : z_co 0 215 = (.aload_n 0, 1, 0, 0, []) := rfl
theorem zr_0_216 : z_co 0 216 = (.iload_n 3, 1, 0, 0, []) := rfl
theorem zr_0_217 : z_co 0 217 = (.iconst 1, 1, 0, 0, []) := rfl
theorem zr_0_218 : z_co 0 218 = (.iadd, 1, 0, 0, []) := rfl
theorem zr_0_219 : z_co 0 219 = (.iaload, 1, 0, 0, []) := rfl
theorem zr_0_220 : z_co 0 220 = (.aload_n 0, 1, 0, 0, []) := rfl
theorem zr_0_221 : z_co 0 221 = (.iload_n 3, 1, 0, 0, []) := rfl
theorem zr_0_222 : z_co 0 222 = (.iconst 2, 1, 0, 0, []) := rfl
theorem zr_0_223 : z_co 0 223 = (.iadd, 1, 0, 0, []) := rfl
theorem zr_0_224 : z_co 0 224 = (.iaload, 1, 0, 0, []) := rfl
theorem zr_0_225 : z_co 0 225 = (.invokevirtual 17, 3, 161, 0, [1374, 1375, 1376]) := rfl
theorem zr_0_228 : z_co 0 228 = (.if_icmp .eq 1016, 3, 0, 0, []) := rfl
theorem zr_0_231 : z_co 0 231 = (.iconst 0, 1, 0, 0, []) := rfl
theorem zr_0_232 : z_co 0 232 = (.ireturn, 1, 0, 0, []) := rfl
theorem zr_0_233 : z_co 0 233 = (.aload_n 1, 1, 0, 0, []) := rfl
theorem zr_0_234 : z_co 0 234 = (.aload_n 0, 1, 0, 0, []) := rfl
theorem zr_0_235 : z_co 0 235 = (.iload_n 3, 1, 0, 0, []) := rfl
theorem zr_0_236 : z_co 0 236 = (.iconst 1, 1, 0, 0, []) := rfl
theorem zr_0_237 : z_co 0 237 = (.iadd, 1, 0, 0, []) := rfl
theorem zr_0_238 : z_co 0 238 = (.iaload, 1, 0, 0, []) := rfl
theorem zr_0_239 : z_co 0 239 = (.aload_n 0, 1, 0, 0, []) := rfl
theorem zr_0_240 : z_co 0 240 = (.iload_n 3, 1, 0, 0, []) := rfl
theorem zr_0_241 : z_co 0 241 = (.iconst 2, 1, 0, 0, []) := rfl
theorem zr_0_242 : z_co 0 242 = (.iadd, 1, 0, 0, []) := rfl
theorem zr_0_243 : z_co 0 243 = (.iaload, 1, 0, 0, []) := rfl
theorem zr_0_244 : z_co 0 244 = (.aload_n 0, 1, 0, 0, []) := rfl
theorem zr_0_245 : z_co 0 245 = (.iload_n 3, 1, 0, 0, []) := rfl
theorem zr_0_246 : z_co 0 246 = (.iconst 3, 1, 0, 0, []) := rfl
theorem zr_0_247 : z_co 0 247 = (.iadd, 1, 0, 0, []) := rfl
theorem zr_0_248 : z_co 0 248 = (.iaload, 1, 0, 0, []) := rfl
theorem zr_0_249 : z_co 0 249 = (.invokevirtual 18, 3, 93, 0, [519, 520, 521]) := rfl
theorem zr_0_252 : z_co 0 252 = (.aload_n 2, 1, 0, 0, []) := rfl
theorem zr_0_253 : z_co 0 253 = (.aload_n 0, 1, 0, 0, []) := rfl
theorem zr_0_254 : z_co 0 254 = (.iload_n 3, 1, 0, 0, []) := rfl
theorem zr_0_255 : z_co 0 255 = (.iconst 1, 1, 0, 0, []) := rfl
theorem zr_0_256 : z_co 0 256 = (.iadd, 1, 0, 0, []) := rfl
theorem zr_0_257 : z_co 0 257 = (.iaload, 1, 0, 0, []) := rfl
theorem zr_0_258 : z_co 0 258 = (.aload_n 0, 1, 0, 0, []) := rfl
theorem zr_0_259 : z_co 0 259 = (.iload_n 3, 1, 0, 0, []) := rfl
theorem zr_0_260 : z_co 0 260 = (.iconst 2, 1, 0, 0, []) := rfl
theorem zr_0_261 : z_co 0 261 = (.iadd, 1, 0, 0, []) := rfl
theorem zr_0_262 : z_co 0 262 = (.iaload, 1, 0, 0, []) := rfl
theorem zr_0_263 : z_co 0 263 = (.aload_n 0, 1, 0, 0, []) := rfl
theorem zr_0_264 : z_co 0 264 = (.iload_n 3, 1, 0, 0, []) := rfl
theorem zr_0_265 : z_co 0 265 = (.iconst 3, 1, 0, 0, []) := rfl
theorem zr_0_266 : z_co 0 266 = (.iadd, 1, 0, 0, []) := rfl
theorem zr_0_267 : z_co 0 267 = (.iaload, 1, 0, 0, []) := rfl
theorem zr_0_268 : z_co 0 268 = (.invokevirtual 22, 3, 162, 0, [1391, 1392, 1393]) := rfl
theorem zr_0_271 : z_co 0 271 = (.if_icmp .eq 973, 3, 0, 0, []) := rfl
theorem zr_0_274 : z_co 0 274 = (.iconst 0, 1, 0, 0, []) := rfl
theorem zr_0_275 : z_co 0 275 = (.ireturn, 1, 0, 0, []) := rfl
theorem zr_0_276 : z_co 0 276 = (.aload_n 1, 1, 0, 0, []) := rfl
theorem zr_0_277 : z_co 0 277 = (.aload_n 0, 1, 0, 0, []) := rfl
theorem zr_0_278 : z_co 0 278 = (.iload_n 3, 1, 0, 0, []) := rfl
theorem zr_0_279 : z_co 0 279 = (.iconst 1, 1, 0, 0, []) := rfl
theorem zr_0_280 : z_co 0 280 = (.iadd, 1, 0, 0, []) := rfl
theorem zr_0_281 : z_co 0 281 = (.iaload, 1, 0, 0, []) := rfl
theorem zr_0_282 : z_co 0 282 = (.aload_n 0, 1, 0, 0, []) := rfl
theorem zr_0_283 : z_co 0 283 = (.iload_n 3, 1, 0, 0, []) := rfl
theorem zr_0_284 : z_co 0 284 = (.iconst 2, 1, 0, 0, []) := rfl
theorem zr_0_285 : z_co 0 285 = (.iadd, 1, 0, 0, []) := rfl
theorem zr_0_286 : z_co 0 286 = (.iaload, 1, 0, 0, []) := rfl
theorem zr_0_287 : z_co 0 287 = (.invokevirtual 23, 3, 94, 0, [531, 532, 533]) := rfl
theorem zr_0_290 : z_co 0 290 = (.aload_n 2, 1, 0, 0, []) := rfl
theorem zr_0_291 : z_co 0 291 = (.aload_n 0, 1, 0, 0, []) := rfl
theorem zr_0_292 : z_co 0 292 = (.iload_n 3, 1, 0, 0, []) := rfl
theorem zr_0_293 : z_co 0 293 = (.iconst 1, 1, 0, 0, []) := rfl
theorem zr_0_294 : z_co 0 294 = (.iadd, 1, 0, 0, []) := rfl
theorem zr_0_295 : z_co 0 295 = (.iaload, 1, 0, 0, []) := rfl
theorem zr_0_296 : z_co 0 296 = (.aload_n 0, 1, 0, 0, []) := rfl
theorem zr_0_297 : z_co 0 297 = (.iload_n 3, 1, 0, 0, []) := rfl
theorem zr_0_298 : z_co 0 298 = (.iconst 2, 1, 0, 0, []) := rfl
theorem zr_0_299 : z_co 0 299 = (.iadd, 1, 0, 0, []) := rfl
theorem zr_0_300 : z_co 0 300 = (.iaload, 1, 0, 0, []) := rfl
theorem zr_0_301 : z_co 0 301 = (.invokevirtual 26, 3, 163, 0, [1407, 1408, 1409]) := rfl
theorem zr_0_304 : z_co 0 304 = (.if_icmp .eq 940, 3, 0, 0, []) := rfl
theorem zr_0_307 : z_co 0 307 = (.iconst 0, 1, 0, 0, []) := rfl
theorem zr_0_308 : z_co 0 308 = (.ireturn, 1, 0, 0, []) := rfl
theorem zr_0_309 : z_co 0 309 = (.aload_n 1, 1, 0, 0, []) := rfl
theorem zr_0_310 : z_co 0 310 = (.aload_n 0, 1, 0, 0, []) := rfl
theorem zr_0_311 : z_co 0 311 = (.iload_n 3, 1, 0, 0, []) := rfl
theorem zr_0_312 : z_co 0 312 = (.iconst 1, 1, 0, 0, []) := rfl
theorem zr_0_313 : z_co 0 313 = (.iadd, 1, 0, 0, []) := rfl
theorem zr_0_314 : z_co 0 314 = (.iaload, 1, 0, 0, []) := rfl
theorem zr_0_315 : z_co 0 315 = (.aload_n 0, 1, 0, 0, []) := rfl
theorem zr_0_316 : z_co 0 316 = (.iload_n 3, 1, 0, 0, []) := rfl
theorem zr_0_317 : z_co 0 317 = (.iconst 2, 1, 0, 0, []) := rfl
theorem zr_0_318 : z_co 0 318 = (.iadd, 1, 0, 0, []) := rfl
theorem zr_0_319 : z_co 0 319 = (.iaload, 1, 0, 0, []) := rfl
theorem zr_0_320 : z_co 0 320 = (.invokevirtual 27, 3, 95, 0, [539, 540, 541]) := rfl
theorem zr_0_323 : z_co 0 323 = (.aload_n 2, 1, 0, 0, []) := rfl
theorem zr_0_324 : z_co 0 324 = (.aload_n 0, 1, 0, 0, []) := rfl
theorem zr_0_325 : z_co 0 325 = (.iload_n 3, 1, 0, 0, []) := rfl
theorem zr_0_326 : z_co 0 326 = (.iconst 1, 1, 0, 0, []) := rfl
theorem zr_0_327 : z_co 0 327 = (.iadd, 1, 0, 0, []) := rfl
theorem zr_0_328 : z_co 0 328 = (.iaload, 1, 0, 0, []) := rfl
theorem zr_0_329 : z_co 0 329 = (.aload_n 0, 1, 0, 0, []) := rfl
theorem zr_0_330 : z_co 0 330 = (.iload_n 3, 1, 0, 0, []) := rfl
theorem zr_0_331 : z_co 0 331 = (.iconst 2, 1, 0, 0, []) := rfl
theorem zr_0_332 : z_co 0 332 = (.iadd, 1, 0, 0, []) := rfl
theorem zr_0_333 : z_co 0 333 = (.iaload, 1, 0, 0, []) := rfl
theorem zr_0_334 : z_co 0 334 = (.invokevirtual 30, 3, 165, 0, [1446, 1447, 1448]) := rfl
theorem zr_0_337 : z_co 0 337 = (.if_icmp .eq 907, 3, 0, 0, []) := rfl
theorem zr_0_340 : z_co 0 340 = (.iconst 0, 1, 0, 0, []) := rfl
theorem zr_0_341 : z_co 0 341 = (.ireturn, 1, 0, 0, []) := rfl
theorem zr_0_342 : z_co 0 342 = (.aload_n 1, 1, 0, 0, []) := rfl
theorem zr_0_343 : z_co 0 343 = (.aload_n 0, 1, 0, 0, []) := rfl
theorem zr_0_344 : z_co 0 344 = (.iload_n 3, 1, 0, 0, []) := rfl
theorem zr_0_345 : z_co 0 345 = (.iconst 1, 1, 0, 0, []) := rfl
theorem zr_0_346 : z_co 0 346 = (.iadd, 1, 0, 0, []) := rfl
theorem zr_0_347 : z_co 0 347 = (.iaload, 1, 0, 0, []) := rfl
theorem zr_0_348 : z_co 0 348 = (.aload_n 0, 1, 0, 0, []) := rfl
theorem zr_0_349 : z_co 0 349 = (.iload_n 3, 1, 0, 0, []) := rfl
theorem zr_0_350 : z_co 0 350 = (.iconst 2, 1, 0, 0, []) := rfl
theorem zr_0_351 : z_co 0 351 = (.iadd, 1, 0, 0, []) := rfl
theorem zr_0_352 : z_co 0 352 = (.iaload, 1, 0, 0, []) := rfl
theorem zr_0_353 : z_co 0 353 = (.aload_n 0, 1, 0, 0, []) := rfl
theorem zr_0_354 : z_co 0 354 = (.iload_n 3, 1, 0, 0, []) := rfl
theorem zr_0_355 : z_co 0 355 = (.iconst 3, 1, 0, 0, []) := rfl
theorem zr_0_356 : z_co 0 356 = (.iadd, 1, 0, 0, []) := rfl
theorem zr_0_357 : z_co 0 357 = (.iaload, 1, 0, 0, []) := rfl
theorem zr_0_358 : z_co 0 358 = (.invokevirtual 31, 3, 96, 0, [552, 553, 554]) := rfl
theorem zr_0_361 : z_co 0 361 = (.aload_n 2, 1, 0, 0, []) := rfl
theorem zr_0_362 : z_co 0 362 = (.aload_n 0, 1, 0, 0, []) := rfl
theorem zr_0_363 : z_co 0 363 = (.iload_n 3, 1, 0, 0, []) := rfl
theorem zr_0_364 : z_co 0 364 = (.iconst 1, 1, 0, 0, []) := rfl
theorem zr_0_365 : z_co 0 365 = (.iadd, 1, 0, 0, []) := rfl
theorem zr_0_366 : z_co 0 366 = (.iaload, 1, 0, 0, []) := rfl
theorem zr_0_367 : z_co 0 367 = (.aload_n 0, 1, 0, 0, []) := rfl
theorem zr_0_368 : z_co 0 368 = (.iload_n 3, 1, 0, 0, []) := rfl
theorem zr_0_369 : z_co 0 369 = (.iconst 2, 1, 0, 0, []) := rfl
theorem zr_0_370 : z_co 0 370 = (.iadd, 1, 0, 0, []) := rfl
theorem zr_0_371 : z_co 0 371 = (.iaload, 1, 0, 0, []) := rfl
theorem zr_0_372 : z_co 0 372 = (.aload_n 0, 1, 0, 0, []) := rfl
theorem zr_0_373 : z_co 0 373 = (.iload_n 3, 1, 0, 0, []) := rfl
theorem zr_0_374 : z_co 0 374 = (.iconst 3, 1, 0, 0, []) := rfl
theorem zr_0_375 : z_co 0 375 = (.iadd, 1, 0, 0, []) := rfl
theorem zr_0_376 : z_co 0 376 = (.iaload, 1, 0, 0, []) := rfl
theorem zr_0_377 : z_co 0 377 = (.invokevirtual 34, 3, 166, 0, [1454, 1455, 1456]) := rfl
theorem zr_0_380 : z_co 0 380 = (.if_icmp .eq 864, 3, 0, 0, []) := rfl
theorem zr_0_383 : z_co 0 383 = (.iconst 0, 1, 0, 0, []) := rfl
theorem zr_0_384 : z_co 0 384 = (.ireturn, 1, 0, 0, []) := rfl
theorem zr_0_385 : z_co 0 385 = (.aload_n 1, 1, 0, 0, []) := rfl
theorem zr_0_386 : z_co 0 386 = (.aload_n 0, 1, 0, 0, []) := rfl
theorem zr_0_387 : z_co 0 387 = (.iload_n 3, 1, 0, 0, []) := rfl
theorem zr_0_388 : z_co 0 388 = (.iconst 1, 1, 0, 0, []) := rfl
theorem zr_0_389 : z_co 0 389 = (.iadd, 1, 0, 0, []) := rfl
theorem zr_0_390 : z_co 0 390 = (.iaload, 1, 0, 0, []) := rfl
theorem zr_0_391 : z_co 0 391 = (.aload_n 0, 1, 0, 0, []) := rfl
theorem zr_0_392 : z_co 0 392 = (.iload_n 3, 1, 0, 0, []) := rfl
theorem zr_0_393 : z_co 0 393 = (.iconst 2, 1, 0, 0, []) := rfl
theorem zr_0_394 : z_co 0 394 = (.iadd, 1, 0, 0, []) := rfl
theorem zr_0_395 : z_co 0 395 = (.iaload, 1, 0, 0, []) := rfl
theorem zr_0_396 : z_co 0 396 = (.invokevirtual 35, 3, 97, 0, [560, 561, 562]) := rfl
theorem zr_0_399 : z_co 0 399 = (.aload_n 2, 1, 0, 0, []) := rfl
theorem zr_0_400 : z_co 0 400 = (.aload_n 0, 1, 0, 0, []) := rfl
theorem zr_0_401 : z_co 0 401 = (.iload_n 3, 1, 0, 0, []) := rfl
theorem zr_0_402 : z_co 0 402 = (.iconst 1, 1, 0, 0, []) := rfl
theorem zr_0_403 : z_co 0 403 = (.iadd, 1, 0, 0, []) := rfl
theorem zr_0_404 : z_co 0 404 = (.iaload, 1, 0, 0, []) := rfl
theorem zr_0_405 : z_co 0 405 = (.aload_n 0, 1, 0, 0, []) := rfl
theorem zr_0_406 : z_co 0 406 = (.iload_n 3, 1, 0, 0, []) := rfl
theorem zr_0_407 : z_co 0 407 = (.iconst 2, 1, 0, 0, []) := rfl
theorem zr_0_408 : z_co 0 408 = (.iadd, 1, 0, 0, []) := rfl
theorem zr_0_409 : z_co 0 409 = (.iaload, 1, 0, 0, []) := rfl
theorem zr_0_410 : z_co 0 410 = (.invokevirtual 38, 3, 167, 0, [1462, 1463, 1464]) := rfl
theorem zr_0_413 : z_co 0 413 = (.if_icmp .eq 831, 3, 0, 0, []) := rfl
theorem zr_0_416 : z_co 0 416 = (.iconst 0, 1, 0, 0, []) := rfl
theorem zr_0_417 : z_co 0 417 = (.ireturn, 1, 0, 0, []) := rfl
theorem zr_0_418 : z_co 0 418 = (.aload_n 1, 1, 0, 0, []) := rfl
theorem zr_0_419 : z_co 0 419 = (.aload_n 0, 1, 0, 0, []) := rfl
theorem zr_0_420 : z_co 0 420 = (.iload_n 3, 1, 0, 0, []) := rfl
theorem zr_0_421 : z_co 0 421 = (.iconst 1, 1, 0, 0, []) := rfl
theorem zr_0_422 : z_co 0 422 = (.iadd, 1, 0, 0, []) := rfl
theorem zr_0_423 : z_co 0 423 = (.iaload, 1, 0, 0, []) := rfl
theorem zr_0_424 : z_co 0 424 = (.aload_n 0, 1, 0, 0, []) := rfl
theorem zr_0_425 : z_co 0 425 = (.iload_n 3, 1, 0, 0, []) := rfl
theorem zr_0_426 : z_co 0 426 = (.iconst 2, 1, 0, 0, []) := rfl
theorem zr_0_427 : z_co 0 427 = (.iadd, 1, 0, 0, []) := rfl
theorem zr_0_428 : z_co 0 428 = (.iaload, 1, 0, 0, []) := rfl
theorem zr_0_429 : z_co 0 429 = (.aload_n 0, 1, 0, 0, []) := rfl
theorem zr_0_430 : z_co 0 430 = (.iload_n 3, 1, 0, 0, []) := rfl
theorem zr_0_431 : z_co 0 431 = (.iconst 3, 1, 0, 0, []) := rfl
theorem zr_0_432 : z_co 0 432 = (.iadd, 1, 0, 0, []) := rfl
theorem zr_0_433 : z_co 0 433 = (.iaload, 1, 0, 0, []) := rfl
theorem zr_0_434 : z_co 0 434 = (.aload_n 0, 1, 0, 0, []) := rfl
theorem zr_0_435 : z_co 0 435 = (.iload_n 3, 1, 0, 0, []) := rfl
theorem zr_0_436 : z_co 0 436 = (.iconst 4, 1, 0, 0, []) := rfl
theorem zr_0_437 : z_co 0 437 = (.iadd, 1, 0, 0, []) := rfl
theorem zr_0_438 : z_co 0 438 = (.iaload, 1, 0, 0, []) := rfl
theorem zr_0_439 : z_co 0 439 = (.aload_n 0, 1, 0, 0, []) := rfl
theorem zr_0_440 : z_co 0 440 = (.iload_n 3, 1, 0, 0, []) := rfl
theorem zr_0_441 : z_co 0 441 = (.iconst 5, 1, 0, 0, []) := rfl
theorem zr_0_442 : z_co 0 442 = (.iadd, 1, 0, 0, []) := rfl
theorem zr_0_443 : z_co 0 443 = (.iaload, 1, 0, 0, []) := rfl
theorem zr_0_444 : z_co 0 444 = (.invokevirtual 39, 3, 98, 0, [566, 567, 568]) := rfl
theorem zr_0_447 : z_co 0 447 = (.aload_n 2, 1, 0, 0, []) := rfl
theorem zr_0_448 : z_co 0 448 = (.aload_n 0, 1, 0, 0, []) := rfl
theorem zr_0_449 : z_co 0 449 = (.iload_n 3, 1, 0, 0, []) := rfl
theorem zr_0_450 : z_co 0 450 = (.iconst 1, 1, 0, 0, []) := rfl
theorem zr_0_451 : z_co 0 451 = (.iadd, 1, 0, 0, []) := rfl
theorem zr_0_452 : z_co 0 452 = (.iaload, 1, 0, 0, []) := rfl
theorem zr_0_453 : z_co 0 453 = (.aload_n 0, 1, 0, 0, []) := rfl
theorem zr_0_454 : z_co 0 454 = (.iload_n 3, 1, 0, 0, []) := rfl
theorem zr_0_455 : z_co 0 455 = (.iconst 2, 1, 0, 0, []) := rfl
theorem zr_0_456 : z_co 0 456 = (.iadd, 1, 0, 0, []) := rfl
theorem zr_0_457 : z_co 0 457 = (.iaload, 1, 0, 0, []) := rfl
theorem zr_0_458 : z_co 0 458 = (.aload_n 0, 1, 0, 0, []) := rfl
theorem zr_0_459 : z_co 0 459 = (.iload_n 3, 1, 0, 0, []) := rfl
theorem zr_0_460 : z_co 0 460 = (.iconst 3, 1, 0, 0, []) := rfl
theorem zr_0_461 : z_co 0 461 = (.iadd, 1, 0, 0, []) := rfl
theorem zr_0_462 : z_co 0 462 = (.iaload, 1, 0, 0, []) := rfl
theorem zr_0_463 : z_co 0 463 = (.aload_n 0, 1, 0, 0, []) := rfl
theorem zr_0_464 : z_co 0 464 = (.iload_n 3, 1, 0, 0, []) := rfl
theorem zr_0_465 : z_co 0 465 = (.iconst 4, 1, 0, 0, []) := rfl
theorem zr_0_466 : z_co 0 466 = (.iadd, 1, 0, 0, []) := rfl
theorem zr_0_467 : z_co 0 467 = (.iaload, 1, 0, 0, []) := rfl
theorem zr_0_468 : z_co 0 468 = (.aload_n 0, 1, 0, 0, []) := rfl
theorem zr_0_469 : z_co 0 469 = (.iload_n 3, 1, 0, 0, []) := rfl
theorem zr_0_470 : z_co 0 470 = (.iconst 5, 1, 0, 0, []) := rfl
theorem zr_0_471 : z_co 0 471 = (.iadd, 1, 0, 0, []) := rfl
theorem zr_0_472 : z_co 0 472 = (.iaload, 1, 0, 0, []) := rfl
theorem zr_0_473 : z_co 0 473 = (.invokevirtual 43, 3, 171, 0, [1475, 1476, 1477]) := rfl
theorem zr_0_476 : z_co 0 476 = (.if_icmp .eq 768, 3, 0, 0, []) := rfl
theorem zr_0_479 : z_co 0 479 = (.iconst 0, 1, 0, 0, []) := rfl
theorem zr_0_480 : z_co 0 480 = (.ireturn, 1, 0, 0, []) := rfl
theorem zr_0_481 : z_co 0 481 = (.aload_n 1, 1, 0, 0, []) := rfl
theorem zr_0_482 : z_co 0 482 = (.aload_n 0, 1, 0, 0, []) := rfl
theorem zr_0_483 : z_co 0 483 = (.iload_n 3, 1, 0, 0, []) := rfl
theorem zr_0_484 : z_co 0 484 = (.iconst 1, 1, 0, 0, []) := rfl
theorem zr_0_485 : z_co 0 485 = (.iadd, 1, 0, 0, []) := rfl
theorem zr_0_486 : z_co 0 486 = (.iaload, 1, 0, 0, []) := rfl
theorem zr_0_487 : z_co 0 487 = (.invokevirtual 44, 3, 99, 0, [574, 575, 576]) := rfl
theorem zr_0_490 : z_co 0 490 = (.aload_n 2, 1, 0, 0, []) := rfl
theorem zr_0_491 : z_co 0 491 = (.aload_n 0, 1, 0, 0, []) := rfl
theorem zr_0_492 : z_co 0 492 = (.iload_n 3, 1, 0, 0, []) := rfl
theorem zr_0_493 : z_co 0 493 = (.iconst 1, 1, 0, 0, []) := rfl
theorem zr_0_494 : z_co 0 494 = (.iadd, 1, 0, 0, []) := rfl
theorem zr_0_495 : z_co 0 495 = (.iaload, 1, 0, 0, []) := rfl
theorem zr_0_496 : z_co 0 496 = (.invokevirtual 48, 3, 172, 0, [1483, 1484, 1485]) := rfl
theorem zr_0_499 : z_co 0 499 = (.if_icmp .eq 745, 3, 0, 0, []) := rfl
theorem zr_0_502 : z_co 0 502 = (.iconst 0, 1, 0, 0, []) := rfl
theorem zr_0_503 : z_co 0 503 = (.ireturn, 1, 0, 0, []) := rfl
theorem zr_0_504 : z_co 0 504 = (.aload_n 1, 1, 0, 0, []) := rfl
theorem zr_0_505 : z_co 0 505 = (.invokevirtual 49, 3, 100, 0, [578, 579, 580]) := rfl
theorem zr_0_508 : z_co 0 508 = (.aload_n 2, 1, 0, 0, []) := rfl
theorem zr_0_509 : z_co 0 509 = (.invokevirtual 53, 3, 168, 0, [1467, 1468, 1469]) := rfl
theorem zr_0_512 : z_co 0 512 = (.if_icmp .eq 732, 3, 0, 0, []) := rfl
theorem zr_0_515 : z_co 0 515 = (.iconst 0, 1, 0, 0, []) := rfl
theorem zr_0_516 : z_co 0 516 = (.ireturn, 1, 0, 0, []) := rfl
theorem zr_0_517 : z_co 0 517 = (.aload_n 1, 1, 0, 0, []) := rfl
theorem zr_0_518 : z_co 0 518 = (.invokevirtual 54, 3, 101, 0, [586, 587, 588]) := rfl
theorem zr_0_521 : z_co 0 521 = (.aload_n 2, 1, 0, 0, []) := rfl
theorem zr_0_522 : z_co 0 522 = (.invokevirtual 57, 3, 169, 0, [1471, 1472, 1473]) := rfl
theorem zr_0_525 : z_co 0 525 = (.if_icmp .eq 719, 3, 0, 0, []) := rfl
theorem zr_0_528 : z_co 0 528 = (.iconst 0, 1, 0, 0, []) := rfl
theorem zr_0_529 : z_co 0 529 = (.ireturn, 1, 0, 0, []) := rfl
theorem zr_0_530 : z_co 0 530 = (.aload_n 1, 1, 0, 0, []) := rfl
theorem zr_0_531 : z_co 0 531 = (.invokevirtual 58, 3, 102, 0, [590, 591, 592]) := rfl
theorem zr_0_534 : z_co 0 534 = (.aload_n 2, 1, 0, 0, []) := rfl
theorem zr_0_535 : z_co 0 535 = (.invokevirtual 61, 3, 196, 0, [1491, 1492, 1493]) := rfl
theorem zr_0_538 : z_co 0 538 = (.if_icmp .eq 706, 3, 0, 0, []) := rfl
theorem zr_0_541 : z_co 0 541 = (.iconst 0, 1, 0, 0, []) := rfl
theorem zr_0_542 : z_co 0 542 = (.ireturn, 1, 0, 0, []) := rfl
theorem zr_0_543 : z_co 0 543 = (.aload_n 1, 1, 0, 0, []) := rfl
theorem zr_0_544 : z_co 0 544 = (.invokevirtual 62, 3, 103, 0, [777, 778, 779]) := rfl
theorem zr_0_547 : z_co 0 547 = (.aload_n 2, 1, 0, 0, []) := rfl
theorem zr_0_548 : z_co 0 548 = (.invokevirtual 65, 3, 180, 0, [1487, 1488, 1489]) := rfl
theorem zr_0_551 : z_co 0 551 = (.if_icmp .eq 693, 3, 0, 0, []) := rfl
theorem zr_0_554 : z_co 0 554 = (.iconst 0, 1, 0, 0, []) := rfl
theorem zr_0_555 : z_co 0 555 = (.ireturn, 1, 0, 0, []) := rfl
theorem zr_0_556 : z_co 0 556 = (.aload_n 1, 1, 0, 0, []) := rfl
theorem zr_0_557 : z_co 0 557 = (.aload_n 0, 1, 0, 0, []) := rfl
theorem zr_0_558 : z_co 0 558 = (.iload_n 3, 1, 0, 0, []) := rfl
theorem zr_0_559 : z_co 0 559 = (.iconst 1, 1, 0, 0, []) := rfl
theorem zr_0_560 : z_co 0 560 = (.iadd, 1, 0, 0, []) := rfl
theorem zr_0_561 : z_co 0 561 = (.iaload, 1, 0, 0, []) := rfl
theorem zr_0_562 : z_co 0 562 = (.invokevirtual 66, 3, 104, 0, [781, 782, 783]) := rfl
theorem zr_0_565 : z_co 0 565 = (.aload_n 2, 1, 0, 0, []) := rfl
theorem zr_0_566 : z_co 0 566 = (.aload_n 0, 1, 0, 0, []) := rfl
theorem zr_0_567 : z_co 0 567 = (.iload_n 3, 1, 0, 0, []) := rfl
theorem zr_0_568 : z_co 0 568 = (.iconst 1, 1, 0, 0, []) := rfl
theorem zr_0_569 : z_co 0 569 = (.iadd, 1, 0, 0, []) := rfl
theorem zr_0_570 : z_co 0 570 = (.iaload, 1, 0, 0, []) := rfl
theorem zr_0_571 : z_co 0 571 = (.invokevirtual 69, 3, 197, 0, [1595, 1596, 1597]) := rfl
theorem zr_0_574 : z_co 0 574 = (.if_icmp .eq 670, 3, 0, 0, []) := rfl
theorem zr_0_577 : z_co 0 577 = (.iconst 0, 1, 0, 0, []) := rfl
theorem zr_0_578 : z_co 0 578 = (.ireturn, 1, 0, 0, []) := rfl
theorem zr_0_579 : z_co 0 579 = (.aload_n 1, 1, 0, 0, []) := rfl
theorem zr_0_580 : z_co 0 580 = (.aload_n 0, 1, 0, 0, []) := rfl
theorem zr_0_581 : z_co 0 581 = (.iload_n 3, 1, 0, 0, []) := rfl
theorem zr_0_582 : z_co 0 582 = (.iconst 1, 1, 0, 0, []) := rfl
theorem zr_0_583 : z_co 0 583 = (.iadd, 1, 0, 0, []) := rfl
theorem zr_0_584 : z_co 0 584 = (.iaload, 1, 0, 0, []) := rfl
theorem zr_0_585 : z_co 0 585 = (.aload_n 0, 1, 0, 0, []) := rfl
theorem zr_0_586 : z_co 0 586 = (.iload_n 3, 1, 0, 0, []) := rfl
theorem zr_0_587 : z_co 0 587 = (.iconst 2, 1, 0, 0, []) := rfl
theorem zr_0_588 : z_co 0 588 = (.iadd, 1, 0, 0, []) := rfl
theorem zr_0_589 : z_co 0 589 = (.iaload, 1, 0, 0, []) := rfl
theorem zr_0_590 : z_co 0 590 = (.invokevirtual 70, 3, 105, 0, [785, 786, 787]) := rfl
theorem zr_0_593 : z_co 0 593 = (.aload_n 2, 1, 0, 0, []) := rfl
theorem zr_0_594 : z_co 0 594 = (.aload_n 0, 1, 0, 0, []) := rfl
theorem zr_0_595 : z_co 0 595 = (.iload_n 3, 1, 0, 0, []) := rfl
theorem zr_0_596 : z_co 0 596 = (.iconst 1, 1, 0, 0, []) := rfl
theorem zr_0_597 : z_co 0 597 = (.iadd, 1, 0, 0, []) := rfl
theorem zr_0_598 : z_co 0 598 = (.iaload, 1, 0, 0, []) := rfl
theorem zr_0_599 : z_co 0 599 = (.aload_n 0, 1, 0, 0, []) := rfl
theorem zr_0_600 : z_co 0 600 = (.iload_n 3, 1, 0, 0, []) := rfl
theorem zr_0_601 : z_co 0 601 = (.iconst 2, 1, 0, 0, []) := rfl
theorem zr_0_602 : z_co 0 602 = (.iadd, 1, 0, 0, []) := rfl
theorem zr_0_603 : z_co 0 603 = (.iaload, 1, 0, 0, []) := rfl
theorem zr_0_604 : z_co 0 604 = (.invokevirtual 73, 3, 204, 0, [1599, 1600, 1601]) := rfl
theorem zr_0_607 : z_co 0 607 = (.if_icmp .eq 637, 3, 0, 0, []) := rfl
theorem zr_0_610 : z_co 0 610 = (.iconst 0, 1, 0, 0, []) := rfl
theorem zr_0_611 : z_co 0 611 = (.ireturn, 1, 0, 0, []) := rfl
theorem zr_0_612 : z_co 0 612 = (.aload_n 1, 1, 0, 0, []) := rfl
theorem zr_0_613 : z_co 0 613 = (.aload_n 0, 1, 0, 0, []) := rfl
theorem zr_0_614 : z_co 0 614 = (.iload_n 3, 1, 0, 0, []) := rfl
theorem zr_0_615 : z_co 0 615 = (.iconst 1, 1, 0, 0, []) := rfl
theorem zr_0_616 : z_co 0 616 = (.iadd, 1, 0, 0, []) := rfl
theorem zr_0_617 : z_co 0 617 = (.iaload, 1, 0, 0, []) := rfl
theorem zr_0_618 : z_co 0 618 = (.invokevirtual 74, 3, 106, 0, [826, 827, 828]) := rfl
theorem zr_0_621 : z_co 0 621 = (.aload_n 2, 1, 0, 0, []) := rfl
theorem zr_0_622 : z_co 0 622 = (.aload_n 0, 1, 0, 0, []) := rfl
theorem zr_0_623 : z_co 0 623 = (.iload_n 3, 1, 0, 0, []) := rfl
theorem zr_0_624 : z_co 0 624 = (.iconst 1, 1, 0, 0, []) := rfl
theorem zr_0_625 : z_co 0 625 = (.iadd, 1, 0, 0, []) := rfl
theorem zr_0_626 : z_co 0 626 = (.iaload, 1, 0, 0, []) := rfl
theorem zr_0_627 : z_co 0 627 = (.invokevirtual 77, 3, 210, 0, [1603, 1604, 1605]) := rfl
theorem zr_0_630 : z_co 0 630 = (.if_icmp .eq 614, 3, 0, 0, []) := rfl
theorem zr_0_633 : z_co 0 633 = (.iconst 0, 1, 0, 0, []) := rfl
theorem zr_0_634 : z_co 0 634 = (.ireturn, 1, 0, 0, []) := rfl
theorem zr_0_635 : z_co 0 635 = (.aload_n 1, 1, 0, 0, []) := rfl
theorem zr_0_636 : z_co 0 636 = (.aload_n 0, 1, 0, 0, []) := rfl
theorem zr_0_637 : z_co 0 637 = (.iload_n 3, 1, 0, 0, []) := rfl
theorem zr_0_638 : z_co 0 638 = (.iconst 1, 1, 0, 0, []) := rfl
theorem zr_0_639 : z_co 0 639 = (.iadd, 1, 0, 0, []) := rfl
theorem zr_0_640 : z_co 0 640 = (.iaload, 1, 0, 0, []) := rfl
theorem zr_0_641 : z_co 0 641 = (.aload_n 0, 1, 0, 0, []) := rfl
theorem zr_0_642 : z_co 0 642 = (.iload_n 3, 1, 0, 0, []) := rfl
theorem zr_0_643 : z_co 0 643 = (.iconst 2, 1, 0, 0, []) := rfl
theorem zr_0_644 : z_co 0 644 = (.iadd, 1, 0, 0, []) := rfl
theorem zr_0_645 : z_co 0 645 = (.iaload, 1, 0, 0, []) := rfl
theorem zr_0_646 : z_co 0 646 = (.aload_n 0, 1, 0, 0, []) := rfl
theorem zr_0_647 : z_co 0 647 = (.iload_n 3, 1, 0, 0, []) := rfl
theorem zr_0_648 : z_co 0 648 = (.iconst 3, 1, 0, 0, []) := rfl
theorem zr_0_649 : z_co 0 649 = (.iadd, 1, 0, 0, []) := rfl
theorem zr_0_650 : z_co 0 650 = (.iaload, 1, 0, 0, []) := rfl
theorem zr_0_651 : z_co 0 651 = (.invokevirtual 78, 3, 107, 0, [866, 867, 868]) := rfl
theorem zr_0_654 : z_co 0 654 = (.aload_n 2, 1, 0, 0, []) := rfl
theorem zr_0_655 : z_co 0 655 = (.aload_n 0, 1, 0, 0, []) := rfl
theorem zr_0_656 : z_co 0 656 = (.iload_n 3, 1, 0, 0, []) := rfl
theorem zr_0_657 : z_co 0 657 = (.iconst 1, 1, 0, 0, []) := rfl
theorem zr_0_658 : z_co 0 658 = (.iadd, 1, 0, 0, []) := rfl
theorem zr_0_659 : z_co 0 659 = (.iaload, 1, 0, 0, []) := rfl
theorem zr_0_660 : z_co 0 660 = (.aload_n 0, 1, 0, 0, []) := rfl
theorem zr_0_661 : z_co 0 661 = (.iload_n 3, 1, 0, 0, []) := rfl
theorem zr_0_662 : z_co 0 662 = (.iconst 2, 1, 0, 0, []) := rfl
theorem zr_0_663 : z_co 0 663 = (.iadd, 1, 0, 0, []) := rfl
theorem zr_0_664 : z_co 0 664 = (.iaload, 1, 0, 0, []) := rfl
theorem zr_0_665 : z_co 0 665 = (.aload_n 0, 1, 0, 0, []) := rfl
theorem zr_0_666 : z_co 0 666 = (.iload_n 3, 1, 0, 0, []) := rfl
theorem zr_0_667 : z_co 0 667 = (.iconst 3, 1, 0, 0, []) := rfl
theorem zr_0_668 : z_co 0 668 = (.iadd, 1, 0, 0, []) := rfl
theorem zr_0_669 : z_co 0 669 = (.iaload, 1, 0, 0, []) := rfl
theorem zr_0_670 : z_co 0 670 = (.invokevirtual 81, 3, 212, 0, [1626, 1627, 1628]) := rfl
theorem zr_0_673 : z_co 0 673 = (.if_icmp .eq 571, 3, 0, 0, []) := rfl
theorem zr_0_676 : z_co 0 676 = (.iconst 0, 1, 0, 0, []) := rfl
theorem zr_0_677 : z_co 0 677 = (.ireturn, 1, 0, 0, []) := rfl
theorem zr_0_678 : z_co 0 678 = (.aload_n 1, 1, 0, 0, []) := rfl
theorem zr_0_679 : z_co 0 679 = (.aload_n 0, 1, 0, 0, []) := rfl
theorem zr_0_680 : z_co 0 680 = (.iload_n 3, 1, 0, 0, []) := rfl
theorem zr_0_681 : z_co 0 681 = (.iconst 1, 1, 0, 0, []) := rfl
theorem zr_0_682 : z_co 0 682 = (.iadd, 1, 0, 0, []) := rfl
theorem zr_0_683 : z_co 0 683 = (.iaload, 1, 0, 0, []) := rfl
theorem zr_0_684 : z_co 0 684 = (.aload_n 0, 1, 0, 0, []) := rfl
theorem zr_0_685 : z_co 0 685 = (.iload_n 3, 1, 0, 0, []) := rfl
theorem zr_0_686 : z_co 0 686 = (.iconst 2, 1, 0, 0, []) := rfl
theorem zr_0_687 : z_co 0 687 = (.iadd, 1, 0, 0, []) := rfl
theorem zr_0_688 : z_co 0 688 = (.iaload, 1, 0, 0, []) := rfl
theorem zr_0_689 : z_co 0 689 = (.invokevirtual 82, 3, 108, 0, [882, 883, 884]) := rfl
theorem zr_0_692 : z_co 0 692 = (.aload_n 2, 1, 0, 0, []) := rfl
theorem zr_0_693 : z_co 0 693 = (.aload_n 0, 1, 0, 0, []) := rfl
theorem zr_0_694 : z_co 0 694 = (.iload_n 3, 1, 0, 0, []) := rfl
theorem zr_0_695 : z_co 0 695 = (.iconst 1, 1, 0, 0, []) := rfl
theorem zr_0_696 : z_co 0 696 = (.iadd, 1, 0, 0, []) := rfl
theorem zr_0_697 : z_co 0 697 = (.iaload, 1, 0, 0, []) := rfl
theorem zr_0_698 : z_co 0 698 = (.aload_n 0, 1, 0, 0, []) := rfl
theorem zr_0_699 : z_co 0 699 = (.iload_n 3, 1, 0, 0, []) := rfl
theorem zr_0_700 : z_co 0 700 = (.iconst 2, 1, 0, 0, []) := rfl
theorem zr_0_701 : z_co 0 701 = (.iadd, 1, 0, 0, []) := rfl
theorem zr_0_702 : z_co 0 702 = (.iaload, 1, 0, 0, []) := rfl
theorem zr_0_703 : z_co 0 703 = (.invokevirtual 85, 3, 216, 0, [1634, 1635, 1636]) := rfl
theorem zr_0_706 : z_co 0 706 = (.if_icmp .eq 538, 3, 0, 0, []) := rfl
theorem zr_0_709 : z_co 0 709 = (.iconst 0, 1, 0, 0, []) := rfl
theorem zr_0_710 : z_co 0 710 = (.ireturn, 1, 0, 0, []) := rfl
theorem zr_0_711 : z_co 0 711 = (.aload_n 1, 1, 0, 0, []) := rfl
theorem zr_0_712 : z_co 0 712 = (.aload_n 0, 1, 0, 0, []) := rfl
theorem zr_0_713 : z_co 0 713 = (.iload_n 3, 1, 0, 0, []) := rfl
theorem zr_0_714 : z_co 0 714 = (.iconst 1, 1, 0, 0, []) := rfl
theorem zr_0_715 : z_co 0 715 = (.iadd, 1, 0, 0, []) := rfl
theorem zr_0_716 : z_co 0 716 = (.iaload, 1, 0, 0, []) := rfl
theorem zr_0_717 : z_co 0 717 = (.aload_n 0, 1, 0, 0, []) := rfl
theorem zr_0_718 : z_co 0 718 = (.iload_n 3, 1, 0, 0, []) := rfl
theorem zr_0_719 : z_co 0 719 = (.iconst 2, 1, 0, 0, []) := rfl
theorem zr_0_720 : z_co 0 720 = (.iadd, 1, 0, 0, []) := rfl
theorem zr_0_721 : z_co 0 721 = (.iaload, 1, 0, 0, []) := rfl
theorem zr_0_722 : z_co 0 722 = (.invokevirtual 86, 3, 109, 0, [924, 925, 926]) := rfl
theorem zr_0_725 : z_co 0 725 = (.aload_n 2, 1, 0, 0, []) := rfl
theorem zr_0_726 : z_co 0 726 = (.aload_n 0, 1, 0, 0, []) := rfl
theorem zr_0_727 : z_co 0 727 = (.iload_n 3, 1, 0, 0, []) := rfl
theorem zr_0_728 : z_co 0 728 = (.iconst 1, 1, 0, 0, []) := rfl
theorem zr_0_729 : z_co 0 729 = (.iadd, 1, 0, 0, []) := rfl
theorem zr_0_730 : z_co 0 730 = (.iaload, 1, 0, 0, []) := rfl
theorem zr_0_731 : z_co 0 731 = (.aload_n 0, 1, 0, 0, []) := rfl
theorem zr_0_732 : z_co 0 732 = (.iload_n 3, 1, 0, 0, []) := rfl
theorem zr_0_733 : z_co 0 733 = (.iconst 2, 1, 0, 0, []) := rfl
theorem zr_0_734 : z_co 0 734 = (.iadd, 1, 0, 0, []) := rfl
theorem zr_0_735 : z_co 0 735 = (.iaload, 1, 0, 0, []) := rfl
theorem zr_0_736 : z_co 0 736 = (.invokevirtual 89, 3, 217, 0, [1658, 1659, 1660]) := rfl
theorem zr_0_739 : z_co 0 739 = (.if_icmp .eq 505, 3, 0, 0, []) := rfl
theorem zr_0_742 : z_co 0 742 = (.iconst 0, 1, 0, 0, []) := rfl
theorem zr_0_743 : z_co 0 743 = (.ireturn, 1, 0, 0, []) := rfl
theorem zr_0_744 : z_co 0 744 = (.aload_n 1, 1, 0, 0, []) := rfl
theorem zr_0_745 : z_co 0 745 = (.aload_n 0, 1, 0, 0, []) := rfl
theorem zr_0_746 : z_co 0 746 = (.iload_n 3, 1, 0, 0, []) := rfl
theorem zr_0_747 : z_co 0 747 = (.iconst 1, 1, 0, 0, []) := rfl
theorem zr_0_748 : z_co 0 748 = (.iadd, 1, 0, 0, []) := rfl
theorem zr_0_749 : z_co 0 749 = (.iaload, 1, 0, 0, []) := rfl
theorem zr_0_750 : z_co 0 750 = (.aload_n 0, 1, 0, 0, []) := rfl
theorem zr_0_751 : z_co 0 751 = (.iload_n 3, 1, 0, 0, []) := rfl
theorem zr_0_752 : z_co 0 752 = (.iconst 2, 1, 0, 0, []) := rfl
theorem zr_0_753 : z_co 0 753 = (.iadd, 1, 0, 0, []) := rfl
theorem zr_0_754 : z_co 0 754 = (.iaload, 1, 0, 0, []) := rfl
theorem zr_0_755 : z_co 0 755 = (.invokevirtual 90, 3, 110, 0, [928, 929, 930]) := rfl
theorem zr_0_758 : z_co 0 758 = (.aload_n 2, 1, 0, 0, []) := rfl
theorem zr_0_759 : z_co 0 759 = (.aload_n 0, 1, 0, 0, []) := rfl
theorem zr_0_760 : z_co 0 760 = (.iload_n 3, 1, 0, 0, []) := rfl
theorem zr_0_761 : z_co 0 761 = (.iconst 1, 1, 0, 0, []) := rfl
theorem zr_0_762 : z_co 0 762 = (.iadd, 1, 0, 0, []) := rfl
theorem zr_0_763 : z_co 0 763 = (.iaload, 1, 0, 0, []) := rfl
theorem zr_0_764 : z_co 0 764 = (.aload_n 0, 1, 0, 0, []) := rfl
theorem zr_0_765 : z_co 0 765 = (.iload_n 3, 1, 0, 0, []) := rfl
theorem zr_0_766 : z_co 0 766 = (.iconst 2, 1, 0, 0, []) := rfl
theorem zr_0_767 : z_co 0 767 = (.iadd, 1, 0, 0, []) := rfl
theorem zr_0_768 : z_co 0 768 = (.iaload, 1, 0, 0, []) := rfl
theorem zr_0_769 : z_co 0 769 = (.invokevirtual 93, 3, 218, 0, [1663, 1664, 1665]) := rfl
theorem zr_0_772 : z_co 0 772 = (.if_icmp .eq 472, 3, 0, 0, []) := rfl
theorem zr_0_775 : z_co 0 775 = (.iconst 0, 1, 0, 0, []) := rfl
theorem zr_0_776 : z_co 0 776 = (.ireturn, 1, 0, 0, []) := rfl
theorem zr_0_777 : z_co 0 777 = (.aload_n 1, 1, 0, 0, []) := rfl
theorem zr_0_778 : z_co 0 778 = (.aload_n 0, 1, 0, 0, []) := rfl
theorem zr_0_779 : z_co 0 779 = (.iload_n 3, 1, 0, 0, []) := rfl
theorem zr_0_780 : z_co 0 780 = (.iconst 1, 1, 0, 0, []) := rfl
theorem zr_0_781 : z_co 0 781 = (.iadd, 1, 0, 0, []) := rfl
theorem zr_0_782 : z_co 0 782 = (.iaload, 1, 0, 0, []) := rfl
theorem zr_0_783 : z_co 0 783 = (.aload_n 0, 1, 0, 0, []) := rfl
theorem zr_0_784 : z_co 0 784 = (.iload_n 3, 1, 0, 0, []) := rfl
theorem zr_0_785 : z_co 0 785 = (.iconst 2, 1, 0, 0, []) := rfl
theorem zr_0_786 : z_co 0 786 = (.iadd, 1, 0, 0, []) := rfl
theorem zr_0_787 : z_co 0 787 = (.iaload, 1, 0, 0, []) := rfl
theorem zr_0_788 : z_co 0 788 = (.invokevirtual 94, 3, 111, 0, [932, 933, 934]) := rfl
theorem zr_0_791 : z_co 0 791 = (.aload_n 2, 1, 0, 0, []) := rfl
theorem zr_0_792 : z_co 0 792 = (.aload_n 0, 1, 0, 0, []) := rfl
theorem zr_0_793 : z_co 0 793 = (.iload_n 3, 1, 0, 0, []) := rfl
theorem zr_0_794 : z_co 0 794 = (.iconst 1, 1, 0, 0, []) := rfl
theorem zr_0_795 : z_co 0 795 = (.iadd, 1, 0, 0, []) := rfl
theorem zr_0_796 : z_co 0 796 = (.iaload, 1, 0, 0, []) := rfl
theorem zr_0_797 : z_co 0 797 = (.aload_n 0, 1, 0, 0, []) := rfl
theorem zr_0_798 : z_co 0 798 = (.iload_n 3, 1, 0, 0, []) := rfl
theorem zr_0_799 : z_co 0 799 = (.iconst 2, 1, 0, 0, []) := rfl
theorem zr_0_800 : z_co 0 800 = (.iadd, 1, 0, 0, []) := rfl
theorem zr_0_801 : z_co 0 801 = (.iaload, 1, 0, 0, []) := rfl
theorem zr_0_802 : z_co 0 802 = (.invokevirtual 97, 3, 219, 0, [1667, 1668, 1669]) := rfl
theorem zr_0_805 : z_co 0 805 = (.if_icmp .eq 439, 3, 0, 0, []) := rfl
theorem zr_0_808 : z_co 0 808 = (.iconst 0, 1, 0, 0, []) := rfl
theorem zr_0_809 : z_co 0 809 = (.ireturn, 1, 0, 0, []) := rfl
theorem zr_0_810 : z_co 0 810 = (.aload_n 1, 1, 0, 0, []) := rfl
theorem zr_0_811 : z_co 0 811 = (.aload_n 0, 1, 0, 0, []) := rfl
theorem zr_0_812 : z_co 0 812 = (.iload_n 3, 1, 0, 0, []) := rfl
theorem zr_0_813 : z_co 0 813 = (.iconst 1, 1, 0, 0, []) := rfl
theorem zr_0_814 : z_co 0 814 = (.iadd, 1, 0, 0, []) := rfl
theorem zr_0_815 : z_co 0 815 = (.iaload, 1, 0, 0, []) := rfl
theorem zr_0_816 : z_co 0 816 = (.invokevirtual 98, 3, 112, 0, [940, 941, 942]) := rfl
theorem zr_0_819 : z_co 0 819 = (.aload_n 2, 1, 0, 0, []) := rfl
theorem zr_0_820 : z_co 0 820 = (.aload_n 0, 1, 0, 0, []) := rfl
theorem zr_0_821 : z_co 0 821 = (.iload_n 3, 1, 0, 0, []) := rfl
theorem zr_0_822 : z_co 0 822 = (.iconst 1, 1, 0, 0, []) := rfl
theorem zr_0_823 : z_co 0 823 = (.iadd, 1, 0, 0, []) := rfl
theorem zr_0_824 : z_co 0 824 = (.iaload, 1, 0, 0, []) := rfl
theorem zr_0_825 : z_co 0 825 = (.invokevirtual 101, 3, 220, 0, [1671, 1672, 1673]) := rfl
theorem zr_0_828 : z_co 0 828 = (.if_icmp .eq 416, 3, 0, 0, []) := rfl
theorem zr_0_831 : z_co 0 831 = (.iconst 0, 1, 0, 0, []) := rfl
theorem zr_0_832 : z_co 0 832 = (.ireturn, 1, 0, 0, []) := rfl
theorem zr_0_833 : z_co 0 833 = (.aload_n 1, 1, 0, 0, []) := rfl
theorem zr_0_834 : z_co 0 834 = (.aload_n 0, 1, 0, 0, []) := rfl
theorem zr_0_835 : z_co 0 835 = (.iload_n 3, 1, 0, 0, []) := rfl
theorem zr_0_836 : z_co 0 836 = (.iconst 1, 1, 0, 0, []) := rfl
theorem zr_0_837 : z_co 0 837 = (.iadd, 1, 0, 0, []) := rfl
theorem zr_0_838 : z_co 0 838 = (.iaload, 1, 0, 0, []) := rfl
theorem zr_0_839 : z_co 0 839 = (.invokevirtual 102, 3, 113, 0, [949, 950, 951]) := rfl
theorem zr_0_842 : z_co 0 842 = (.aload_n 2, 1, 0, 0, []) := rfl
theorem zr_0_843 : z_co 0 843 = (.aload_n 0, 1, 0, 0, []) := rfl
theorem zr_0_844 : z_co 0 844 = (.iload_n 3, 1, 0, 0, []) := rfl
theorem zr_0_845 : z_co 0 845 = (.iconst 1, 1, 0, 0, []) := rfl
theorem zr_0_846 : z_co 0 846 = (.iadd, 1, 0, 0, []) := rfl
theorem zr_0_847 : z_co 0 847 = (.iaload, 1, 0, 0, []) := rfl
theorem zr_0_848 : z_co 0 848 = (.invokevirtual 105, 3, 227, 0, [1675, 1676, 1677]) := rfl
theorem zr_0_851 : z_co 0 851 = (.if_icmp .eq 393, 3, 0, 0, []) := rfl
theorem zr_0_854 : z_co 0 854 = (.iconst 0, 1, 0, 0, []) := rfl
theorem zr_0_855 : z_co 0 855 = (.ireturn, 1, 0, 0, []) := rfl
theorem zr_0_856 : z_co 0 856 = (.aload_n 1, 1, 0, 0, []) := rfl
theorem zr_0_857 : z_co 0 857 = (.aload_n 0, 1, 0, 0, []) := rfl
theorem zr_0_858 : z_co 0 858 = (.iload_n 3, 1, 0, 0, []) := rfl
theorem zr_0_859 : z_co 0 859 = (.iconst 1, 1, 0, 0, []) := rfl
theorem zr_0_860 : z_co 0 860 = (.iadd, 1, 0, 0, []) := rfl
theorem zr_0_861 : z_co 0 861 = (.iaload, 1, 0, 0, []) := rfl
theorem zr_0_862 : z_co 0 862 = (.invokevirtual 106, 3, 114, 0, [979, 980, 981]) := rfl
theorem zr_0_865 : z_co 0 865 = (.aload_n 2, 1, 0, 0, []) := rfl
theorem zr_0_866 : z_co 0 866 = (.aload_n 0, 1, 0, 0, []) := rfl
theorem zr_0_867 : z_co 0 867 = (.iload_n 3, 1, 0, 0, []) := rfl
theorem zr_0_868 : z_co 0 868 = (.iconst 1, 1, 0, 0, []) := rfl
theorem zr_0_869 : z_co 0 869 = (.iadd, 1, 0, 0, []) := rfl
theorem zr_0_870 : z_co 0 870 = (.iaload, 1, 0, 0, []) := rfl
theorem zr_0_871 : z_co 0 871 = (.invokevirtual 109, 3, 228, 0, [1706, 1707, 1708]) := rfl
theorem zr_0_874 : z_co 0 874 = (.if_icmp .eq 370, 3, 0, 0, []) := rfl
theorem zr_0_877 : z_co 0 877 = (.iconst 0, 1, 0, 0, []) := rfl
theorem zr_0_878 : z_co 0 878 = (.ireturn, 1, 0, 0, []) := rfl
theorem zr_0_879 : z_co 0 879 = (.aload_n 1, 1, 0, 0, []) := rfl
theorem zr_0_880 : z_co 0 880 = (.aload_n 0, 1, 0, 0, []) := rfl
theorem zr_0_881 : z_co 0 881 = (.iload_n 3, 1, 0, 0, []) := rfl
theorem zr_0_882 : z_co 0 882 = (.iconst 1, 1, 0, 0, []) := rfl
theorem zr_0_883 : z_co 0 883 = (.iadd, 1, 0, 0, []) := rfl
theorem zr_0_884 : z_co 0 884 = (.iaload, 1, 0, 0, []) := rfl
theorem zr_0_885 : z_co 0 885 = (.invokevirtual 110, 3, 115, 0, [983, 984, 985]) := rfl
theorem zr_0_888 : z_co 0 888 = (.aload_n 2, 1, 0, 0, []) := rfl
theorem zr_0_889 : z_co 0 889 = (.aload_n 0, 1, 0, 0, []) := rfl
theorem zr_0_890 : z_co 0 890 = (.iload_n 3, 1, 0, 0, []) := rfl
theorem zr_0_891 : z_co 0 891 = (.iconst 1, 1, 0, 0, []) := rfl
theorem zr_0_892 : z_co 0 892 = (.iadd, 1, 0, 0, []) := rfl
theorem zr_0_893 : z_co 0 893 = (.iaload, 1, 0, 0, []) := rfl
theorem zr_0_894 : z_co 0 894 = (.invokevirtual 113, 3, 233, 0, [1710, 1711, 1712]) := rfl
theorem zr_0_897 : z_co 0 897 = (.if_icmp .eq 347, 3, 0, 0, []) := rfl
theorem zr_0_900 : z_co 0 900 = (.iconst 0, 1, 0, 0, []) := rfl
theorem zr_0_901 : z_co 0 901 = (.ireturn, 1, 0, 0, []) := rfl
theorem zr_0_902 : z_co 0 902 = (.aload_n 1, 1, 0, 0, []) := rfl
theorem zr_0_903 : z_co 0 903 = (.aload_n 0, 1, 0, 0, []) := rfl
theorem zr_0_904 : z_co 0 904 = (.iload_n 3, 1, 0, 0, []) := rfl
theorem zr_0_905 : z_co 0 905 = (.iconst 1, 1, 0, 0, []) := rfl
theorem zr_0_906 : z_co 0 906 = (.iadd, 1, 0, 0, []) := rfl
theorem zr_0_907 : z_co 0 907 = (.iaload, 1, 0, 0, []) := rfl
theorem zr_0_908 : z_co 0 908 = (.invokevirtual 114, 3, 116, 0, [1016, 1017, 1018]) := rfl
theorem zr_0_911 : z_co 0 911 = (.aload_n 2, 1, 0, 0, []) := rfl
theorem zr_0_912 : z_co 0 912 = (.aload_n 0, 1, 0, 0, []) := rfl
theorem zr_0_913 : z_co 0 913 = (.iload_n 3, 1, 0, 0, []) := rfl
theorem zr_0_914 : z_co 0 914 = (.iconst 1, 1, 0, 0, []) := rfl
theorem zr_0_915 : z_co 0 915 = (.iadd, 1, 0, 0, []) := rfl
theorem zr_0_916 : z_co 0 916 = (.iaload, 1, 0, 0, []) := rfl
theorem zr_0_917 : z_co 0 917 = (.invokevirtual 117, 3, 235, 0, [1730, 1731, 1732]) := rfl
theorem zr_0_920 : z_co 0 920 = (.if_icmp .eq 324, 3, 0, 0, []) := rfl
theorem zr_0_923 : z_co 0 923 = (.iconst 0, 1, 0, 0, []) := rfl
theorem zr_0_924 : z_co 0 924 = (.ireturn, 1, 0, 0, []) := rfl
theorem zr_0_925 : z_co 0 925 = (.aload_n 1, 1, 0, 0, []) := rfl
theorem zr_0_926 : z_co 0 926 = (.invokevirtual 118, 3, 117, 0, [1052, 1053, 1054]) := rfl
theorem zr_0_929 : z_co 0 929 = (.aload_n 2, 1, 0, 0, []) := rfl
theorem zr_0_930 : z_co 0 930 = (.invokevirtual 121, 3, 236, 0, [1738, 1739, 1740]) := rfl
theorem zr_0_933 : z_co 0 933 = (.if_icmp .eq 311, 3, 0, 0, []) := rfl
theorem zr_0_936 : z_co 0 936 = (.iconst 0, 1, 0, 0, []) := rfl
theorem zr_0_937 : z_co 0 937 = (.ireturn, 1, 0, 0, []) := rfl
theorem zr_0_938 : z_co 0 938 = (.aload_n 1, 1, 0, 0, []) := rfl
theorem zr_0_939 : z_co 0 939 = (.aload_n 0, 1, 0, 0, []) := rfl
theorem zr_0_940 : z_co 0 940 = (.iload_n 3, 1, 0, 0, []) := rfl
theorem zr_0_941 : z_co 0 941 = (.iconst 1, 1, 0, 0, []) := rfl
theorem zr_0_942 : z_co 0 942 = (.iadd, 1, 0, 0, []) := rfl
theorem zr_0_943 : z_co 0 943 = (.iaload, 1, 0, 0, []) := rfl
theorem zr_0_944 : z_co 0 944 = (.aload_n 0, 1, 0, 0, []) := rfl
theorem zr_0_945 : z_co 0 945 = (.iload_n 3, 1, 0, 0, []) := rfl
theorem zr_0_946 : z_co 0 946 = (.iconst 2, 1, 0, 0, []) := rfl
theorem zr_0_947 : z_co 0 947 = (.iadd, 1, 0, 0, []) := rfl
theorem zr_0_948 : z_co 0 948 = (.iaload, 1, 0, 0, []) := rfl
theorem zr_0_949 : z_co 0 949 = (.invokevirtual 122, 3, 118, 0, [1066, 1067, 1068]) := rfl
theorem zr_0_952 : z_co 0 952 = (.aload_n 2, 1, 0, 0, []) := rfl
theorem zr_0_953 : z_co 0 953 = (.aload_n 0, 1, 0, 0, []) := rfl
theorem zr_0_954 : z_co 0 954 = (.iload_n 3, 1, 0, 0, []) := rfl
theorem zr_0_955 : z_co 0 955 = (.iconst 1, 1, 0, 0, []) := rfl
theorem zr_0_956 : z_co 0 956 = (.iadd, 1, 0, 0, []) := rfl
theorem zr_0_957 : z_co 0 957 = (.iaload, 1, 0, 0, []) := rfl
theorem zr_0_958 : z_co 0 958 = (.aload_n 0, 1, 0, 0, []) := rfl
theorem zr_0_959 : z_co 0 959 = (.iload_n 3, 1, 0, 0, []) := rfl
theorem zr_0_960 : z_co 0 960 = (.iconst 2, 1, 0, 0, []) := rfl
theorem zr_0_961 : z_co 0 961 = (.iadd, 1, 0, 0, []) := rfl
theorem zr_0_962 : z_co 0 962 = (.iaload, 1, 0, 0, []) := rfl
theorem zr_0_963 : z_co 0 963 = (.invokevirtual 125, 3, 237, 0, [1742, 1743, 1744]) := rfl
theorem zr_0_966 : z_co 0 966 = (.if_icmp .eq 278, 3, 0, 0, []) := rfl
theorem zr_0_969 : z_co 0 969 = (.iconst 0, 1, 0, 0, []) := rfl
theorem zr_0_970 : z_co 0 970 = (.ireturn, 1, 0, 0, []) := rfl
theorem zr_0_971 : z_co 0 971 = (.aload_n 1, 1, 0, 0, []) := rfl
theorem zr_0_972 : z_co 0 972 = (.aload_n 0, 1, 0, 0, []) := rfl
theorem zr_0_973 : z_co 0 973 = (.iload_n 3, 1, 0, 0, []) := rfl
theorem zr_0_974 : z_co 0 974 = (.iconst 1, 1, 0, 0, []) := rfl
theorem zr_0_975 : z_co 0 975 = (.iadd, 1, 0, 0, []) := rfl
theorem zr_0_976 : z_co 0 976 = (.iaload, 1, 0, 0, []) := rfl
theorem zr_0_977 : z_co 0 977 = (.aload_n 0, 1, 0, 0, []) := rfl
theorem zr_0_978 : z_co 0 978 = (.iload_n 3, 1, 0, 0, []) := rfl
theorem zr_0_979 : z_co 0 979 = (.iconst 2, 1, 0, 0, []) := rfl
theorem zr_0_980 : z_co 0 980 = (.iadd, 1, 0, 0, []) := rfl
theorem zr_0_981 : z_co 0 981 = (.iaload, 1, 0, 0, []) := rfl
theorem zr_0_982 : z_co 0 982 = (.invokevirtual 126, 3, 119, 0, [1071, 1072, 1073]) := rfl
theorem zr_0_985 : z_co 0 985 = (.aload_n 2, 1, 0, 0, []) := rfl
theorem zr_0_986 : z_co 0 986 = (.aload_n 0, 1, 0, 0, []) := rfl
theorem zr_0_987 : z_co 0 987 = (.iload_n 3, 1, 0, 0, []) := rfl
theorem zr_0_988 : z_co 0 988 = (.iconst 1, 1, 0, 0, []) := rfl
theorem zr_0_989 : z_co 0 989 = (.iadd, 1, 0, 0, []) := rfl
theorem zr_0_990 : z_co 0 990 = (.iaload, 1, 0, 0, []) := rfl
theorem zr_0_991 : z_co 0 991 = (.aload_n 0, 1, 0, 0, []) := rfl
theorem zr_0_992 : z_co 0 992 = (.iload_n 3, 1, 0, 0, []) := rfl
theorem zr_0_993 : z_co 0 993 = (.iconst 2, 1, 0, 0, []) := rfl
theorem zr_0_994 : z_co 0 994 = (.iadd, 1, 0, 0, []) := rfl
theorem zr_0_995 : z_co 0 995 = (.iaload, 1, 0, 0, []) := rfl
theorem zr_0_996 : z_co 0 996 = (.invokevirtual 129, 3, 238, 0, [1746, 1747, 1748]) := rfl
theorem zr_0_999 : z_co 0 999 = (.if_icmp .eq 245, 3, 0, 0, []) := rfl
theorem zr_0_1002 : z_co 0 1002 = (.iconst 0, 1, 0, 0, []) := rfl
theorem zr_0_1003 : z_co 0 1003 = (.ireturn, 1, 0, 0, []) := rfl
theorem zr_0_1004 : z_co 0 1004 = (.aload_n 1, 1, 0, 0, []) := rfl
theorem zr_0_1005 : z_co 0 1005 = (.aload_n 0, 1, 0, 0, []) := rfl
theorem zr_0_1006 : z_co 0 1006 = (.iload_n 3, 1, 0, 0, []) := rfl
theorem zr_0_1007 : z_co 0 1007 = (.iconst 1, 1, 0, 0, []) := rfl
theorem zr_0_1008 : z_co 0 1008 = (.iadd, 1, 0, 0, []) := rfl
theorem zr_0_1009 : z_co 0 1009 = (.iaload, 1, 0, 0, []) := rfl
theorem zr_0_1010 : z_co 0 1010 = (.invokevirtual 130, 3, 120, 0, [1085, 1086, 1087]) := rfl
theorem zr_0_1013 : z_co 0 1013 = (.aload_n 2, 1, 0, 0, []) := rfl
theorem zr_0_1014 : z_co 0 1014 = (.aload_n 0, 1, 0, 0, []) := rfl
theorem zr_0_1015 : z_co 0 1015 = (.iload_n 3, 1, 0, 0, []) := rfl
theorem zr_0_1016 : z_co 0 1016 = (.iconst 1, 1, 0, 0, []) := rfl
theorem zr_0_1017 : z_co 0 1017 = (.iadd, 1, 0, 0, []) := rfl
theorem zr_0_1018 : z_co 0 1018 = (.iaload, 1, 0, 0, []) := rfl
theorem zr_0_1019 : z_co 0 1019 = (.invokevirtual 133, 3, 240, 0, [1750, 1751, 1752]) := rfl
theorem zr_0_1022 : z_co 0 1022 = (.if_icmp .eq 222, 3, 0, 0, []) := rfl
theorem zr_0_1025 : z_co 0 1025 = (.iconst 0, 1, 0, 0, []) := rfl
theorem zr_0_1026 : z_co 0 1026 = (.ireturn, 1, 0, 0, []) := rfl
theorem zr_0_1027 : z_co 0 1027 = (.aload_n 1, 1, 0, 0, []) := rfl
theorem zr_0_1028 : z_co 0 1028 = (.aload_n 0, 1, 0, 0, []) := rfl
theorem zr_0_1029 : z_co 0 1029 = (.iload_n 3, 1, 0, 0, []) := rfl
theorem zr_0_1030 : z_co 0 1030 = (.iconst 1, 1, 0, 0, []) := rfl
theorem zr_0_1031 : z_co 0 1031 = (.iadd, 1, 0, 0, []) := rfl
theorem zr_0_1032 : z_co 0 1032 = (.iaload, 1, 0, 0, []) := rfl
theorem zr_0_1033 : z_co 0 1033 = (.invokevirtual 134, 3, 121, 0, [1098, 1099, 1100]) := rfl
theorem zr_0_1036 : z_co 0 1036 = (.aload_n 2, 1, 0, 0, []) := rfl
theorem zr_0_1037 : z_co 0 1037 = (.aload_n 0, 1, 0, 0, []) := rfl
theorem zr_0_1038 : z_co 0 1038 = (.iload_n 3, 1, 0, 0, []) := rfl
theorem zr_0_1039 : z_co 0 1039 = (.iconst 1, 1, 0, 0, []) := rfl
theorem zr_0_1040 : z_co 0 1040 = (.iadd, 1, 0, 0, []) := rfl
theorem zr_0_1041 : z_co 0 1041 = (.iaload, 1, 0, 0, []) := rfl
theorem zr_0_1042 : z_co 0 1042 = (.invokevirtual 137, 3, 241, 0, [1758, 1759, 1760]) := rfl
theorem zr_0_1045 : z_co 0 1045 = (.if_icmp .eq 199, 3, 0, 0, []) := rfl
theorem zr_0_1048 : z_co 0 1048 = (.iconst 0, 1, 0, 0, []) := rfl
theorem zr_0_1049 : z_co 0 1049 = (.ireturn, 1, 0, 0, []) := rfl
theorem zr_0_1050 : z_co 0 1050 = (.aload_n 1, 1, 0, 0, []) := rfl
theorem zr_0_1051 : z_co 0 1051 = (.invokevirtual 138, 3, 122, 0, [1106, 1107, 1108]) := rfl
theorem zr_0_1054 : z_co 0 1054 = (.aload_n 2, 1, 0, 0, []) := rfl
theorem zr_0_1055 : z_co 0 1055 = (.invokevirtual 141, 3, 242, 0, [1762, 1763, 1764]) := rfl
theorem zr_0_1058 : z_co 0 1058 = (.if_icmp .eq 186, 3, 0, 0, []) := rfl
theorem zr_0_1061 : z_co 0 1061 = (.iconst 0, 1, 0, 0, []) := rfl
theorem zr_0_1062 : z_co 0 1062 = (.ireturn, 1, 0, 0, []) := rfl
theorem zr_0_1063 : z_co 0 1063 = (.aload_n 1, 1, 0, 0, []) := rfl
theorem zr_0_1064 : z_co 0 1064 = (.aload_n 0, 1, 0, 0, []) := rfl
theorem zr_0_1065 : z_co 0 1065 = (.iload_n 3, 1, 0, 0, []) := rfl
theorem zr_0_1066 : z_co 0 1066 = (.iconst 1, 1, 0, 0, []) := rfl
theorem zr_0_1067 : z_co 0 1067 = (.iadd, 1, 0, 0, []) := rfl
theorem zr_0_1068 : z_co 0 1068 = (.iaload, 1, 0, 0, []) := rfl
theorem zr_0_1069 : z_co 0 1069 = (.aload_n 0, 1, 0, 0, []) := rfl
theorem zr_0_1070 : z_co 0 1070 = (.iload_n 3, 1, 0, 0, []) := rfl
theorem zr_0_1071 : z_co 0 1071 = (.iconst 2, 1, 0, 0, []) := rfl
theorem zr_0_1072 : z_co 0 1072 = (.iadd, 1, 0, 0, []) := rfl
theorem zr_0_1073 : z_co 0 1073 = (.iaload, 1, 0, 0, []) := rfl
theorem zr_0_1074 : z_co 0 1074 = (.invokevirtual 142, 3, 123, 0, [1110, 1111, 1112]) := rfl
theorem zr_0_1077 : z_co 0 1077 = (.aload_n 2, 1, 0, 0, []) := rfl
theorem zr_0_1078 : z_co 0 1078 = (.aload_n 0, 1, 0, 0, []) := rfl
theorem zr_0_1079 : z_co 0 1079 = (.iload_n 3, 1, 0, 0, []) := rfl
theorem zr_0_1080 : z_co 0 1080 = (.iconst 1, 1, 0, 0, []) := rfl
theorem zr_0_1081 : z_co 0 1081 = (.iadd, 1, 0, 0, []) := rfl
theorem zr_0_1082 : z_co 0 1082 = (.iaload, 1, 0, 0, []) := rfl
theorem zr_0_1083 : z_co 0 1083 = (.aload_n 0, 1, 0, 0, []) := rfl
theorem zr_0_1084 : z_co 0 1084 = (.iload_n 3, 1, 0, 0, []) := rfl
theorem zr_0_1085 : z_co 0 1085 = (.iconst 2, 1, 0, 0, []) := rfl
theorem zr_0_1086 : z_co 0 1086 = (.iadd, 1, 0, 0, []) := rfl
theorem zr_0_1087 : z_co 0 1087 = (.iaload, 1, 0, 0, []) := rfl
theorem zr_0_1088 : z_co 0 1088 = (.invokevirtual 145, 3, 243, 0, [1766, 1767, 1768]) := rfl
theorem zr_0_1091 : z_co 0 1091 = (.if_icmp .eq 153, 3, 0, 0, []) := rfl
theorem zr_0_1094 : z_co 0 1094 = (.iconst 0, 1, 0, 0, []) := rfl
theorem zr_0_1095 : z_co 0 1095 = (.ireturn, 1, 0, 0, []) := rfl
theorem zr_0_1096 : z_co 0 1096 = (.aload_n 1, 1, 0, 0, []) := rfl
theorem zr_0_1097 : z_co 0 1097 = (.aload_n 0, 1, 0, 0, []) := rfl
theorem zr_0_1098 : z_co 0 1098 = (.iload_n 3, 1, 0, 0, []) := rfl
theorem zr_0_1099 : z_co 0 1099 = (.iconst 1, 1, 0, 0, []) := rfl
theorem zr_0_1100 : z_co 0 1100 = (.iadd, 1, 0, 0, []) := rfl
theorem zr_0_1101 : z_co 0 1101 = (.iaload, 1, 0, 0, []) := rfl
theorem zr_0_1102 : z_co 0 1102 = (.aload_n 0, 1, 0, 0, []) := rfl
theorem zr_0_1103 : z_co 0 1103 = (.iload_n 3, 1, 0, 0, []) := rfl
theorem zr_0_1104 : z_co 0 1104 = (.iconst 2, 1, 0, 0, []) := rfl
theorem zr_0_1105 : z_co 0 1105 = (.iadd, 1, 0, 0, []) := rfl
theorem zr_0_1106 : z_co 0 1106 = (.iaload, 1, 0, 0, []) := rfl
theorem zr_0_1107 : z_co 0 1107 = (.invokevirtual 146, 3, 124, 0, [1119, 1120, 1121]) := rfl
theorem zr_0_1110 : z_co 0 1110 = (.aload_n 2, 1, 0, 0, []) := rfl
theorem zr_0_1111 : z_co 0 1111 = (.aload_n 0, 1, 0, 0, []) := rfl
theorem zr_0_1112 : z_co 0 1112 = (.iload_n 3, 1, 0, 0, []) := rfl
theorem zr_0_1113 : z_co 0 1113 = (.iconst 1, 1, 0, 0, []) := rfl
theorem zr_0_1114 : z_co 0 1114 = (.iadd, 1, 0, 0, []) := rfl
theorem zr_0_1115 : z_co 0 1115 = (.iaload, 1, 0, 0, []) := rfl
theorem zr_0_1116 : z_co 0 1116 = (.aload_n 0, 1, 0, 0, []) := rfl
theorem zr_0_1117 : z_co 0 1117 = (.iload_n 3, 1, 0, 0, []) := rfl
theorem zr_0_1118 : z_co 0 1118 = (.iconst 2, 1, 0, 0, []) := rfl
theorem zr_0_1119 : z_co 0 1119 = (.iadd, 1, 0, 0, []) := rfl
theorem zr_0_1120 : z_co 0 1120 = (.iaload, 1, 0, 0, []) := rfl
theorem zr_0_1121 : z_co 0 1121 = (.invokevirtual 149, 3, 245, 0, [1771, 1772, 1773]) := rfl
theorem zr_0_1124 : z_co 0 1124 = (.if_icmp .eq 120, 3, 0, 0, []) := rfl
theorem zr_0_1127 : z_co 0 1127 = (.iconst 0, 1, 0, 0, []) := rfl
theorem zr_0_1128 : z_co 0 1128 = (.ireturn, 1, 0, 0, []) := rfl
theorem zr_0_1129 : z_co 0 1129 = (.aload_n 1, 1, 0, 0, []) := rfl
theorem zr_0_1130 : z_co 0 1130 = (.aload_n 0, 1, 0, 0, []) := rfl
theorem zr_0_1131 : z_co 0 1131 = (.iload_n 3, 1, 0, 0, []) := rfl
theorem zr_0_1132 : z_co 0 1132 = (.iconst 1, 1, 0, 0, []) := rfl
theorem zr_0_1133 : z_co 0 1133 = (.iadd, 1, 0, 0, []) := rfl
theorem zr_0_1134 : z_co 0 1134 = (.iaload, 1, 0, 0, []) := rfl
theorem zr_0_1135 : z_co 0 1135 = (.aload_n 0, 1, 0, 0, []) := rfl
theorem zr_0_1136 : z_co 0 1136 = (.iload_n 3, 1, 0, 0, []) := rfl
theorem zr_0_1137 : z_co 0 1137 = (.iconst 2, 1, 0, 0, []) := rfl
theorem zr_0_1138 : z_co 0 1138 = (.iadd, 1, 0, 0, []) := rfl
theorem zr_0_1139 : z_co 0 1139 = (.iaload, 1, 0, 0, []) := rfl
theorem zr_0_1140 : z_co 0 1140 = (.invokevirtual 150, 3, 125, 0, [1143, 1144, 1145]) := rfl
theorem zr_0_1143 : z_co 0 1143 = (.aload_n 2, 1, 0, 0, []) := rfl
theorem zr_0_1144 : z_co 0 1144 = (.aload_n 0, 1, 0, 0, []) := rfl
theorem zr_0_1145 : z_co 0 1145 = (.iload_n 3, 1, 0, 0, []) := rfl
theorem zr_0_1146 : z_co 0 1146 = (.iconst 1, 1, 0, 0, []) := rfl
theorem zr_0_1147 : z_co 0 1147 = (.iadd, 1, 0, 0, []) := rfl
theorem zr_0_1148 : z_co 0 1148 = (.iaload, 1, 0, 0, []) := rfl
theorem zr_0_1149 : z_co 0 1149 = (.aload_n 0, 1, 0, 0, []) := rfl
theorem zr_0_1150 : z_co 0 1150 = (.iload_n 3, 1, 0, 0, []) := rfl
theorem zr_0_1151 : z_co 0 1151 = (.iconst 2, 1, 0, 0, []) := rfl
theorem zr_0_1152 : z_co 0 1152 = (.iadd, 1, 0, 0, []) := rfl
theorem zr_0_1153 : z_co 0 1153 = (.iaload, 1, 0, 0, []) := rfl
theorem zr_0_1154 : z_co 0 1154 = (.invokevirtual 153, 3, 246, 0, [1782, 1783, 1784]) := rfl
theorem zr_0_1157 : z_co 0 1157 = (.if_icmp .eq 87, 3, 0, 0, []) := rfl
theorem zr_0_1160 : z_co 0 1160 = (.iconst 0, 1, 0, 0, []) := rfl
theorem zr_0_1161 : z_co 0 1161 = (.ireturn, 1, 0, 0, []) := rfl
theorem zr_0_1162 : z_co 0 1162 = (.aload_n 1, 1, 0, 0, []) := rfl
theorem zr_0_1163 : z_co 0 1163 = (.aload_n 0, 1, 0, 0, []) := rfl
theorem zr_0_1164 : z_co 0 1164 = (.iload_n 3, 1, 0, 0, []) := rfl
theorem zr_0_1165 : z_co 0 1165 = (.iconst 1, 1, 0, 0, []) := rfl
theorem zr_0_1166 : z_co 0 1166 = (.iadd, 1, 0, 0, []) := rfl
theorem zr_0_1167 : z_co 0 1167 = (.iaload, 1, 0, 0, []) := rfl
theorem zr_0_1168 : z_co 0 1168 = (.invokevirtual 154, 3, 126, 0, [1147, 1148, 1149]) := rfl
theorem zr_0_1171 : z_co 0 1171 = (.aload_n 2, 1, 0, 0, []) := rfl
theorem zr_0_1172 : z_co 0 1172 = (.aload_n 0, 1, 0, 0, []) := rfl
theorem zr_0_1173 : z_co 0 1173 = (.iload_n 3, 1, 0, 0, []) := rfl
theorem zr_0_1174 : z_co 0 1174 = (.iconst 1, 1, 0, 0, []) := rfl
theorem zr_0_1175 : z_co 0 1175 = (.iadd, 1, 0, 0, []) := rfl
theorem zr_0_1176 : z_co 0 1176 = (.iaload, 1, 0, 0, []) := rfl
theorem zr_0_1177 : z_co 0 1177 = (.invokevirtual 157, 3, 152, 0, [1359, 1360, 1361]) := rfl
theorem zr_0_1180 : z_co 0 1180 = (.if_icmp .eq 64, 3, 0, 0, []) := rfl
theorem zr_0_1183 : z_co 0 1183 = (.iconst 0, 1, 0, 0, []) := rfl
theorem zr_0_1184 : z_co 0 1184 = (.ireturn, 1, 0, 0, []) := rfl
theorem zr_0_1185 : z_co 0 1185 = (.aload_n 1, 1, 0, 0, []) := rfl
theorem zr_0_1186 : z_co 0 1186 = (.aload_n 0, 1, 0, 0, []) := rfl
theorem zr_0_1187 : z_co 0 1187 = (.iload_n 3, 1, 0, 0, []) := rfl
theorem zr_0_1188 : z_co 0 1188 = (.iconst 1, 1, 0, 0, []) := rfl
theorem zr_0_1189 : z_co 0 1189 = (.iadd, 1, 0, 0, []) := rfl
theorem zr_0_1190 : z_co 0 1190 = (.iaload, 1, 0, 0, []) := rfl
theorem zr_0_1191 : z_co 0 1191 = (.invokevirtual 158, 3, 127, 0, [1159, 1160, 1161]) := rfl
theorem zr_0_1194 : z_co 0 1194 = (.aload_n 2, 1, 0, 0, []) := rfl
theorem zr_0_1195 : z_co 0 1195 = (.aload_n 0, 1, 0, 0, []) := rfl
theorem zr_0_1196 : z_co 0 1196 = (.iload_n 3, 1, 0, 0, []) := rfl
theorem zr_0_1197 : z_co 0 1197 = (.iconst 1, 1, 0, 0, []) := rfl
theorem zr_0_1198 : z_co 0 1198 = (.iadd, 1, 0, 0, []) := rfl
theorem zr_0_1199 : z_co 0 1199 = (.iaload, 1, 0, 0, []) := rfl
theorem zr_0_1200 : z_co 0 1200 = (.invokevirtual 161, 3, 153, 0, [1370, 1371, 1372]) := rfl
theorem zr_0_1203 : z_co 0 1203 = (.if_icmp .eq 41, 3, 0, 0, []) := rfl
theorem zr_0_1206 : z_co 0 1206 = (.iconst 0, 1, 0, 0, []) := rfl
theorem zr_0_1207 : z_co 0 1207 = (.ireturn, 1, 0, 0, []) := rfl
theorem zr_0_1208 : z_co 0 1208 = (.aload_n 1, 1, 0, 0, []) := rfl
theorem zr_0_1209 : z_co 0 1209 = (.aload_n 0, 1, 0, 0, []) := rfl
theorem zr_0_1210 : z_co 0 1210 = (.iload_n 3, 1, 0, 0, []) := rfl
theorem zr_0_1211 : z_co 0 1211 = (.iconst 1, 1, 0, 0, []) := rfl
theorem zr_0_1212 : z_co 0 1212 = (.iadd, 1, 0, 0, []) := rfl
theorem zr_0_1213 : z_co 0 1213 = (.iaload, 1, 0, 0, []) := rfl
theorem zr_0_1214 : z_co 0 1214 = (.invokevirtual 162, 3, 128, 0, [1163, 1164, 1165]) := rfl
theorem zr_0_1217 : z_co 0 1217 = (.aload_n 2, 1, 0, 0, []) := rfl
theorem zr_0_1218 : z_co 0 1218 = (.aload_n 0, 1, 0, 0, []) := rfl
theorem zr_0_1219 : z_co 0 1219 = (.iload_n 3, 1, 0, 0, []) := rfl
theorem zr_0_1220 : z_co 0 1220 = (.iconst 1, 1, 0, 0, []) := rfl
theorem zr_0_1221 : z_co 0 1221 = (.iadd, 1, 0, 0, []) := rfl
theorem zr_0_1222 : z_co 0 1222 = (.iaload, 1, 0, 0, []) := rfl
theorem zr_0_1223 : z_co 0 1223 = (.invokevirtual 165, 3, 247, 0, [1786, 1787, 1788]) := rfl
theorem zr_0_1226 : z_co 0 1226 = (.if_icmp .eq 18, 3, 0, 0, []) := rfl
theorem zr_0_1229 : z_co 0 1229 = (.iconst 0, 1, 0, 0, []) := rfl
theorem zr_0_1230 : z_co 0 1230 = (.ireturn, 1, 0, 0, []) := rfl
theorem zr_0_1231 : z_co 0 1231 = (.aload_n 1, 1, 0, 0, []) := rfl
theorem zr_0_1232 : z_co 0 1232 = (.invokevirtual 166, 3, 129, 0, [1171, 1172, 1173]) := rfl
theorem zr_0_1235 : z_co 0 1235 = (.aload_n 2, 1, 0, 0, []) := rfl
theorem zr_0_1236 : z_co 0 1236 = (.invokevirtual 169, 3, 248, 0, [1790, 1791, 1792]) := rfl
theorem zr_0_1239 : z_co 0 1239 = (.if_icmp .eq 5, 3, 0, 0, []) := rfl
theorem zr_0_1242 : z_co 0 1242 = (.iconst 0, 1, 0, 0, []) := rfl
theorem zr_0_1243 : z_co 0 1243 = (.ireturn, 1, 0, 0, []) := rfl
theorem zr_0_1244 : z_co 0 1244 = (.iinc 3 6, 3, 0, 0, []) := rfl
theorem zr_0_1247 : z_co 0 1247 = (.goto (-1229), 3, 0, 0, []) := rfl
theorem zr_0_1250 : z_co 0 1250 = (.iconst 1, 1, 0, 0, []) := rfl
theorem zr_0_1251 : z_co 0 1251 = (.ireturn, 1, 0, 0, []) := rfl
theorem zr_1_0 : z_co 1 0 = (.aload_n 0, 1, 0, 0, []) := rfl
theorem zr_1_1 : z_co 1 1 = (.invokespecial 3, 3, 1000, 0, [403, 131, 132]) := rfl
theorem zr_1_4 : z_co 1 4 = (.aload_n 0, 1, 0, 0, []) := rfl
theorem zr_1_5 : z_co 1 5 = (.new 9, 3, 8, 0, [404, 366, 112]) := rfl
theorem zr_1_8 : z_co 1 8 = (.dup, 1, 0, 0, []) := rfl
theorem zr_1_9 : z_co 1 9 = (.invokespecial 11, 3, 65, 1, [405, 368]) := rfl
theorem zr_1_12 : z_co 1 12 = (.putfield 12, 3, 0, 0, [407]) := rfl
theorem zr_1_15 : z_co 1 15 = (.aload_n 0, 1, 0, 0, []) := rfl
theorem zr_1_16 : z_co 1 16 = (.bipush 6, 2, 0, 0, []) := rfl
theorem zr_1_18 : z_co 1 18 = (.bipush 64, 2, 0, 0, []) := rfl
theorem zr_1_20 : z_co 1 20 = (.multianewarray 18 2, 4, 0, 0, [406, 140]) := rfl
theorem zr_1_24 : z_co 1 24 = (.putfield 20, 3, 0, 1, [409]) := rfl
theorem zr_1_27 : z_co 1 27 = (.aload_n 0, 1, 0, 0, []) := rfl
theorem zr_1_28 : z_co 1 28 = (.bipush 6, 2, 0, 0, []) := rfl
theorem zr_1_30 : z_co 1 30 = (.newarray .int, 2, 0, 0, []) := rfl
theorem zr_1_32 : z_co 1 32 = (.putfield 23, 3, 0, 2, [410]) := rfl
theorem zr_1_35 : z_co 1 35 = (.aload_n 0, 1, 0, 0, []) := rfl
theorem zr_1_36 : z_co 1 36 = (.bipush 6, 2, 0, 0, []) := rfl
theorem zr_1_38 : z_co 1 38 = (.newarray .int, 2, 0, 0, []) := rfl
theorem zr_1_40 : z_co 1 40 = (.putfield 27, 3, 0, 3, [411]) := rfl
theorem zr_1_43 : z_co 1 43 = (.return_, 1, 0, 0, []) := rfl
theorem zr_2_0 : z_co 2 0 = (.aload_n 0, 1, 0, 0, []) := rfl
theorem zr_2_1 : z_co 2 1 = (.getfield 12, 3, 0, 0, [407]) := rfl
theorem zr_2_4 : z_co 2 4 = (.getfield 30, 3, 8, 1, [373]) := rfl
theorem zr_2_7 : z_co 2 7 = (.ifCond .ne 12, 3, 0, 0, []) := rfl
theorem zr_2_10 : z_co 2 10 = (.aload_n 1, 1, 0, 0, []) := rfl
theorem zr_2_11 : z_co 2 11 = (.getfield 34, 3, 10, 7, [163]) := rfl
theorem zr_2_14 : z_co 2 14 = (.bipush 6, 2, 0, 0, []) := rfl
theorem zr_2_16 : z_co 2 16 = (.if_icmp .le 4, 3, 0, 0, []) := rfl
theorem zr_2_19 : z_co 2 19 = (.return_, 1, 0, 0, []) := rfl
theorem zr_2_20 : z_co 2 20 = (.aload_n 0, 1, 0, 0, []) := rfl
theorem zr_2_21 : z_co 2 21 = (.getfield 12, 3, 0, 0, [407]) := rfl
theorem zr_2_24 : z_co 2 24 = (.invokevirtual 40, 3, 66, 0, [1024, 992, 993]) := rfl
theorem zr_2_27 : z_co 2 27 = (.iconst 0, 1, 0, 0, []) := rfl
theorem zr_2_28 : z_co 2 28 = (.istore 4, 2, 0, 0, []) := rfl
theorem zr_2_30 : z_co 2 30 = (.iload 4, 2, 0, 0, []) := rfl
theorem zr_2_32 : z_co 2 32 = (.iconst 1, 1, 0, 0, []) := rfl
theorem zr_2_33 : z_co 2 33 = (.aload_n 1, 1, 0, 0, []) := rfl
theorem zr_2_34 : z_co 2 34 = (.getfield 34, 3, 10, 7, [163]) := rfl
theorem zr_2_37 : z_co 2 37 = (.ishl, 1, 0, 0, []) := rfl
theorem zr_2_38 : z_co 2 38 = (.if_icmp .ge 17, 3, 0, 0, []) := rfl
theorem zr_2_41 : z_co 2 41 = (.aload_n 0, 1, 0, 0, []) := rfl
theorem zr_2_42 : z_co 2 42 = (.aload_n 1, 1, 0, 0, []) := rfl
theorem zr_2_43 : z_co 2 43 = (.aload_n 3, 1, 0, 0, []) := rfl
theorem zr_2_44 : z_co 2 44 = (.iload 4, 2, 0, 0, []) := rfl
theorem zr_2_46 : z_co 2 46 = (.invokevirtual 43, 3, 3, 0, [1025, 1027, 37]) := rfl
theorem zr_2_49 : z_co 2 49 = (.iinc 4 1, 3, 0, 0, []) := rfl
theorem zr_2_52 : z_co 2 52 = (.goto (-22), 3, 0, 0, []) := rfl
theorem zr_2_55 : z_co 2 55 = (.aload_n 0, 1, 0, 0, []) := rfl
theorem zr_2_56 : z_co 2 56 = (.aload_n 1, 1, 0, 0, []) := rfl
theorem zr_2_57 : z_co 2 57 = (.aload_n 2, 1, 0, 0, []) := rfl
theorem zr_2_58 : z_co 2 58 = (.iconst 0, 1, 0, 0, []) := rfl
theorem zr_2_59 : z_co 2 59 = (.iconst 0, 1, 0, 0, []) := rfl
theorem zr_2_60 : z_co 2 60 = (.invokevirtual 47, 3, 4, 0, [1031, 1033, 38]) := rfl
theorem zr_2_63 : z_co 2 63 = (.return_, 1, 0, 0, []) := rfl
theorem zr_3_0 : z_co 3 0 = (.iconst 0, 1, 0, 0, []) := rfl
theorem zr_3_1 : z_co 3 1 = (.istore 4, 2, 0, 0, []) := rfl
theorem zr_3_3 : z_co 3 3 = (.iconst 0, 1, 0, 0, []) := rfl
theorem zr_3_4 : z_co 3 4 = (.istore 5, 2, 0, 0, []) := rfl
theorem zr_3_6 : z_co 3 6 = (.iload 5, 2, 0, 0, []) := rfl
theorem zr_3_8 : z_co 3 8 = (.aload_n 1, 1, 0, 0, []) := rfl
theorem zr_3_9 : z_co 3 9 = (.getfield 34, 3, 10, 7, [163]) := rfl
theorem zr_3_12 : z_co 3 12 = (.if_icmp .ge 30, 3, 0, 0, []) := rfl
theorem zr_3_15 : z_co 3 15 = (.iload 4, 2, 0, 0, []) := rfl
theorem zr_3_17 : z_co 3 17 = (.iload_n 3, 1, 0, 0, []) := rfl
theorem zr_3_18 : z_co 3 18 = (.iload 5, 2, 0, 0, []) := rfl
theorem zr_3_20 : z_co 3 20 = (.ishr, 1, 0, 0, []) := rfl
theorem zr_3_21 : z_co 3 21 = (.iconst 1, 1, 0, 0, []) := rfl
theorem zr_3_22 : z_co 3 22 = (.iand, 1, 0, 0, []) := rfl
theorem zr_3_23 : z_co 3 23 = (.aload_n 1, 1, 0, 0, []) := rfl
theorem zr_3_24 : z_co 3 24 = (.getfield 51, 3, 10, 0, [146]) := rfl
theorem zr_3_27 : z_co 3 27 = (.iconst 0, 1, 0, 0, []) := rfl
theorem zr_3_28 : z_co 3 28 = (.aaload, 1, 0, 0, []) := rfl
theorem zr_3_29 : z_co 3 29 = (.iload 5, 2, 0, 0, []) := rfl
theorem zr_3_31 : z_co 3 31 = (.iaload, 1, 0, 0, []) := rfl
theorem zr_3_32 : z_co 3 32 = (.imul, 1, 0, 0, []) := rfl
theorem zr_3_33 : z_co 3 33 = (.iadd, 1, 0, 0, []) := rfl
theorem zr_3_34 : z_co 3 34 = (.istore 4, 2, 0, 0, []) := rfl
theorem zr_3_36 : z_co 3 36 = (.iinc 5 1, 3, 0, 0, []) := rfl
theorem zr_3_39 : z_co 3 39 = (.goto (-33), 3, 0, 0, []) := rfl
theorem zr_3_42 : z_co 3 42 = (.iconst 0, 1, 0, 0, []) := rfl
theorem zr_3_43 : z_co 3 43 = (.istore 5, 2, 0, 0, []) := rfl
theorem zr_3_45 : z_co 3 45 = (.iload 5, 2, 0, 0, []) := rfl
theorem zr_3_47 : z_co 3 47 = (.aload_n 1, 1, 0, 0, []) := rfl
theorem zr_3_48 : z_co 3 48 = (.getfield 34, 3, 10, 7, [163]) := rfl
theorem zr_3_51 : z_co 3 51 = (.if_icmp .ge 91, 3, 0, 0, []) := rfl
theorem zr_3_54 : z_co 3 54 = (.iconst 0, 1, 0, 0, []) := rfl
theorem zr_3_55 : z_co 3 55 = (.istore 6, 2, 0, 0, []) := rfl
theorem zr_3_57 : z_co 3 57 = (.iload 4, 2, 0, 0, []) := rfl
theorem zr_3_59 : z_co 3 59 = (.aload_n 1, 1, 0, 0, []) := rfl
theorem zr_3_60 : z_co 3 60 = (.getfield 51, 3, 10, 0, [146]) := rfl
theorem zr_3_63 : z_co 3 63 = (.iconst 0, 1, 0, 0, []) := rfl
theorem zr_3_64 : z_co 3 64 = (.aaload, 1, 0, 0, []) := rfl
theorem zr_3_65 : z_co 3 65 = (.iload 5, 2, 0, 0, []) := rfl
theorem zr_3_67 : z_co 3 67 = (.iaload, 1, 0, 0, []) := rfl
theorem zr_3_68 : z_co 3 68 = (.iadd, 1, 0, 0, []) := rfl
theorem zr_3_69 : z_co 3 69 = (.istore 7, 2, 0, 0, []) := rfl
theorem zr_3_71 : z_co 3 71 = (.iconst 0, 1, 0, 0, []) := rfl
theorem zr_3_72 : z_co 3 72 = (.istore 8, 2, 0, 0, []) := rfl
theorem zr_3_74 : z_co 3 74 = (.iload 8, 2, 0, 0, []) := rfl
theorem zr_3_76 : z_co 3 76 = (.aload_n 1, 1, 0, 0, []) := rfl
theorem zr_3_77 : z_co 3 77 = (.getfield 54, 3, 10, 8, [170]) := rfl
theorem zr_3_80 : z_co 3 80 = (.if_icmp .ge 45, 3, 0, 0, []) := rfl
theorem zr_3_83 : z_co 3 83 = (.iload_n 3, 1, 0, 0, []) := rfl
theorem zr_3_84 : z_co 3 84 = (.iload 5, 2, 0, 0, []) := rfl
theorem zr_3_86 : z_co 3 86 = (.ishr, 1, 0, 0, []) := rfl
theorem zr_3_87 : z_co 3 87 = (.iconst 1, 1, 0, 0, []) := rfl
theorem zr_3_88 : z_co 3 88 = (.iand, 1, 0, 0, []) := rfl
theorem zr_3_89 : z_co 3 89 = (.ifCond .ne 36, 3, 0, 0, []) := rfl
theorem zr_3_92 : z_co 3 92 = (.aload_n 2, 1, 0, 0, []) := rfl
theorem zr_3_93 : z_co 3 93 = (.aload_n 1, 1, 0, 0, []) := rfl
theorem zr_3_94 : z_co 3 94 = (.iload 8, 2, 0, 0, []) := rfl
theorem zr_3_96 : z_co 3 96 = (.iload 5, 2, 0, 0, []) := rfl
theorem zr_3_98 : z_co 3 98 = (.iload_n 3, 1, 0, 0, []) := rfl
theorem zr_3_99 : z_co 3 99 = (.invokestatic 57, 3, 256, 0, [1029, 915]) := rfl
theorem zr_3_102 : z_co 3 102 = (.iload 7, 2, 0, 0, []) := rfl
theorem zr_3_104 : z_co 3 104 = (.invokevirtual 63, 3, 16, 0, [1030, 790, 791]) := rfl
theorem zr_3_107 : z_co 3 107 = (.ifCond .eq 12, 3, 0, 0, []) := rfl
theorem zr_3_110 : z_co 3 110 = (.iload 6, 2, 0, 0, []) := rfl
theorem zr_3_112 : z_co 3 112 = (.iconst 1, 1, 0, 0, []) := rfl
theorem zr_3_113 : z_co 3 113 = (.iload 8, 2, 0, 0, []) := rfl
theorem zr_3_115 : z_co 3 115 = (.ishl, 1, 0, 0, []) := rfl
theorem zr_3_116 : z_co 3 116 = (.ior, 1, 0, 0, []) := rfl
theorem zr_3_117 : z_co 3 117 = (.istore 6, 2, 0, 0, []) := rfl
theorem zr_3_119 : z_co 3 119 = (.iinc 8 1, 3, 0, 0, []) := rfl
theorem zr_3_122 : z_co 3 122 = (.goto (-48), 3, 0, 0, []) := rfl
theorem zr_3_125 : z_co 3 125 = (.aload_n 0, 1, 0, 0, []) := rfl
theorem zr_3_126 : z_co 3 126 = (.getfield 20, 3, 0, 1, [409]) := rfl
theorem zr_3_129 : z_co 3 129 = (.iload 5, 2, 0, 0, []) := rfl
theorem zr_3_131 : z_co 3 131 = (.aaload, 1, 0, 0, []) := rfl
theorem zr_3_132 : z_co 3 132 = (.iload_n 3, 1, 0, 0, []) := rfl
theorem zr_3_133 : z_co 3 133 = (.iload 6, 2, 0, 0, []) := rfl
theorem zr_3_135 : z_co 3 135 = (.iastore, 1, 0, 0, []) := rfl
theorem zr_3_136 : z_co 3 136 = (.iinc 5 1, 3, 0, 0, []) := rfl
theorem zr_3_139 : z_co 3 139 = (.goto (-94), 3, 0, 0, []) := rfl
theorem zr_3_142 : z_co 3 142 = (.return_, 1, 0, 0, []) := rfl
