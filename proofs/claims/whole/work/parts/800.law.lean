theorem dL_law_0 : decode cL_law 0 = .ok (.new 7, 3) := by decide +kernel
theorem dL_law_3 : decode cL_law 3 = .ok (.dup, 1) := by decide +kernel
theorem dL_law_4 : decode cL_law 4 = .ok (.invokespecial 9, 3) := by decide +kernel
theorem dL_law_7 : decode cL_law 7 = .ok (.astore_n 1, 1) := by decide +kernel
theorem dL_law_8 : decode cL_law 8 = .ok (.new 10, 3) := by decide +kernel
theorem dL_law_11 : decode cL_law 11 = .ok (.dup, 1) := by decide +kernel
theorem dL_law_12 : decode cL_law 12 = .ok (.invokespecial 12, 3) := by decide +kernel
theorem dL_law_15 : decode cL_law 15 = .ok (.astore_n 2, 1) := by decide +kernel
theorem dL_law_16 : decode cL_law 16 = .ok (.iconst 0, 1) := by decide +kernel
theorem dL_law_17 : decode cL_law 17 = .ok (.istore_n 3, 1) := by decide +kernel
theorem dL_law_18 : decode cL_law 18 = .ok (.iload_n 3, 1) := by decide +kernel
theorem dL_law_19 : decode cL_law 19 = .ok (.aload_n 0, 1) := by decide +kernel
theorem dL_law_20 : decode cL_law 20 = .ok (.arraylength, 1) := by decide +kernel
theorem dL_law_21 : decode cL_law 21 = .ok (.bipush 6, 2) := by decide +kernel
theorem dL_law_23 : decode cL_law 23 = .ok (.isub, 1) := by decide +kernel
theorem dL_law_24 : decode cL_law 24 = .ok (.if_icmp .gt 1612, 3) := by decide +kernel
theorem dL_law_27 : decode cL_law 27 = .ok (.aload_n 0, 1) := by decide +kernel
theorem dL_law_28 : decode cL_law 28 = .ok (.iload_n 3, 1) := by decide +kernel
theorem dL_law_29 : decode cL_law 29 = .ok (.iaload, 1) := by decide +kernel
theorem dL_law_30 : decode cL_law 30 = .ok (.bipush 63, 2) := by decide +kernel
theorem dL_law_32 : decode cL_law 32 = .ok (.iand, 1) := by decide +kernel
theorem dL_law_33 : decode cL_law 33 = .ok (.tableswitch 1597 0 43 #[191, 204, 217, 280, 343, 376, 429, 452, 485, 518, 581, 614, 637, 650, 673, 696, 719, 752, 795, 818, 841, 875, 899, 932, 965, 998, 1031, 1054, 1097, 1140, 1173, 1197, 1210, 1263, 1286, 1320, 1353, 1376, 1419, 1442, 1475, 1518, 1551, 1574], 191) := by decide +kernel
theorem dL_law_224 : decode cL_law 224 = .ok (.aload_n 1, 1) := by decide +kernel
theorem dL_law_225 : decode cL_law 225 = .ok (.invokevirtual 13, 3) := by decide +kernel
theorem dL_law_228 : decode cL_law 228 = .ok (.aload_n 2, 1) := by decide +kernel
theorem dL_law_229 : decode cL_law 229 = .ok (.invokevirtual 17, 3) := by decide +kernel
theorem dL_law_232 : decode cL_law 232 = .ok (.if_icmp .eq 1398, 3) := by decide +kernel
theorem dL_law_235 : decode cL_law 235 = .ok (.iconst 0, 1) := by decide +kernel
theorem dL_law_236 : decode cL_law 236 = .ok (.ireturn, 1) := by decide +kernel
theorem dL_law_237 : decode cL_law 237 = .ok (.aload_n 1, 1) := by decide +kernel
theorem dL_law_238 : decode cL_law 238 = .ok (.invokevirtual 18, 3) := by decide +kernel
theorem dL_law_241 : decode cL_law 241 = .ok (.aload_n 2, 1) := by decide +kernel
theorem dL_law_242 : decode cL_law 242 = .ok (.invokevirtual 21, 3) := by decide +kernel
theorem dL_law_245 : decode cL_law 245 = .ok (.if_icmp .eq 1385, 3) := by decide +kernel
theorem dL_law_248 : decode cL_law 248 = .ok (.iconst 0, 1) := by decide +kernel
theorem dL_law_249 : decode cL_law 249 = .ok (.ireturn, 1) := by decide +kernel
theorem dL_law_250 : decode cL_law 250 = .ok (.aload_n 1, 1) := by decide +kernel
theorem dL_law_251 : decode cL_law 251 = .ok (.aload_n 0, 1) := by decide +kernel
theorem dL_law_252 : decode cL_law 252 = .ok (.iload_n 3, 1) := by decide +kernel
theorem dL_law_253 : decode cL_law 253 = .ok (.iconst 1, 1) := by decide +kernel
theorem dL_law_254 : decode cL_law 254 = .ok (.iadd, 1) := by decide +kernel
theorem dL_law_255 : decode cL_law 255 = .ok (.iaload, 1) := by decide +kernel
theorem dL_law_256 : decode cL_law 256 = .ok (.aload_n 0, 1) := by decide +kernel
theorem dL_law_257 : decode cL_law 257 = .ok (.iload_n 3, 1) := by decide +kernel
theorem dL_law_258 : decode cL_law 258 = .ok (.iconst 2, 1) := by decide +kernel
theorem dL_law_259 : decode cL_law 259 = .ok (.iadd, 1) := by decide +kernel
theorem dL_law_260 : decode cL_law 260 = .ok (.iaload, 1) := by decide +kernel
theorem dL_law_261 : decode cL_law 261 = .ok (.aload_n 0, 1) := by decide +kernel
theorem dL_law_262 : decode cL_law 262 = .ok (.iload_n 3, 1) := by decide +kernel
theorem dL_law_263 : decode cL_law 263 = .ok (.iconst 3, 1) := by decide +kernel
theorem dL_law_264 : decode cL_law 264 = .ok (.iadd, 1) := by decide +kernel
theorem dL_law_265 : decode cL_law 265 = .ok (.iaload, 1) := by decide +kernel
theorem dL_law_266 : decode cL_law 266 = .ok (.aload_n 0, 1) := by decide +kernel
theorem dL_law_267 : decode cL_law 267 = .ok (.iload_n 3, 1) := by decide +kernel
theorem dL_law_268 : decode cL_law 268 = .ok (.iconst 4, 1) := by decide +kernel
theorem dL_law_269 : decode cL_law 269 = .ok (.iadd, 1) := by decide +kernel
theorem dL_law_270 : decode cL_law 270 = .ok (.iaload, 1) := by decide +kernel
theorem dL_law_271 : decode cL_law 271 = .ok (.aload_n 0, 1) := by decide +kernel
theorem dL_law_272 : decode cL_law 272 = .ok (.iload_n 3, 1) := by decide +kernel
theorem dL_law_273 : decode cL_law 273 = .ok (.iconst 5, 1) := by decide +kernel
theorem dL_law_274 : decode cL_law 274 = .ok (.iadd, 1) := by decide +kernel
theorem dL_law_275 : decode cL_law 275 = .ok (.iaload, 1) := by decide +kernel
theorem dL_law_276 : decode cL_law 276 = .ok (.invokevirtual 22, 3) := by decide +kernel
theorem dL_law_279 : decode cL_law 279 = .ok (.aload_n 2, 1) := by decide +kernel
theorem dL_law_280 : decode cL_law 280 = .ok (.aload_n 0, 1) := by decide +kernel
theorem dL_law_281 : decode cL_law 281 = .ok (.iload_n 3, 1) := by decide +kernel
theorem dL_law_282 : decode cL_law 282 = .ok (.iconst 1, 1) := by decide +kernel
theorem dL_law_283 : decode cL_law 283 = .ok (.iadd, 1) := by decide +kernel
theorem dL_law_284 : decode cL_law 284 = .ok (.iaload, 1) := by decide +kernel
theorem dL_law_285 : decode cL_law 285 = .ok (.aload_n 0, 1) := by decide +kernel
theorem dL_law_286 : decode cL_law 286 = .ok (.iload_n 3, 1) := by decide +kernel
theorem dL_law_287 : decode cL_law 287 = .ok (.iconst 2, 1) := by decide +kernel
theorem dL_law_288 : decode cL_law 288 = .ok (.iadd, 1) := by decide +kernel
theorem dL_law_289 : decode cL_law 289 = .ok (.iaload, 1) := by decide +kernel
theorem dL_law_290 : decode cL_law 290 = .ok (.aload_n 0, 1) := by decide +kernel
theorem dL_law_291 : decode cL_law 291 = .ok (.iload_n 3, 1) := by decide +kernel
theorem dL_law_292 : decode cL_law 292 = .ok (.iconst 3, 1) := by decide +kernel
theorem dL_law_293 : decode cL_law 293 = .ok (.iadd, 1) := by decide +kernel
theorem dL_law_294 : decode cL_law 294 = .ok (.iaload, 1) := by decide +kernel
theorem dL_law_295 : decode cL_law 295 = .ok (.aload_n 0, 1) := by decide +kernel
theorem dL_law_296 : decode cL_law 296 = .ok (.iload_n 3, 1) := by decide +kernel
theorem dL_law_297 : decode cL_law 297 = .ok (.iconst 4, 1) := by decide +kernel
theorem dL_law_298 : decode cL_law 298 = .ok (.iadd, 1) := by decide +kernel
theorem dL_law_299 : decode cL_law 299 = .ok (.iaload, 1) := by decide +kernel
theorem dL_law_300 : decode cL_law 300 = .ok (.aload_n 0, 1) := by decide +kernel
theorem dL_law_301 : decode cL_law 301 = .ok (.iload_n 3, 1) := by decide +kernel
theorem dL_law_302 : decode cL_law 302 = .ok (.iconst 5, 1) := by decide +kernel
theorem dL_law_303 : decode cL_law 303 = .ok (.iadd, 1) := by decide +kernel
theorem dL_law_304 : decode cL_law 304 = .ok (.iaload, 1) := by decide +kernel
theorem dL_law_305 : decode cL_law 305 = .ok (.invokevirtual 26, 3) := by decide +kernel
theorem dL_law_308 : decode cL_law 308 = .ok (.if_icmp .eq 1322, 3) := by decide +kernel
theorem dL_law_311 : decode cL_law 311 = .ok (.iconst 0, 1) := by decide +kernel
theorem dL_law_312 : decode cL_law 312 = .ok (.ireturn, 1) := by decide +kernel
theorem dL_law_313 : decode cL_law 313 = .ok (.aload_n 1, 1) := by decide +kernel
theorem dL_law_314 : decode cL_law 314 = .ok (.aload_n 0, 1) := by decide +kernel
theorem dL_law_315 : decode cL_law 315 = .ok (.iload_n 3, 1) := by decide +kernel
theorem dL_law_316 : decode cL_law 316 = .ok (.iconst 1, 1) := by decide +kernel
theorem dL_law_317 : decode cL_law 317 = .ok (.iadd, 1) := by decide +kernel
theorem dL_law_318 : decode cL_law 318 = .ok (.iaload, 1) := by decide +kernel
theorem dL_law_319 : decode cL_law 319 = .ok (.aload_n 0, 1) := by decide +kernel
theorem dL_law_320 : decode cL_law 320 = .ok (.iload_n 3, 1) := by decide +kernel
theorem dL_law_321 : decode cL_law 321 = .ok (.iconst 2, 1) := by decide +kernel
theorem dL_law_322 : decode cL_law 322 = .ok (.iadd, 1) := by decide +kernel
theorem dL_law_323 : decode cL_law 323 = .ok (.iaload, 1) := by decide +kernel
theorem dL_law_324 : decode cL_law 324 = .ok (.aload_n 0, 1) := by decide +kernel
theorem dL_law_325 : decode cL_law 325 = .ok (.iload_n 3, 1) := by decide +kernel
theorem dL_law_326 : decode cL_law 326 = .ok (.iconst 3, 1) := by decide +kernel
theorem dL_law_327 : decode cL_law 327 = .ok (.iadd, 1) := by decide +kernel
theorem dL_law_328 : decode cL_law 328 = .ok (.iaload, 1) := by decide +kernel
theorem dL_law_329 : decode cL_law 329 = .ok (.aload_n 0, 1) := by decide +kernel
theorem dL_law_330 : decode cL_law 330 = .ok (.iload_n 3, 1) := by decide +kernel
theorem dL_law_331 : decode cL_law 331 = .ok (.iconst 4, 1) := by decide +kernel
theorem dL_law_332 : decode cL_law 332 = .ok (.iadd, 1) := by decide +kernel
theorem dL_law_333 : decode cL_law 333 = .ok (.iaload, 1) := by decide +kernel
theorem dL_law_334 : decode cL_law 334 = .ok (.aload_n 0, 1) := by decide +kernel
theorem dL_law_335 : decode cL_law 335 = .ok (.iload_n 3, 1) := by decide +kernel
theorem dL_law_336 : decode cL_law 336 = .ok (.iconst 5, 1) := by decide +kernel
theorem dL_law_337 : decode cL_law 337 = .ok (.iadd, 1) := by decide +kernel
theorem dL_law_338 : decode cL_law 338 = .ok (.iaload, 1) := by decide +kernel
theorem dL_law_339 : decode cL_law 339 = .ok (.invokevirtual 27, 3) := by decide +kernel
theorem dL_law_342 : decode cL_law 342 = .ok (.aload_n 2, 1) := by decide +kernel
theorem dL_law_343 : decode cL_law 343 = .ok (.aload_n 0, 1) := by decide +kernel
theorem dL_law_344 : decode cL_law 344 = .ok (.iload_n 3, 1) := by decide +kernel
theorem dL_law_345 : decode cL_law 345 = .ok (.iconst 1, 1) := by decide +kernel
theorem dL_law_346 : decode cL_law 346 = .ok (.iadd, 1) := by decide +kernel
theorem dL_law_347 : decode cL_law 347 = .ok (.iaload, 1) := by decide +kernel
theorem dL_law_348 : decode cL_law 348 = .ok (.aload_n 0, 1) := by decide +kernel
theorem dL_law_349 : decode cL_law 349 = .ok (.iload_n 3, 1) := by decide +kernel
theorem dL_law_350 : decode cL_law 350 = .ok (.iconst 2, 1) := by decide +kernel
theorem dL_law_351 : decode cL_law 351 = .ok (.iadd, 1) := by decide +kernel
theorem dL_law_352 : decode cL_law 352 = .ok (.iaload, 1) := by decide +kernel
theorem dL_law_353 : decode cL_law 353 = .ok (.aload_n 0, 1) := by decide +kernel
theorem dL_law_354 : decode cL_law 354 = .ok (.iload_n 3, 1) := by decide +kernel
theorem dL_law_355 : decode cL_law 355 = .ok (.iconst 3, 1) := by decide +kernel
theorem dL_law_356 : decode cL_law 356 = .ok (.iadd, 1) := by decide +kernel
theorem dL_law_357 : decode cL_law 357 = .ok (.iaload, 1) := by decide +kernel
theorem dL_law_358 : decode cL_law 358 = .ok (.aload_n 0, 1) := by decide +kernel
theorem dL_law_359 : decode cL_law 359 = .ok (.iload_n 3, 1) := by decide +kernel
theorem dL_law_360 : decode cL_law 360 = .ok (.iconst 4, 1) := by decide +kernel
theorem dL_law_361 : decode cL_law 361 = .ok (.iadd, 1) := by decide +kernel
theorem dL_law_362 : decode cL_law 362 = .ok (.iaload, 1) := by decide +kernel
theorem dL_law_363 : decode cL_law 363 = .ok (.aload_n 0, 1) := by decide +kernel
theorem dL_law_364 : decode cL_law 364 = .ok (.iload_n 3, 1) := by decide +kernel
theorem dL_law_365 : decode cL_law 365 = .ok (.iconst 5, 1) := by decide +kernel
theorem dL_law_366 : decode cL_law 366 = .ok (.iadd, 1) := by decide +kernel
theorem dL_law_367 : decode cL_law 367 = .ok (.iaload, 1) := by decide +kernel
theorem dL_law_368 : decode cL_law 368 = .ok (.invokevirtual 30, 3) := by decide +kernel
theorem dL_law_371 : decode cL_law 371 = .ok (.if_icmp .eq 1259, 3) := by decide +kernel
theorem dL_law_374 : decode cL_law 374 = .ok (.iconst 0, 1) := by decide +kernel
theorem dL_law_375 : decode cL_law 375 = .ok (.ireturn, 1) := by decide +kernel
theorem dL_law_376 : decode cL_law 376 = .ok (.aload_n 1, 1) := by decide +kernel
theorem dL_law_377 : decode cL_law 377 = .ok (.aload_n 0, 1) := by decide +kernel
theorem dL_law_378 : decode cL_law 378 = .ok (.iload_n 3, 1) := by decide +kernel
theorem dL_law_379 : decode cL_law 379 = .ok (.iconst 1, 1) := by decide +kernel
theorem dL_law_380 : decode cL_law 380 = .ok (.iadd, 1) := by decide +kernel
theorem dL_law_381 : decode cL_law 381 = .ok (.iaload, 1) := by decide +kernel
theorem dL_law_382 : decode cL_law 382 = .ok (.aload_n 0, 1) := by decide +kernel
theorem dL_law_383 : decode cL_law 383 = .ok (.iload_n 3, 1) := by decide +kernel
theorem dL_law_384 : decode cL_law 384 = .ok (.iconst 2, 1) := by decide +kernel
theorem dL_law_385 : decode cL_law 385 = .ok (.iadd, 1) := by decide +kernel
theorem dL_law_386 : decode cL_law 386 = .ok (.iaload, 1) := by decide +kernel
theorem dL_law_387 : decode cL_law 387 = .ok (.invokevirtual 31, 3) := by decide +kernel
theorem dL_law_390 : decode cL_law 390 = .ok (.aload_n 2, 1) := by decide +kernel
theorem dL_law_391 : decode cL_law 391 = .ok (.aload_n 0, 1) := by decide +kernel
theorem dL_law_392 : decode cL_law 392 = .ok (.iload_n 3, 1) := by decide +kernel
theorem dL_law_393 : decode cL_law 393 = .ok (.iconst 1, 1) := by decide +kernel
theorem dL_law_394 : decode cL_law 394 = .ok (.iadd, 1) := by decide +kernel
theorem dL_law_395 : decode cL_law 395 = .ok (.iaload, 1) := by decide +kernel
theorem dL_law_396 : decode cL_law 396 = .ok (.aload_n 0, 1) := by decide +kernel
theorem dL_law_397 : decode cL_law 397 = .ok (.iload_n 3, 1) := by decide +kernel
theorem dL_law_398 : decode cL_law 398 = .ok (.iconst 2, 1) := by decide +kernel
theorem dL_law_399 : decode cL_law 399 = .ok (.iadd, 1) := by decide +kernel
theorem dL_law_400 : decode cL_law 400 = .ok (.iaload, 1) := by decide +kernel
theorem dL_law_401 : decode cL_law 401 = .ok (.invokevirtual 35, 3) := by decide +kernel
theorem dL_law_404 : decode cL_law 404 = .ok (.if_icmp .eq 1226, 3) := by decide +kernel
theorem dL_law_407 : decode cL_law 407 = .ok (.iconst 0, 1) := by decide +kernel
theorem dL_law_408 : decode cL_law 408 = .ok (.ireturn, 1) := by decide +kernel
theorem dL_law_409 : decode cL_law 409 = .ok (.aload_n 1, 1) := by decide +kernel
theorem dL_law_410 : decode cL_law 410 = .ok (.aload_n 0, 1) := by decide +kernel
theorem dL_law_411 : decode cL_law 411 = .ok (.iload_n 3, 1) := by decide +kernel
theorem dL_law_412 : decode cL_law 412 = .ok (.iconst 1, 1) := by decide +kernel
theorem dL_law_413 : decode cL_law 413 = .ok (.iadd, 1) := by decide +kernel
theorem dL_law_414 : decode cL_law 414 = .ok (.iaload, 1) := by decide +kernel
theorem dL_law_415 : decode cL_law 415 = .ok (.aload_n 0, 1) := by decide +kernel
theorem dL_law_416 : decode cL_law 416 = .ok (.iload_n 3, 1) := by decide +kernel
theorem dL_law_417 : decode cL_law 417 = .ok (.iconst 2, 1) := by decide +kernel
theorem dL_law_418 : decode cL_law 418 = .ok (.iadd, 1) := by decide +kernel
theorem dL_law_419 : decode cL_law 419 = .ok (.iaload, 1) := by decide +kernel
theorem dL_law_420 : decode cL_law 420 = .ok (.aload_n 0, 1) := by decide +kernel
theorem dL_law_421 : decode cL_law 421 = .ok (.iload_n 3, 1) := by decide +kernel
theorem dL_law_422 : decode cL_law 422 = .ok (.iconst 3, 1) := by decide +kernel
theorem dL_law_423 : decode cL_law 423 = .ok (.iadd, 1) := by decide +kernel
theorem dL_law_424 : decode cL_law 424 = .ok (.iaload, 1) := by decide +kernel
theorem dL_law_425 : decode cL_law 425 = .ok (.aload_n 0, 1) := by decide +kernel
theorem dL_law_426 : decode cL_law 426 = .ok (.iload_n 3, 1) := by decide +kernel
theorem dL_law_427 : decode cL_law 427 = .ok (.iconst 4, 1) := by decide +kernel
theorem dL_law_428 : decode cL_law 428 = .ok (.iadd, 1) := by decide +kernel
theorem dL_law_429 : decode cL_law 429 = .ok (.iaload, 1) := by decide +kernel
theorem dL_law_430 : decode cL_law 430 = .ok (.invokevirtual 36, 3) := by decide +kernel
theorem dL_law_433 : decode cL_law 433 = .ok (.aload_n 2, 1) := by decide +kernel
theorem dL_law_434 : decode cL_law 434 = .ok (.aload_n 0, 1) := by decide +kernel
theorem dL_law_435 : decode cL_law 435 = .ok (.iload_n 3, 1) := by decide +kernel
theorem dL_law_436 : decode cL_law 436 = .ok (.iconst 1, 1) := by decide +kernel
theorem dL_law_437 : decode cL_law 437 = .ok (.iadd, 1) := by decide +kernel
theorem dL_law_438 : decode cL_law 438 = .ok (.iaload, 1) := by decide +kernel
theorem dL_law_439 : decode cL_law 439 = .ok (.aload_n 0, 1) := by decide +kernel
theorem dL_law_440 : decode cL_law 440 = .ok (.iload_n 3, 1) := by decide +kernel
theorem dL_law_441 : decode cL_law 441 = .ok (.iconst 2, 1) := by decide +kernel
theorem dL_law_442 : decode cL_law 442 = .ok (.iadd, 1) := by decide +kernel
theorem dL_law_443 : decode cL_law 443 = .ok (.iaload, 1) := by decide +kernel
theorem dL_law_444 : decode cL_law 444 = .ok (.aload_n 0, 1) := by decide +kernel
theorem dL_law_445 : decode cL_law 445 = .ok (.iload_n 3, 1) := by decide +kernel
theorem dL_law_446 : decode cL_law 446 = .ok (.iconst 3, 1) := by decide +kernel
theorem dL_law_447 : decode cL_law 447 = .ok (.iadd, 1) := by decide +kernel
theorem dL_law_448 : decode cL_law 448 = .ok (.iaload, 1) := by decide +kernel
theorem dL_law_449 : decode cL_law 449 = .ok (.aload_n 0, 1) := by decide +kernel
theorem dL_law_450 : decode cL_law 450 = .ok (.iload_n 3, 1) := by decide +kernel
theorem dL_law_451 : decode cL_law 451 = .ok (.iconst 4, 1) := by decide +kernel
theorem dL_law_452 : decode cL_law 452 = .ok (.iadd, 1) := by decide +kernel
theorem dL_law_453 : decode cL_law 453 = .ok (.iaload, 1) := by decide +kernel
theorem dL_law_454 : decode cL_law 454 = .ok (.invokevirtual 40, 3) := by decide +kernel
theorem dL_law_457 : decode cL_law 457 = .ok (.if_icmp .eq 1173, 3) := by decide +kernel
theorem dL_law_460 : decode cL_law 460 = .ok (.iconst 0, 1) := by decide +kernel
theorem dL_law_461 : decode cL_law 461 = .ok (.ireturn, 1) := by decide +kernel
theorem dL_law_462 : decode cL_law 462 = .ok (.aload_n 1, 1) := by decide +kernel
theorem dL_law_463 : decode cL_law 463 = .ok (.aload_n 0, 1) := by decide +kernel
theorem dL_law_464 : decode cL_law 464 = .ok (.iload_n 3, 1) := by decide +kernel
theorem dL_law_465 : decode cL_law 465 = .ok (.iconst 1, 1) := by decide +kernel
theorem dL_law_466 : decode cL_law 466 = .ok (.iadd, 1) := by decide +kernel
theorem dL_law_467 : decode cL_law 467 = .ok (.iaload, 1) := by decide +kernel
theorem dL_law_468 : decode cL_law 468 = .ok (.invokevirtual 41, 3) := by decide +kernel
theorem dL_law_471 : decode cL_law 471 = .ok (.aload_n 2, 1) := by decide +kernel
theorem dL_law_472 : decode cL_law 472 = .ok (.aload_n 0, 1) := by decide +kernel
theorem dL_law_473 : decode cL_law 473 = .ok (.iload_n 3, 1) := by decide +kernel
theorem dL_law_474 : decode cL_law 474 = .ok (.iconst 1, 1) := by decide +kernel
theorem dL_law_475 : decode cL_law 475 = .ok (.iadd, 1) := by decide +kernel
theorem dL_law_476 : decode cL_law 476 = .ok (.iaload, 1) := by decide +kernel
theorem dL_law_477 : decode cL_law 477 = .ok (.invokevirtual 45, 3) := by decide +kernel
theorem dL_law_480 : decode cL_law 480 = .ok (.if_icmp .eq 1150, 3) := by decide +kernel
theorem dL_law_483 : decode cL_law 483 = .ok (.iconst 0, 1) := by decide +kernel
theorem dL_law_484 : decode cL_law 484 = .ok (.ireturn, 1) := by decide +kernel
theorem dL_law_485 : decode cL_law 485 = .ok (.aload_n 1, 1) := by decide +kernel
theorem dL_law_486 : decode cL_law 486 = .ok (.aload_n 0, 1) := by decide +kernel
theorem dL_law_487 : decode cL_law 487 = .ok (.iload_n 3, 1) := by decide +kernel
theorem dL_law_488 : decode cL_law 488 = .ok (.iconst 1, 1) := by decide +kernel
theorem dL_law_489 : decode cL_law 489 = .ok (.iadd, 1) := by decide +kernel
theorem dL_law_490 : decode cL_law 490 = .ok (.iaload, 1) := by decide +kernel
theorem dL_law_491 : decode cL_law 491 = .ok (.aload_n 0, 1) := by decide +kernel
theorem dL_law_492 : decode cL_law 492 = .ok (.iload_n 3, 1) := by decide +kernel
theorem dL_law_493 : decode cL_law 493 = .ok (.iconst 2, 1) := by decide +kernel
theorem dL_law_494 : decode cL_law 494 = .ok (.iadd, 1) := by decide +kernel
theorem dL_law_495 : decode cL_law 495 = .ok (.iaload, 1) := by decide +kernel
theorem dL_law_496 : decode cL_law 496 = .ok (.invokevirtual 46, 3) := by decide +kernel
theorem dL_law_499 : decode cL_law 499 = .ok (.aload_n 2, 1) := by decide +kernel
theorem dL_law_500 : decode cL_law 500 = .ok (.aload_n 0, 1) := by decide +kernel
theorem dL_law_501 : decode cL_law 501 = .ok (.iload_n 3, 1) := by decide +kernel
theorem dL_law_502 : decode cL_law 502 = .ok (.iconst 1, 1) := by decide +kernel
theorem dL_law_503 : decode cL_law 503 = .ok (.iadd, 1) := by decide +kernel
theorem dL_law_504 : decode cL_law 504 = .ok (.iaload, 1) := by decide +kernel
theorem dL_law_505 : decode cL_law 505 = .ok (.aload_n 0, 1) := by decide +kernel
theorem dL_law_506 : decode cL_law 506 = .ok (.iload_n 3, 1) := by decide +kernel
theorem dL_law_507 : decode cL_law 507 = .ok (.iconst 2, 1) := by decide +kernel
theorem dL_law_508 : decode cL_law 508 = .ok (.iadd, 1) := by decide +kernel
theorem dL_law_509 : decode cL_law 509 = .ok (.iaload, 1) := by decide +kernel
theorem dL_law_510 : decode cL_law 510 = .ok (.invokevirtual 49, 3) := by decide +kernel
theorem dL_law_513 : decode cL_law 513 = .ok (.if_icmp .eq 1117, 3) := by decide +kernel
theorem dL_law_516 : decode cL_law 516 = .ok (.iconst 0, 1) := by decide +kernel
theorem dL_law_517 : decode cL_law 517 = .ok (.ireturn, 1) := by decide +kernel
theorem dL_law_518 : decode cL_law 518 = .ok (.aload_n 1, 1) := by decide +kernel
theorem dL_law_519 : decode cL_law 519 = .ok (.aload_n 0, 1) := by decide +kernel
theorem dL_law_520 : decode cL_law 520 = .ok (.iload_n 3, 1) := by decide +kernel
theorem dL_law_521 : decode cL_law 521 = .ok (.iconst 1, 1) := by decide +kernel
theorem dL_law_522 : decode cL_law 522 = .ok (.iadd, 1) := by decide +kernel
theorem dL_law_523 : decode cL_law 523 = .ok (.iaload, 1) := by decide +kernel
theorem dL_law_524 : decode cL_law 524 = .ok (.aload_n 0, 1) := by decide +kernel
theorem dL_law_525 : decode cL_law 525 = .ok (.iload_n 3, 1) := by decide +kernel
theorem dL_law_526 : decode cL_law 526 = .ok (.iconst 2, 1) := by decide +kernel
theorem dL_law_527 : decode cL_law 527 = .ok (.iadd, 1) := by decide +kernel
theorem dL_law_528 : decode cL_law 528 = .ok (.iaload, 1) := by decide +kernel
theorem dL_law_529 : decode cL_law 529 = .ok (.invokevirtual 50, 3) := by decide +kernel
theorem dL_law_532 : decode cL_law 532 = .ok (.aload_n 2, 1) := by decide +kernel
theorem dL_law_533 : decode cL_law 533 = .ok (.aload_n 0, 1) := by decide +kernel
theorem dL_law_534 : decode cL_law 534 = .ok (.iload_n 3, 1) := by decide +kernel
theorem dL_law_535 : decode cL_law 535 = .ok (.iconst 1, 1) := by decide +kernel
theorem dL_law_536 : decode cL_law 536 = .ok (.iadd, 1) := by decide +kernel
theorem dL_law_537 : decode cL_law 537 = .ok (.iaload, 1) := by decide +kernel
theorem dL_law_538 : decode cL_law 538 = .ok (.aload_n 0, 1) := by decide +kernel
theorem dL_law_539 : decode cL_law 539 = .ok (.iload_n 3, 1) := by decide +kernel
theorem dL_law_540 : decode cL_law 540 = .ok (.iconst 2, 1) := by decide +kernel
theorem dL_law_541 : decode cL_law 541 = .ok (.iadd, 1) := by decide +kernel
theorem dL_law_542 : decode cL_law 542 = .ok (.iaload, 1) := by decide +kernel
theorem dL_law_543 : decode cL_law 543 = .ok (.invokevirtual 53, 3) := by decide +kernel
theorem dL_law_546 : decode cL_law 546 = .ok (.if_icmp .eq 1084, 3) := by decide +kernel
theorem dL_law_549 : decode cL_law 549 = .ok (.iconst 0, 1) := by decide +kernel
theorem dL_law_550 : decode cL_law 550 = .ok (.ireturn, 1) := by decide +kernel
theorem dL_law_551 : decode cL_law 551 = .ok (.aload_n 1, 1) := by decide +kernel
theorem dL_law_552 : decode cL_law 552 = .ok (.aload_n 0, 1) := by decide +kernel
theorem dL_law_553 : decode cL_law 553 = .ok (.iload_n 3, 1) := by decide +kernel
theorem dL_law_554 : decode cL_law 554 = .ok (.iconst 1, 1) := by decide +kernel
theorem dL_law_555 : decode cL_law 555 = .ok (.iadd, 1) := by decide +kernel
theorem dL_law_556 : decode cL_law 556 = .ok (.iaload, 1) := by decide +kernel
theorem dL_law_557 : decode cL_law 557 = .ok (.aload_n 0, 1) := by decide +kernel
theorem dL_law_558 : decode cL_law 558 = .ok (.iload_n 3, 1) := by decide +kernel
theorem dL_law_559 : decode cL_law 559 = .ok (.iconst 2, 1) := by decide +kernel
theorem dL_law_560 : decode cL_law 560 = .ok (.iadd, 1) := by decide +kernel
theorem dL_law_561 : decode cL_law 561 = .ok (.iaload, 1) := by decide +kernel
theorem dL_law_562 : decode cL_law 562 = .ok (.aload_n 0, 1) := by decide +kernel
theorem dL_law_563 : decode cL_law 563 = .ok (.iload_n 3, 1) := by decide +kernel
theorem dL_law_564 : decode cL_law 564 = .ok (.iconst 3, 1) := by decide +kernel
theorem dL_law_565 : decode cL_law 565 = .ok (.iadd, 1) := by decide +kernel
theorem dL_law_566 : decode cL_law 566 = .ok (.iaload, 1) := by decide +kernel
theorem dL_law_567 : decode cL_law 567 = .ok (.aload_n 0, 1) := by decide +kernel
theorem dL_law_568 : decode cL_law 568 = .ok (.iload_n 3, 1) := by decide +kernel
theorem dL_law_569 : decode cL_law 569 = .ok (.iconst 4, 1) := by decide +kernel
theorem dL_law_570 : decode cL_law 570 = .ok (.iadd, 1) := by decide +kernel
theorem dL_law_571 : decode cL_law 571 = .ok (.iaload, 1) := by decide +kernel
theorem dL_law_572 : decode cL_law 572 = .ok (.aload_n 0, 1) := by decide +kernel
theorem dL_law_573 : decode cL_law 573 = .ok (.iload_n 3, 1) := by decide +kernel
theorem dL_law_574 : decode cL_law 574 = .ok (.iconst 5, 1) := by decide +kernel
theorem dL_law_575 : decode cL_law 575 = .ok (.iadd, 1) := by decide +kernel
theorem dL_law_576 : decode cL_law 576 = .ok (.iaload, 1) := by decide +kernel
theorem dL_law_577 : decode cL_law 577 = .ok (.invokevirtual 54, 3) := by decide +kernel
theorem dL_law_580 : decode cL_law 580 = .ok (.aload_n 2, 1) := by decide +kernel
theorem dL_law_581 : decode cL_law 581 = .ok (.aload_n 0, 1) := by decide +kernel
theorem dL_law_582 : decode cL_law 582 = .ok (.iload_n 3, 1) := by decide +kernel
theorem dL_law_583 : decode cL_law 583 = .ok (.iconst 1, 1) := by decide +kernel
theorem dL_law_584 : decode cL_law 584 = .ok (.iadd, 1) := by decide +kernel
theorem dL_law_585 : decode cL_law 585 = .ok (.iaload, 1) := by decide +kernel
theorem dL_law_586 : decode cL_law 586 = .ok (.aload_n 0, 1) := by decide +kernel
theorem dL_law_587 : decode cL_law 587 = .ok (.iload_n 3, 1) := by decide +kernel
theorem dL_law_588 : decode cL_law 588 = .ok (.iconst 2, 1) := by decide +kernel
theorem dL_law_589 : decode cL_law 589 = .ok (.iadd, 1) := by decide +kernel
theorem dL_law_590 : decode cL_law 590 = .ok (.iaload, 1) := by decide +kernel
theorem dL_law_591 : decode cL_law 591 = .ok (.aload_n 0, 1) := by decide +kernel
theorem dL_law_592 : decode cL_law 592 = .ok (.iload_n 3, 1) := by decide +kernel
theorem dL_law_593 : decode cL_law 593 = .ok (.iconst 3, 1) := by decide +kernel
theorem dL_law_594 : decode cL_law 594 = .ok (.iadd, 1) := by decide +kernel
theorem dL_law_595 : decode cL_law 595 = .ok (.iaload, 1) := by decide +kernel
theorem dL_law_596 : decode cL_law 596 = .ok (.aload_n 0, 1) := by decide +kernel
theorem dL_law_597 : decode cL_law 597 = .ok (.iload_n 3, 1) := by decide +kernel
theorem dL_law_598 : decode cL_law 598 = .ok (.iconst 4, 1) := by decide +kernel
theorem dL_law_599 : decode cL_law 599 = .ok (.iadd, 1) := by decide +kernel
theorem dL_law_600 : decode cL_law 600 = .ok (.iaload, 1) := by decide +kernel
theorem dL_law_601 : decode cL_law 601 = .ok (.aload_n 0, 1) := by decide +kernel
theorem dL_law_602 : decode cL_law 602 = .ok (.iload_n 3, 1) := by decide +kernel
theorem dL_law_603 : decode cL_law 603 = .ok (.iconst 5, 1) := by decide +kernel
theorem dL_law_604 : decode cL_law 604 = .ok (.iadd, 1) := by decide +kernel
theorem dL_law_605 : decode cL_law 605 = .ok (.iaload, 1) := by decide +kernel
theorem dL_law_606 : decode cL_law 606 = .ok (.invokevirtual 57, 3) := by decide +kernel
theorem dL_law_609 : decode cL_law 609 = .ok (.if_icmp .eq 1021, 3) := by decide +kernel
theorem dL_law_612 : decode cL_law 612 = .ok (.iconst 0, 1) := by decide +kernel
theorem dL_law_613 : decode cL_law 613 = .ok (.ireturn, 1) := by decide +kernel
theorem dL_law_614 : decode cL_law 614 = .ok (.aload_n 1, 1) := by decide +kernel
theorem dL_law_615 : decode cL_law 615 = .ok (.aload_n 0, 1) := by decide +kernel
theorem dL_law_616 : decode cL_law 616 = .ok (.iload_n 3, 1) := by decide +kernel
theorem dL_law_617 : decode cL_law 617 = .ok (.iconst 1, 1) := by decide +kernel
theorem dL_law_618 : decode cL_law 618 = .ok (.iadd, 1) := by decide +kernel
theorem dL_law_619 : decode cL_law 619 = .ok (.iaload, 1) := by decide +kernel
theorem dL_law_620 : decode cL_law 620 = .ok (.aload_n 0, 1) := by decide +kernel
theorem dL_law_621 : decode cL_law 621 = .ok (.iload_n 3, 1) := by decide +kernel
theorem dL_law_622 : decode cL_law 622 = .ok (.iconst 2, 1) := by decide +kernel
theorem dL_law_623 : decode cL_law 623 = .ok (.iadd, 1) := by decide +kernel
theorem dL_law_624 : decode cL_law 624 = .ok (.iaload, 1) := by decide +kernel
theorem dL_law_625 : decode cL_law 625 = .ok (.invokevirtual 58, 3) := by decide +kernel
theorem dL_law_628 : decode cL_law 628 = .ok (.aload_n 2, 1) := by decide +kernel
theorem dL_law_629 : decode cL_law 629 = .ok (.aload_n 0, 1) := by decide +kernel
theorem dL_law_630 : decode cL_law 630 = .ok (.iload_n 3, 1) := by decide +kernel
theorem dL_law_631 : decode cL_law 631 = .ok (.iconst 1, 1) := by decide +kernel
theorem dL_law_632 : decode cL_law 632 = .ok (.iadd, 1) := by decide +kernel
theorem dL_law_633 : decode cL_law 633 = .ok (.iaload, 1) := by decide +kernel
theorem dL_law_634 : decode cL_law 634 = .ok (.aload_n 0, 1) := by decide +kernel
theorem dL_law_635 : decode cL_law 635 = .ok (.iload_n 3, 1) := by decide +kernel
theorem dL_law_636 : decode cL_law 636 = .ok (.iconst 2, 1) := by decide +kernel
theorem dL_law_637 : decode cL_law 637 = .ok (.iadd, 1) := by decide +kernel
theorem dL_law_638 : decode cL_law 638 = .ok (.iaload, 1) := by decide +kernel
theorem dL_law_639 : decode cL_law 639 = .ok (.invokevirtual 61, 3) := by decide +kernel
theorem dL_law_642 : decode cL_law 642 = .ok (.if_icmp .eq 988, 3) := by decide +kernel
theorem dL_law_645 : decode cL_law 645 = .ok (.iconst 0, 1) := by decide +kernel
theorem dL_law_646 : decode cL_law 646 = .ok (.ireturn, 1) := by decide +kernel
theorem dL_law_647 : decode cL_law 647 = .ok (.aload_n 1, 1) := by decide +kernel
theorem dL_law_648 : decode cL_law 648 = .ok (.aload_n 0, 1) := by decide +kernel
theorem dL_law_649 : decode cL_law 649 = .ok (.iload_n 3, 1) := by decide +kernel
theorem dL_law_650 : decode cL_law 650 = .ok (.iconst 1, 1) := by decide +kernel
theorem dL_law_651 : decode cL_law 651 = .ok (.iadd, 1) := by decide +kernel
theorem dL_law_652 : decode cL_law 652 = .ok (.iaload, 1) := by decide +kernel
theorem dL_law_653 : decode cL_law 653 = .ok (.invokevirtual 62, 3) := by decide +kernel
theorem dL_law_656 : decode cL_law 656 = .ok (.aload_n 2, 1) := by decide +kernel
theorem dL_law_657 : decode cL_law 657 = .ok (.aload_n 0, 1) := by decide +kernel
theorem dL_law_658 : decode cL_law 658 = .ok (.iload_n 3, 1) := by decide +kernel
theorem dL_law_659 : decode cL_law 659 = .ok (.iconst 1, 1) := by decide +kernel
theorem dL_law_660 : decode cL_law 660 = .ok (.iadd, 1) := by decide +kernel
theorem dL_law_661 : decode cL_law 661 = .ok (.iaload, 1) := by decide +kernel
theorem dL_law_662 : decode cL_law 662 = .ok (.invokevirtual 65, 3) := by decide +kernel
theorem dL_law_665 : decode cL_law 665 = .ok (.if_icmp .eq 965, 3) := by decide +kernel
theorem dL_law_668 : decode cL_law 668 = .ok (.iconst 0, 1) := by decide +kernel
theorem dL_law_669 : decode cL_law 669 = .ok (.ireturn, 1) := by decide +kernel
theorem dL_law_670 : decode cL_law 670 = .ok (.aload_n 1, 1) := by decide +kernel
theorem dL_law_671 : decode cL_law 671 = .ok (.invokevirtual 66, 3) := by decide +kernel
theorem dL_law_674 : decode cL_law 674 = .ok (.aload_n 2, 1) := by decide +kernel
theorem dL_law_675 : decode cL_law 675 = .ok (.invokevirtual 69, 3) := by decide +kernel
theorem dL_law_678 : decode cL_law 678 = .ok (.if_icmp .eq 952, 3) := by decide +kernel
theorem dL_law_681 : decode cL_law 681 = .ok (.iconst 0, 1) := by decide +kernel
theorem dL_law_682 : decode cL_law 682 = .ok (.ireturn, 1) := by decide +kernel
theorem dL_law_683 : decode cL_law 683 = .ok (.aload_n 1, 1) := by decide +kernel
theorem dL_law_684 : decode cL_law 684 = .ok (.aload_n 0, 1) := by decide +kernel
theorem dL_law_685 : decode cL_law 685 = .ok (.iload_n 3, 1) := by decide +kernel
theorem dL_law_686 : decode cL_law 686 = .ok (.iconst 1, 1) := by decide +kernel
theorem dL_law_687 : decode cL_law 687 = .ok (.iadd, 1) := by decide +kernel
theorem dL_law_688 : decode cL_law 688 = .ok (.iaload, 1) := by decide +kernel
theorem dL_law_689 : decode cL_law 689 = .ok (.invokevirtual 70, 3) := by decide +kernel
theorem dL_law_692 : decode cL_law 692 = .ok (.aload_n 2, 1) := by decide +kernel
theorem dL_law_693 : decode cL_law 693 = .ok (.aload_n 0, 1) := by decide +kernel
theorem dL_law_694 : decode cL_law 694 = .ok (.iload_n 3, 1) := by decide +kernel
theorem dL_law_695 : decode cL_law 695 = .ok (.iconst 1, 1) := by decide +kernel
theorem dL_law_696 : decode cL_law 696 = .ok (.iadd, 1) := by decide +kernel
theorem dL_law_697 : decode cL_law 697 = .ok (.iaload, 1) := by decide +kernel
theorem dL_law_698 : decode cL_law 698 = .ok (.invokevirtual 73, 3) := by decide +kernel
theorem dL_law_701 : decode cL_law 701 = .ok (.if_icmp .eq 929, 3) := by decide +kernel
theorem dL_law_704 : decode cL_law 704 = .ok (.iconst 0, 1) := by decide +kernel
theorem dL_law_705 : decode cL_law 705 = .ok (.ireturn, 1) := by decide +kernel
theorem dL_law_706 : decode cL_law 706 = .ok (.aload_n 1, 1) := by decide +kernel
theorem dL_law_707 : decode cL_law 707 = .ok (.aload_n 0, 1) := by decide +kernel
theorem dL_law_708 : decode cL_law 708 = .ok (.iload_n 3, 1) := by decide +kernel
theorem dL_law_709 : decode cL_law 709 = .ok (.iconst 1, 1) := by decide +kernel
theorem dL_law_710 : decode cL_law 710 = .ok (.iadd, 1) := by decide +kernel
theorem dL_law_711 : decode cL_law 711 = .ok (.iaload, 1) := by decide +kernel
theorem dL_law_712 : decode cL_law 712 = .ok (.invokevirtual 74, 3) := by decide +kernel
theorem dL_law_715 : decode cL_law 715 = .ok (.aload_n 2, 1) := by decide +kernel
theorem dL_law_716 : decode cL_law 716 = .ok (.aload_n 0, 1) := by decide +kernel
theorem dL_law_717 : decode cL_law 717 = .ok (.iload_n 3, 1) := by decide +kernel
theorem dL_law_718 : decode cL_law 718 = .ok (.iconst 1, 1) := by decide +kernel
theorem dL_law_719 : decode cL_law 719 = .ok (.iadd, 1) := by decide +kernel
theorem dL_law_720 : decode cL_law 720 = .ok (.iaload, 1) := by decide +kernel
theorem dL_law_721 : decode cL_law 721 = .ok (.invokevirtual 77, 3) := by decide +kernel
theorem dL_law_724 : decode cL_law 724 = .ok (.if_icmp .eq 906, 3) := by decide +kernel
theorem dL_law_727 : decode cL_law 727 = .ok (.iconst 0, 1) := by decide +kernel
theorem dL_law_728 : decode cL_law 728 = .ok (.ireturn, 1) := by decide +kernel
theorem dL_law_729 : decode cL_law 729 = .ok (.aload_n 1, 1) := by decide +kernel
theorem dL_law_730 : decode cL_law 730 = .ok (.aload_n 0, 1) := by decide +kernel
theorem dL_law_731 : decode cL_law 731 = .ok (.iload_n 3, 1) := by decide +kernel
theorem dL_law_732 : decode cL_law 732 = .ok (.iconst 1, 1) := by decide +kernel
theorem dL_law_733 : decode cL_law 733 = .ok (.iadd, 1) := by decide +kernel
theorem dL_law_734 : decode cL_law 734 = .ok (.iaload, 1) := by decide +kernel
theorem dL_law_735 : decode cL_law 735 = .ok (.invokevirtual 78, 3) := by decide +kernel
theorem dL_law_738 : decode cL_law 738 = .ok (.aload_n 2, 1) := by decide +kernel
theorem dL_law_739 : decode cL_law 739 = .ok (.aload_n 0, 1) := by decide +kernel
theorem dL_law_740 : decode cL_law 740 = .ok (.iload_n 3, 1) := by decide +kernel
theorem dL_law_741 : decode cL_law 741 = .ok (.iconst 1, 1) := by decide +kernel
theorem dL_law_742 : decode cL_law 742 = .ok (.iadd, 1) := by decide +kernel
theorem dL_law_743 : decode cL_law 743 = .ok (.iaload, 1) := by decide +kernel
theorem dL_law_744 : decode cL_law 744 = .ok (.invokevirtual 81, 3) := by decide +kernel
theorem dL_law_747 : decode cL_law 747 = .ok (.if_icmp .eq 883, 3) := by decide +kernel
theorem dL_law_750 : decode cL_law 750 = .ok (.iconst 0, 1) := by decide +kernel
theorem dL_law_751 : decode cL_law 751 = .ok (.ireturn, 1) := by decide +kernel
theorem dL_law_752 : decode cL_law 752 = .ok (.aload_n 1, 1) := by decide +kernel
theorem dL_law_753 : decode cL_law 753 = .ok (.aload_n 0, 1) := by decide +kernel
theorem dL_law_754 : decode cL_law 754 = .ok (.iload_n 3, 1) := by decide +kernel
theorem dL_law_755 : decode cL_law 755 = .ok (.iconst 1, 1) := by decide +kernel
theorem dL_law_756 : decode cL_law 756 = .ok (.iadd, 1) := by decide +kernel
theorem dL_law_757 : decode cL_law 757 = .ok (.iaload, 1) := by decide +kernel
theorem dL_law_758 : decode cL_law 758 = .ok (.aload_n 0, 1) := by decide +kernel
theorem dL_law_759 : decode cL_law 759 = .ok (.iload_n 3, 1) := by decide +kernel
theorem dL_law_760 : decode cL_law 760 = .ok (.iconst 2, 1) := by decide +kernel
theorem dL_law_761 : decode cL_law 761 = .ok (.iadd, 1) := by decide +kernel
theorem dL_law_762 : decode cL_law 762 = .ok (.iaload, 1) := by decide +kernel
theorem dL_law_763 : decode cL_law 763 = .ok (.invokevirtual 82, 3) := by decide +kernel
theorem dL_law_766 : decode cL_law 766 = .ok (.aload_n 2, 1) := by decide +kernel
theorem dL_law_767 : decode cL_law 767 = .ok (.aload_n 0, 1) := by decide +kernel
theorem dL_law_768 : decode cL_law 768 = .ok (.iload_n 3, 1) := by decide +kernel
theorem dL_law_769 : decode cL_law 769 = .ok (.iconst 1, 1) := by decide +kernel
theorem dL_law_770 : decode cL_law 770 = .ok (.iadd, 1) := by decide +kernel
theorem dL_law_771 : decode cL_law 771 = .ok (.iaload, 1) := by decide +kernel
theorem dL_law_772 : decode cL_law 772 = .ok (.aload_n 0, 1) := by decide +kernel
theorem dL_law_773 : decode cL_law 773 = .ok (.iload_n 3, 1) := by decide +kernel
theorem dL_law_774 : decode cL_law 774 = .ok (.iconst 2, 1) := by decide +kernel
theorem dL_law_775 : decode cL_law 775 = .ok (.iadd, 1) := by decide +kernel
theorem dL_law_776 : decode cL_law 776 = .ok (.iaload, 1) := by decide +kernel
theorem dL_law_777 : decode cL_law 777 = .ok (.invokevirtual 85, 3) := by decide +kernel
theorem dL_law_780 : decode cL_law 780 = .ok (.if_icmp .eq 850, 3) := by decide +kernel
theorem dL_law_783 : decode cL_law 783 = .ok (.iconst 0, 1) := by decide +kernel
theorem dL_law_784 : decode cL_law 784 = .ok (.ireturn, 1) := by decide +kernel
theorem dL_law_785 : decode cL_law 785 = .ok (.aload_n 1, 1) := by decide +kernel
theorem dL_law_786 : decode cL_law 786 = .ok (.aload_n 0, 1) := by decide +kernel
theorem dL_law_787 : decode cL_law 787 = .ok (.iload_n 3, 1) := by decide +kernel
theorem dL_law_788 : decode cL_law 788 = .ok (.iconst 1, 1) := by decide +kernel
theorem dL_law_789 : decode cL_law 789 = .ok (.iadd, 1) := by decide +kernel
theorem dL_law_790 : decode cL_law 790 = .ok (.iaload, 1) := by decide +kernel
theorem dL_law_791 : decode cL_law 791 = .ok (.aload_n 0, 1) := by decide +kernel
theorem dL_law_792 : decode cL_law 792 = .ok (.iload_n 3, 1) := by decide +kernel
theorem dL_law_793 : decode cL_law 793 = .ok (.iconst 2, 1) := by decide +kernel
theorem dL_law_794 : decode cL_law 794 = .ok (.iadd, 1) := by decide +kernel
theorem dL_law_795 : decode cL_law 795 = .ok (.iaload, 1) := by decide +kernel
theorem dL_law_796 : decode cL_law 796 = .ok (.aload_n 0, 1) := by decide +kernel
theorem dL_law_797 : decode cL_law 797 = .ok (.iload_n 3, 1) := by decide +kernel
theorem dL_law_798 : decode cL_law 798 = .ok (.iconst 3, 1) := by decide +kernel
theorem dL_law_799 : decode cL_law 799 = .ok (.iadd, 1) := by decide +kernel
theorem dL_law_800 : decode cL_law 800 = .ok (.iaload, 1) := by decide +kernel
theorem dL_law_801 : decode cL_law 801 = .ok (.invokevirtual 86, 3) := by decide +kernel
theorem dL_law_804 : decode cL_law 804 = .ok (.aload_n 2, 1) := by decide +kernel
theorem dL_law_805 : decode cL_law 805 = .ok (.aload_n 0, 1) := by decide +kernel
theorem dL_law_806 : decode cL_law 806 = .ok (.iload_n 3, 1) := by decide +kernel
theorem dL_law_807 : decode cL_law 807 = .ok (.iconst 1, 1) := by decide +kernel
theorem dL_law_808 : decode cL_law 808 = .ok (.iadd, 1) := by decide +kernel
theorem dL_law_809 : decode cL_law 809 = .ok (.iaload, 1) := by decide +kernel
theorem dL_law_810 : decode cL_law 810 = .ok (.aload_n 0, 1) := by decide +kernel
theorem dL_law_811 : decode cL_law 811 = .ok (.iload_n 3, 1) := by decide +kernel
theorem dL_law_812 : decode cL_law 812 = .ok (.iconst 2, 1) := by decide +kernel
theorem dL_law_813 : decode cL_law 813 = .ok (.iadd, 1) := by decide +kernel
theorem dL_law_814 : decode cL_law 814 = .ok (.iaload, 1) := by decide +kernel
theorem dL_law_815 : decode cL_law 815 = .ok (.aload_n 0, 1) := by decide +kernel
theorem dL_law_816 : decode cL_law 816 = .ok (.iload_n 3, 1) := by decide +kernel
theorem dL_law_817 : decode cL_law 817 = .ok (.iconst 3, 1) := by decide +kernel
theorem dL_law_818 : decode cL_law 818 = .ok (.iadd, 1) := by decide +kernel
theorem dL_law_819 : decode cL_law 819 = .ok (.iaload, 1) := by decide +kernel
theorem dL_law_820 : decode cL_law 820 = .ok (.invokevirtual 90, 3) := by decide +kernel
theorem dL_law_823 : decode cL_law 823 = .ok (.if_icmp .eq 807, 3) := by decide +kernel
theorem dL_law_826 : decode cL_law 826 = .ok (.iconst 0, 1) := by decide +kernel
theorem dL_law_827 : decode cL_law 827 = .ok (.ireturn, 1) := by decide +kernel
theorem dL_law_828 : decode cL_law 828 = .ok (.aload_n 1, 1) := by decide +kernel
theorem dL_law_829 : decode cL_law 829 = .ok (.aload_n 0, 1) := by decide +kernel
theorem dL_law_830 : decode cL_law 830 = .ok (.iload_n 3, 1) := by decide +kernel
theorem dL_law_831 : decode cL_law 831 = .ok (.iconst 1, 1) := by decide +kernel
theorem dL_law_832 : decode cL_law 832 = .ok (.iadd, 1) := by decide +kernel
theorem dL_law_833 : decode cL_law 833 = .ok (.iaload, 1) := by decide +kernel
theorem dL_law_834 : decode cL_law 834 = .ok (.invokevirtual 91, 3) := by decide +kernel
theorem dL_law_837 : decode cL_law 837 = .ok (.aload_n 2, 1) := by decide +kernel
theorem dL_law_838 : decode cL_law 838 = .ok (.aload_n 0, 1) := by decide +kernel
theorem dL_law_839 : decode cL_law 839 = .ok (.iload_n 3, 1) := by decide +kernel
theorem dL_law_840 : decode cL_law 840 = .ok (.iconst 1, 1) := by decide +kernel
theorem dL_law_841 : decode cL_law 841 = .ok (.iadd, 1) := by decide +kernel
theorem dL_law_842 : decode cL_law 842 = .ok (.iaload, 1) := by decide +kernel
theorem dL_law_843 : decode cL_law 843 = .ok (.invokevirtual 94, 3) := by decide +kernel
theorem dL_law_846 : decode cL_law 846 = .ok (.if_icmp .eq 784, 3) := by decide +kernel
theorem dL_law_849 : decode cL_law 849 = .ok (.iconst 0, 1) := by decide +kernel
theorem dL_law_850 : decode cL_law 850 = .ok (.ireturn, 1) := by decide +kernel
theorem dL_law_851 : decode cL_law 851 = .ok (.aload_n 1, 1) := by decide +kernel
theorem dL_law_852 : decode cL_law 852 = .ok (.aload_n 0, 1) := by decide +kernel
theorem dL_law_853 : decode cL_law 853 = .ok (.iload_n 3, 1) := by decide +kernel
theorem dL_law_854 : decode cL_law 854 = .ok (.iconst 1, 1) := by decide +kernel
theorem dL_law_855 : decode cL_law 855 = .ok (.iadd, 1) := by decide +kernel
theorem dL_law_856 : decode cL_law 856 = .ok (.iaload, 1) := by decide +kernel
theorem dL_law_857 : decode cL_law 857 = .ok (.invokevirtual 95, 3) := by decide +kernel
theorem dL_law_860 : decode cL_law 860 = .ok (.aload_n 2, 1) := by decide +kernel
theorem dL_law_861 : decode cL_law 861 = .ok (.aload_n 0, 1) := by decide +kernel
theorem dL_law_862 : decode cL_law 862 = .ok (.iload_n 3, 1) := by decide +kernel
theorem dL_law_863 : decode cL_law 863 = .ok (.iconst 1, 1) := by decide +kernel
theorem dL_law_864 : decode cL_law 864 = .ok (.iadd, 1) := by decide +kernel
theorem dL_law_865 : decode cL_law 865 = .ok (.iaload, 1) := by decide +kernel
theorem dL_law_866 : decode cL_law 866 = .ok (.invokevirtual 98, 3) := by decide +kernel
theorem dL_law_869 : decode cL_law 869 = .ok (.if_icmp .eq 761, 3) := by decide +kernel
theorem dL_law_872 : decode cL_law 872 = .ok (.iconst 0, 1) := by decide +kernel
theorem dL_law_873 : decode cL_law 873 = .ok (.ireturn, 1) := by decide +kernel
theorem dL_law_874 : decode cL_law 874 = .ok (.aload_n 1, 1) := by decide +kernel
theorem dL_law_875 : decode cL_law 875 = .ok (.aload_n 0, 1) := by decide +kernel
theorem dL_law_876 : decode cL_law 876 = .ok (.iload_n 3, 1) := by decide +kernel
theorem dL_law_877 : decode cL_law 877 = .ok (.iconst 1, 1) := by decide +kernel
theorem dL_law_878 : decode cL_law 878 = .ok (.iadd, 1) := by decide +kernel
theorem dL_law_879 : decode cL_law 879 = .ok (.iaload, 1) := by decide +kernel
theorem dL_law_880 : decode cL_law 880 = .ok (.aload_n 0, 1) := by decide +kernel
theorem dL_law_881 : decode cL_law 881 = .ok (.iload_n 3, 1) := by decide +kernel
theorem dL_law_882 : decode cL_law 882 = .ok (.iconst 2, 1) := by decide +kernel
theorem dL_law_883 : decode cL_law 883 = .ok (.iadd, 1) := by decide +kernel
theorem dL_law_884 : decode cL_law 884 = .ok (.iaload, 1) := by decide +kernel
theorem dL_law_885 : decode cL_law 885 = .ok (.invokevirtual 99, 3) := by decide +kernel
theorem dL_law_888 : decode cL_law 888 = .ok (.aload_n 2, 1) := by decide +kernel
theorem dL_law_889 : decode cL_law 889 = .ok (.aload_n 0, 1) := by decide +kernel
theorem dL_law_890 : decode cL_law 890 = .ok (.iload_n 3, 1) := by decide +kernel
theorem dL_law_891 : decode cL_law 891 = .ok (.iconst 1, 1) := by decide +kernel
theorem dL_law_892 : decode cL_law 892 = .ok (.iadd, 1) := by decide +kernel
theorem dL_law_893 : decode cL_law 893 = .ok (.iaload, 1) := by decide +kernel
theorem dL_law_894 : decode cL_law 894 = .ok (.aload_n 0, 1) := by decide +kernel
theorem dL_law_895 : decode cL_law 895 = .ok (.iload_n 3, 1) := by decide +kernel
theorem dL_law_896 : decode cL_law 896 = .ok (.iconst 2, 1) := by decide +kernel
theorem dL_law_897 : decode cL_law 897 = .ok (.iadd, 1) := by decide +kernel
theorem dL_law_898 : decode cL_law 898 = .ok (.iaload, 1) := by decide +kernel
theorem dL_law_899 : decode cL_law 899 = .ok (.invokevirtual 103, 3) := by decide +kernel
theorem dL_law_902 : decode cL_law 902 = .ok (.lcmp, 1) := by decide +kernel
theorem dL_law_903 : decode cL_law 903 = .ok (.ifCond .eq 727, 3) := by decide +kernel
theorem dL_law_906 : decode cL_law 906 = .ok (.iconst 0, 1) := by decide +kernel
theorem dL_law_907 : decode cL_law 907 = .ok (.ireturn, 1) := by decide +kernel
theorem dL_law_908 : decode cL_law 908 = .ok (.aload_n 1, 1) := by decide +kernel
theorem dL_law_909 : decode cL_law 909 = .ok (.aload_n 0, 1) := by decide +kernel
theorem dL_law_910 : decode cL_law 910 = .ok (.iload_n 3, 1) := by decide +kernel
theorem dL_law_911 : decode cL_law 911 = .ok (.iconst 1, 1) := by decide +kernel
theorem dL_law_912 : decode cL_law 912 = .ok (.iadd, 1) := by decide +kernel
theorem dL_law_913 : decode cL_law 913 = .ok (.iaload, 1) := by decide +kernel
theorem dL_law_914 : decode cL_law 914 = .ok (.invokevirtual 104, 3) := by decide +kernel
theorem dL_law_917 : decode cL_law 917 = .ok (.aload_n 2, 1) := by decide +kernel
theorem dL_law_918 : decode cL_law 918 = .ok (.aload_n 0, 1) := by decide +kernel
theorem dL_law_919 : decode cL_law 919 = .ok (.iload_n 3, 1) := by decide +kernel
theorem dL_law_920 : decode cL_law 920 = .ok (.iconst 1, 1) := by decide +kernel
theorem dL_law_921 : decode cL_law 921 = .ok (.iadd, 1) := by decide +kernel
theorem dL_law_922 : decode cL_law 922 = .ok (.iaload, 1) := by decide +kernel
theorem dL_law_923 : decode cL_law 923 = .ok (.invokevirtual 108, 3) := by decide +kernel
theorem dL_law_926 : decode cL_law 926 = .ok (.lcmp, 1) := by decide +kernel
theorem dL_law_927 : decode cL_law 927 = .ok (.ifCond .eq 703, 3) := by decide +kernel
theorem dL_law_930 : decode cL_law 930 = .ok (.iconst 0, 1) := by decide +kernel
theorem dL_law_931 : decode cL_law 931 = .ok (.ireturn, 1) := by decide +kernel
theorem dL_law_932 : decode cL_law 932 = .ok (.aload_n 1, 1) := by decide +kernel
theorem dL_law_933 : decode cL_law 933 = .ok (.aload_n 0, 1) := by decide +kernel
theorem dL_law_934 : decode cL_law 934 = .ok (.iload_n 3, 1) := by decide +kernel
theorem dL_law_935 : decode cL_law 935 = .ok (.iconst 1, 1) := by decide +kernel
theorem dL_law_936 : decode cL_law 936 = .ok (.iadd, 1) := by decide +kernel
theorem dL_law_937 : decode cL_law 937 = .ok (.iaload, 1) := by decide +kernel
theorem dL_law_938 : decode cL_law 938 = .ok (.aload_n 0, 1) := by decide +kernel
theorem dL_law_939 : decode cL_law 939 = .ok (.iload_n 3, 1) := by decide +kernel
theorem dL_law_940 : decode cL_law 940 = .ok (.iconst 2, 1) := by decide +kernel
theorem dL_law_941 : decode cL_law 941 = .ok (.iadd, 1) := by decide +kernel
theorem dL_law_942 : decode cL_law 942 = .ok (.iaload, 1) := by decide +kernel
theorem dL_law_943 : decode cL_law 943 = .ok (.invokevirtual 109, 3) := by decide +kernel
theorem dL_law_946 : decode cL_law 946 = .ok (.aload_n 2, 1) := by decide +kernel
theorem dL_law_947 : decode cL_law 947 = .ok (.aload_n 0, 1) := by decide +kernel
theorem dL_law_948 : decode cL_law 948 = .ok (.iload_n 3, 1) := by decide +kernel
theorem dL_law_949 : decode cL_law 949 = .ok (.iconst 1, 1) := by decide +kernel
theorem dL_law_950 : decode cL_law 950 = .ok (.iadd, 1) := by decide +kernel
theorem dL_law_951 : decode cL_law 951 = .ok (.iaload, 1) := by decide +kernel
theorem dL_law_952 : decode cL_law 952 = .ok (.aload_n 0, 1) := by decide +kernel
theorem dL_law_953 : decode cL_law 953 = .ok (.iload_n 3, 1) := by decide +kernel
theorem dL_law_954 : decode cL_law 954 = .ok (.iconst 2, 1) := by decide +kernel
theorem dL_law_955 : decode cL_law 955 = .ok (.iadd, 1) := by decide +kernel
theorem dL_law_956 : decode cL_law 956 = .ok (.iaload, 1) := by decide +kernel
theorem dL_law_957 : decode cL_law 957 = .ok (.invokevirtual 112, 3) := by decide +kernel
theorem dL_law_960 : decode cL_law 960 = .ok (.if_icmp .eq 670, 3) := by decide +kernel
theorem dL_law_963 : decode cL_law 963 = .ok (.iconst 0, 1) := by decide +kernel
theorem dL_law_964 : decode cL_law 964 = .ok (.ireturn, 1) := by decide +kernel
theorem dL_law_965 : decode cL_law 965 = .ok (.aload_n 1, 1) := by decide +kernel
theorem dL_law_966 : decode cL_law 966 = .ok (.aload_n 0, 1) := by decide +kernel
theorem dL_law_967 : decode cL_law 967 = .ok (.iload_n 3, 1) := by decide +kernel
theorem dL_law_968 : decode cL_law 968 = .ok (.iconst 1, 1) := by decide +kernel
theorem dL_law_969 : decode cL_law 969 = .ok (.iadd, 1) := by decide +kernel
theorem dL_law_970 : decode cL_law 970 = .ok (.iaload, 1) := by decide +kernel
theorem dL_law_971 : decode cL_law 971 = .ok (.aload_n 0, 1) := by decide +kernel
theorem dL_law_972 : decode cL_law 972 = .ok (.iload_n 3, 1) := by decide +kernel
theorem dL_law_973 : decode cL_law 973 = .ok (.iconst 2, 1) := by decide +kernel
theorem dL_law_974 : decode cL_law 974 = .ok (.iadd, 1) := by decide +kernel
theorem dL_law_975 : decode cL_law 975 = .ok (.iaload, 1) := by decide +kernel
theorem dL_law_976 : decode cL_law 976 = .ok (.invokevirtual 113, 3) := by decide +kernel
theorem dL_law_979 : decode cL_law 979 = .ok (.aload_n 2, 1) := by decide +kernel
theorem dL_law_980 : decode cL_law 980 = .ok (.aload_n 0, 1) := by decide +kernel
theorem dL_law_981 : decode cL_law 981 = .ok (.iload_n 3, 1) := by decide +kernel
theorem dL_law_982 : decode cL_law 982 = .ok (.iconst 1, 1) := by decide +kernel
theorem dL_law_983 : decode cL_law 983 = .ok (.iadd, 1) := by decide +kernel
theorem dL_law_984 : decode cL_law 984 = .ok (.iaload, 1) := by decide +kernel
theorem dL_law_985 : decode cL_law 985 = .ok (.aload_n 0, 1) := by decide +kernel
theorem dL_law_986 : decode cL_law 986 = .ok (.iload_n 3, 1) := by decide +kernel
theorem dL_law_987 : decode cL_law 987 = .ok (.iconst 2, 1) := by decide +kernel
theorem dL_law_988 : decode cL_law 988 = .ok (.iadd, 1) := by decide +kernel
theorem dL_law_989 : decode cL_law 989 = .ok (.iaload, 1) := by decide +kernel
theorem dL_law_990 : decode cL_law 990 = .ok (.invokevirtual 116, 3) := by decide +kernel
theorem dL_law_993 : decode cL_law 993 = .ok (.if_icmp .eq 637, 3) := by decide +kernel
theorem dL_law_996 : decode cL_law 996 = .ok (.iconst 0, 1) := by decide +kernel
theorem dL_law_997 : decode cL_law 997 = .ok (.ireturn, 1) := by decide +kernel
theorem dL_law_998 : decode cL_law 998 = .ok (.aload_n 1, 1) := by decide +kernel
theorem dL_law_999 : decode cL_law 999 = .ok (.aload_n 0, 1) := by decide +kernel
theorem dL_law_1000 : decode cL_law 1000 = .ok (.iload_n 3, 1) := by decide +kernel
theorem dL_law_1001 : decode cL_law 1001 = .ok (.iconst 1, 1) := by decide +kernel
theorem dL_law_1002 : decode cL_law 1002 = .ok (.iadd, 1) := by decide +kernel
theorem dL_law_1003 : decode cL_law 1003 = .ok (.iaload, 1) := by decide +kernel
theorem dL_law_1004 : decode cL_law 1004 = .ok (.aload_n 0, 1) := by decide +kernel
theorem dL_law_1005 : decode cL_law 1005 = .ok (.iload_n 3, 1) := by decide +kernel
theorem dL_law_1006 : decode cL_law 1006 = .ok (.iconst 2, 1) := by decide +kernel
theorem dL_law_1007 : decode cL_law 1007 = .ok (.iadd, 1) := by decide +kernel
theorem dL_law_1008 : decode cL_law 1008 = .ok (.iaload, 1) := by decide +kernel
theorem dL_law_1009 : decode cL_law 1009 = .ok (.invokevirtual 117, 3) := by decide +kernel
theorem dL_law_1012 : decode cL_law 1012 = .ok (.aload_n 2, 1) := by decide +kernel
theorem dL_law_1013 : decode cL_law 1013 = .ok (.aload_n 0, 1) := by decide +kernel
theorem dL_law_1014 : decode cL_law 1014 = .ok (.iload_n 3, 1) := by decide +kernel
theorem dL_law_1015 : decode cL_law 1015 = .ok (.iconst 1, 1) := by decide +kernel
theorem dL_law_1016 : decode cL_law 1016 = .ok (.iadd, 1) := by decide +kernel
theorem dL_law_1017 : decode cL_law 1017 = .ok (.iaload, 1) := by decide +kernel
theorem dL_law_1018 : decode cL_law 1018 = .ok (.aload_n 0, 1) := by decide +kernel
theorem dL_law_1019 : decode cL_law 1019 = .ok (.iload_n 3, 1) := by decide +kernel
theorem dL_law_1020 : decode cL_law 1020 = .ok (.iconst 2, 1) := by decide +kernel
theorem dL_law_1021 : decode cL_law 1021 = .ok (.iadd, 1) := by decide +kernel
theorem dL_law_1022 : decode cL_law 1022 = .ok (.iaload, 1) := by decide +kernel
theorem dL_law_1023 : decode cL_law 1023 = .ok (.invokevirtual 120, 3) := by decide +kernel
theorem dL_law_1026 : decode cL_law 1026 = .ok (.if_icmp .eq 604, 3) := by decide +kernel
theorem dL_law_1029 : decode cL_law 1029 = .ok (.iconst 0, 1) := by decide +kernel
theorem dL_law_1030 : decode cL_law 1030 = .ok (.ireturn, 1) := by decide +kernel
theorem dL_law_1031 : decode cL_law 1031 = .ok (.aload_n 1, 1) := by decide +kernel
theorem dL_law_1032 : decode cL_law 1032 = .ok (.aload_n 0, 1) := by decide +kernel
theorem dL_law_1033 : decode cL_law 1033 = .ok (.iload_n 3, 1) := by decide +kernel
theorem dL_law_1034 : decode cL_law 1034 = .ok (.iconst 1, 1) := by decide +kernel
theorem dL_law_1035 : decode cL_law 1035 = .ok (.iadd, 1) := by decide +kernel
theorem dL_law_1036 : decode cL_law 1036 = .ok (.iaload, 1) := by decide +kernel
theorem dL_law_1037 : decode cL_law 1037 = .ok (.aload_n 0, 1) := by decide +kernel
theorem dL_law_1038 : decode cL_law 1038 = .ok (.iload_n 3, 1) := by decide +kernel
theorem dL_law_1039 : decode cL_law 1039 = .ok (.iconst 2, 1) := by decide +kernel
theorem dL_law_1040 : decode cL_law 1040 = .ok (.iadd, 1) := by decide +kernel
theorem dL_law_1041 : decode cL_law 1041 = .ok (.iaload, 1) := by decide +kernel
theorem dL_law_1042 : decode cL_law 1042 = .ok (.invokevirtual 121, 3) := by decide +kernel
theorem dL_law_1045 : decode cL_law 1045 = .ok (.aload_n 2, 1) := by decide +kernel
theorem dL_law_1046 : decode cL_law 1046 = .ok (.aload_n 0, 1) := by decide +kernel
theorem dL_law_1047 : decode cL_law 1047 = .ok (.iload_n 3, 1) := by decide +kernel
theorem dL_law_1048 : decode cL_law 1048 = .ok (.iconst 1, 1) := by decide +kernel
theorem dL_law_1049 : decode cL_law 1049 = .ok (.iadd, 1) := by decide +kernel
theorem dL_law_1050 : decode cL_law 1050 = .ok (.iaload, 1) := by decide +kernel
theorem dL_law_1051 : decode cL_law 1051 = .ok (.aload_n 0, 1) := by decide +kernel
theorem dL_law_1052 : decode cL_law 1052 = .ok (.iload_n 3, 1) := by decide +kernel
theorem dL_law_1053 : decode cL_law 1053 = .ok (.iconst 2, 1) := by decide +kernel
theorem dL_law_1054 : decode cL_law 1054 = .ok (.iadd, 1) := by decide +kernel
theorem dL_law_1055 : decode cL_law 1055 = .ok (.iaload, 1) := by decide +kernel
theorem dL_law_1056 : decode cL_law 1056 = .ok (.invokevirtual 124, 3) := by decide +kernel
theorem dL_law_1059 : decode cL_law 1059 = .ok (.if_icmp .eq 571, 3) := by decide +kernel
theorem dL_law_1062 : decode cL_law 1062 = .ok (.iconst 0, 1) := by decide +kernel
theorem dL_law_1063 : decode cL_law 1063 = .ok (.ireturn, 1) := by decide +kernel
theorem dL_law_1064 : decode cL_law 1064 = .ok (.aload_n 1, 1) := by decide +kernel
theorem dL_law_1065 : decode cL_law 1065 = .ok (.aload_n 0, 1) := by decide +kernel
theorem dL_law_1066 : decode cL_law 1066 = .ok (.iload_n 3, 1) := by decide +kernel
theorem dL_law_1067 : decode cL_law 1067 = .ok (.iconst 1, 1) := by decide +kernel
theorem dL_law_1068 : decode cL_law 1068 = .ok (.iadd, 1) := by decide +kernel
theorem dL_law_1069 : decode cL_law 1069 = .ok (.iaload, 1) := by decide +kernel
theorem dL_law_1070 : decode cL_law 1070 = .ok (.invokevirtual 125, 3) := by decide +kernel
theorem dL_law_1073 : decode cL_law 1073 = .ok (.aload_n 2, 1) := by decide +kernel
theorem dL_law_1074 : decode cL_law 1074 = .ok (.aload_n 0, 1) := by decide +kernel
theorem dL_law_1075 : decode cL_law 1075 = .ok (.iload_n 3, 1) := by decide +kernel
theorem dL_law_1076 : decode cL_law 1076 = .ok (.iconst 1, 1) := by decide +kernel
theorem dL_law_1077 : decode cL_law 1077 = .ok (.iadd, 1) := by decide +kernel
theorem dL_law_1078 : decode cL_law 1078 = .ok (.iaload, 1) := by decide +kernel
theorem dL_law_1079 : decode cL_law 1079 = .ok (.invokevirtual 128, 3) := by decide +kernel
theorem dL_law_1082 : decode cL_law 1082 = .ok (.if_icmp .eq 548, 3) := by decide +kernel
theorem dL_law_1085 : decode cL_law 1085 = .ok (.iconst 0, 1) := by decide +kernel
theorem dL_law_1086 : decode cL_law 1086 = .ok (.ireturn, 1) := by decide +kernel
theorem dL_law_1087 : decode cL_law 1087 = .ok (.aload_n 1, 1) := by decide +kernel
theorem dL_law_1088 : decode cL_law 1088 = .ok (.aload_n 0, 1) := by decide +kernel
theorem dL_law_1089 : decode cL_law 1089 = .ok (.iload_n 3, 1) := by decide +kernel
theorem dL_law_1090 : decode cL_law 1090 = .ok (.iconst 1, 1) := by decide +kernel
theorem dL_law_1091 : decode cL_law 1091 = .ok (.iadd, 1) := by decide +kernel
theorem dL_law_1092 : decode cL_law 1092 = .ok (.iaload, 1) := by decide +kernel
theorem dL_law_1093 : decode cL_law 1093 = .ok (.aload_n 0, 1) := by decide +kernel
theorem dL_law_1094 : decode cL_law 1094 = .ok (.iload_n 3, 1) := by decide +kernel
theorem dL_law_1095 : decode cL_law 1095 = .ok (.iconst 2, 1) := by decide +kernel
theorem dL_law_1096 : decode cL_law 1096 = .ok (.iadd, 1) := by decide +kernel
theorem dL_law_1097 : decode cL_law 1097 = .ok (.iaload, 1) := by decide +kernel
theorem dL_law_1098 : decode cL_law 1098 = .ok (.aload_n 0, 1) := by decide +kernel
theorem dL_law_1099 : decode cL_law 1099 = .ok (.iload_n 3, 1) := by decide +kernel
theorem dL_law_1100 : decode cL_law 1100 = .ok (.iconst 3, 1) := by decide +kernel
theorem dL_law_1101 : decode cL_law 1101 = .ok (.iadd, 1) := by decide +kernel
theorem dL_law_1102 : decode cL_law 1102 = .ok (.iaload, 1) := by decide +kernel
theorem dL_law_1103 : decode cL_law 1103 = .ok (.invokevirtual 129, 3) := by decide +kernel
theorem dL_law_1106 : decode cL_law 1106 = .ok (.aload_n 2, 1) := by decide +kernel
theorem dL_law_1107 : decode cL_law 1107 = .ok (.aload_n 0, 1) := by decide +kernel
theorem dL_law_1108 : decode cL_law 1108 = .ok (.iload_n 3, 1) := by decide +kernel
theorem dL_law_1109 : decode cL_law 1109 = .ok (.iconst 1, 1) := by decide +kernel
theorem dL_law_1110 : decode cL_law 1110 = .ok (.iadd, 1) := by decide +kernel
theorem dL_law_1111 : decode cL_law 1111 = .ok (.iaload, 1) := by decide +kernel
theorem dL_law_1112 : decode cL_law 1112 = .ok (.aload_n 0, 1) := by decide +kernel
theorem dL_law_1113 : decode cL_law 1113 = .ok (.iload_n 3, 1) := by decide +kernel
theorem dL_law_1114 : decode cL_law 1114 = .ok (.iconst 2, 1) := by decide +kernel
theorem dL_law_1115 : decode cL_law 1115 = .ok (.iadd, 1) := by decide +kernel
theorem dL_law_1116 : decode cL_law 1116 = .ok (.iaload, 1) := by decide +kernel
theorem dL_law_1117 : decode cL_law 1117 = .ok (.aload_n 0, 1) := by decide +kernel
theorem dL_law_1118 : decode cL_law 1118 = .ok (.iload_n 3, 1) := by decide +kernel
theorem dL_law_1119 : decode cL_law 1119 = .ok (.iconst 3, 1) := by decide +kernel
theorem dL_law_1120 : decode cL_law 1120 = .ok (.iadd, 1) := by decide +kernel
theorem dL_law_1121 : decode cL_law 1121 = .ok (.iaload, 1) := by decide +kernel
theorem dL_law_1122 : decode cL_law 1122 = .ok (.invokevirtual 132, 3) := by decide +kernel
theorem dL_law_1125 : decode cL_law 1125 = .ok (.if_icmp .eq 505, 3) := by decide +kernel
theorem dL_law_1128 : decode cL_law 1128 = .ok (.iconst 0, 1) := by decide +kernel
theorem dL_law_1129 : decode cL_law 1129 = .ok (.ireturn, 1) := by decide +kernel
theorem dL_law_1130 : decode cL_law 1130 = .ok (.aload_n 1, 1) := by decide +kernel
theorem dL_law_1131 : decode cL_law 1131 = .ok (.aload_n 0, 1) := by decide +kernel
theorem dL_law_1132 : decode cL_law 1132 = .ok (.iload_n 3, 1) := by decide +kernel
theorem dL_law_1133 : decode cL_law 1133 = .ok (.iconst 1, 1) := by decide +kernel
theorem dL_law_1134 : decode cL_law 1134 = .ok (.iadd, 1) := by decide +kernel
theorem dL_law_1135 : decode cL_law 1135 = .ok (.iaload, 1) := by decide +kernel
theorem dL_law_1136 : decode cL_law 1136 = .ok (.aload_n 0, 1) := by decide +kernel
theorem dL_law_1137 : decode cL_law 1137 = .ok (.iload_n 3, 1) := by decide +kernel
theorem dL_law_1138 : decode cL_law 1138 = .ok (.iconst 2, 1) := by decide +kernel
theorem dL_law_1139 : decode cL_law 1139 = .ok (.iadd, 1) := by decide +kernel
theorem dL_law_1140 : decode cL_law 1140 = .ok (.iaload, 1) := by decide +kernel
theorem dL_law_1141 : decode cL_law 1141 = .ok (.aload_n 0, 1) := by decide +kernel
theorem dL_law_1142 : decode cL_law 1142 = .ok (.iload_n 3, 1) := by decide +kernel
theorem dL_law_1143 : decode cL_law 1143 = .ok (.iconst 3, 1) := by decide +kernel
theorem dL_law_1144 : decode cL_law 1144 = .ok (.iadd, 1) := by decide +kernel
theorem dL_law_1145 : decode cL_law 1145 = .ok (.iaload, 1) := by decide +kernel
theorem dL_law_1146 : decode cL_law 1146 = .ok (.invokevirtual 133, 3) := by decide +kernel
theorem dL_law_1149 : decode cL_law 1149 = .ok (.aload_n 2, 1) := by decide +kernel
theorem dL_law_1150 : decode cL_law 1150 = .ok (.aload_n 0, 1) := by decide +kernel
theorem dL_law_1151 : decode cL_law 1151 = .ok (.iload_n 3, 1) := by decide +kernel
theorem dL_law_1152 : decode cL_law 1152 = .ok (.iconst 1, 1) := by decide +kernel
theorem dL_law_1153 : decode cL_law 1153 = .ok (.iadd, 1) := by decide +kernel
theorem dL_law_1154 : decode cL_law 1154 = .ok (.iaload, 1) := by decide +kernel
theorem dL_law_1155 : decode cL_law 1155 = .ok (.aload_n 0, 1) := by decide +kernel
theorem dL_law_1156 : decode cL_law 1156 = .ok (.iload_n 3, 1) := by decide +kernel
theorem dL_law_1157 : decode cL_law 1157 = .ok (.iconst 2, 1) := by decide +kernel
theorem dL_law_1158 : decode cL_law 1158 = .ok (.iadd, 1) := by decide +kernel
theorem dL_law_1159 : decode cL_law 1159 = .ok (.iaload, 1) := by decide +kernel
theorem dL_law_1160 : decode cL_law 1160 = .ok (.aload_n 0, 1) := by decide +kernel
theorem dL_law_1161 : decode cL_law 1161 = .ok (.iload_n 3, 1) := by decide +kernel
theorem dL_law_1162 : decode cL_law 1162 = .ok (.iconst 3, 1) := by decide +kernel
theorem dL_law_1163 : decode cL_law 1163 = .ok (.iadd, 1) := by decide +kernel
theorem dL_law_1164 : decode cL_law 1164 = .ok (.iaload, 1) := by decide +kernel
theorem dL_law_1165 : decode cL_law 1165 = .ok (.invokevirtual 136, 3) := by decide +kernel
theorem dL_law_1168 : decode cL_law 1168 = .ok (.if_icmp .eq 462, 3) := by decide +kernel
theorem dL_law_1171 : decode cL_law 1171 = .ok (.iconst 0, 1) := by decide +kernel
theorem dL_law_1172 : decode cL_law 1172 = .ok (.ireturn, 1) := by decide +kernel
theorem dL_law_1173 : decode cL_law 1173 = .ok (.aload_n 1, 1) := by decide +kernel
theorem dL_law_1174 : decode cL_law 1174 = .ok (.aload_n 0, 1) := by decide +kernel
theorem dL_law_1175 : decode cL_law 1175 = .ok (.iload_n 3, 1) := by decide +kernel
theorem dL_law_1176 : decode cL_law 1176 = .ok (.iconst 1, 1) := by decide +kernel
theorem dL_law_1177 : decode cL_law 1177 = .ok (.iadd, 1) := by decide +kernel
theorem dL_law_1178 : decode cL_law 1178 = .ok (.iaload, 1) := by decide +kernel
theorem dL_law_1179 : decode cL_law 1179 = .ok (.aload_n 0, 1) := by decide +kernel
theorem dL_law_1180 : decode cL_law 1180 = .ok (.iload_n 3, 1) := by decide +kernel
theorem dL_law_1181 : decode cL_law 1181 = .ok (.iconst 2, 1) := by decide +kernel
theorem dL_law_1182 : decode cL_law 1182 = .ok (.iadd, 1) := by decide +kernel
theorem dL_law_1183 : decode cL_law 1183 = .ok (.iaload, 1) := by decide +kernel
theorem dL_law_1184 : decode cL_law 1184 = .ok (.invokevirtual 137, 3) := by decide +kernel
theorem dL_law_1187 : decode cL_law 1187 = .ok (.aload_n 2, 1) := by decide +kernel
theorem dL_law_1188 : decode cL_law 1188 = .ok (.aload_n 0, 1) := by decide +kernel
theorem dL_law_1189 : decode cL_law 1189 = .ok (.iload_n 3, 1) := by decide +kernel
theorem dL_law_1190 : decode cL_law 1190 = .ok (.iconst 1, 1) := by decide +kernel
theorem dL_law_1191 : decode cL_law 1191 = .ok (.iadd, 1) := by decide +kernel
theorem dL_law_1192 : decode cL_law 1192 = .ok (.iaload, 1) := by decide +kernel
theorem dL_law_1193 : decode cL_law 1193 = .ok (.aload_n 0, 1) := by decide +kernel
theorem dL_law_1194 : decode cL_law 1194 = .ok (.iload_n 3, 1) := by decide +kernel
theorem dL_law_1195 : decode cL_law 1195 = .ok (.iconst 2, 1) := by decide +kernel
theorem dL_law_1196 : decode cL_law 1196 = .ok (.iadd, 1) := by decide +kernel
theorem dL_law_1197 : decode cL_law 1197 = .ok (.iaload, 1) := by decide +kernel
theorem dL_law_1198 : decode cL_law 1198 = .ok (.invokevirtual 140, 3) := by decide +kernel
theorem dL_law_1201 : decode cL_law 1201 = .ok (.if_icmp .eq 429, 3) := by decide +kernel
theorem dL_law_1204 : decode cL_law 1204 = .ok (.iconst 0, 1) := by decide +kernel
theorem dL_law_1205 : decode cL_law 1205 = .ok (.ireturn, 1) := by decide +kernel
theorem dL_law_1206 : decode cL_law 1206 = .ok (.aload_n 1, 1) := by decide +kernel
theorem dL_law_1207 : decode cL_law 1207 = .ok (.aload_n 0, 1) := by decide +kernel
theorem dL_law_1208 : decode cL_law 1208 = .ok (.iload_n 3, 1) := by decide +kernel
theorem dL_law_1209 : decode cL_law 1209 = .ok (.iconst 1, 1) := by decide +kernel
theorem dL_law_1210 : decode cL_law 1210 = .ok (.iadd, 1) := by decide +kernel
theorem dL_law_1211 : decode cL_law 1211 = .ok (.iaload, 1) := by decide +kernel
theorem dL_law_1212 : decode cL_law 1212 = .ok (.invokevirtual 141, 3) := by decide +kernel
theorem dL_law_1215 : decode cL_law 1215 = .ok (.aload_n 2, 1) := by decide +kernel
theorem dL_law_1216 : decode cL_law 1216 = .ok (.aload_n 0, 1) := by decide +kernel
theorem dL_law_1217 : decode cL_law 1217 = .ok (.iload_n 3, 1) := by decide +kernel
theorem dL_law_1218 : decode cL_law 1218 = .ok (.iconst 1, 1) := by decide +kernel
theorem dL_law_1219 : decode cL_law 1219 = .ok (.iadd, 1) := by decide +kernel
theorem dL_law_1220 : decode cL_law 1220 = .ok (.iaload, 1) := by decide +kernel
theorem dL_law_1221 : decode cL_law 1221 = .ok (.invokevirtual 144, 3) := by decide +kernel
theorem dL_law_1224 : decode cL_law 1224 = .ok (.lcmp, 1) := by decide +kernel
theorem dL_law_1225 : decode cL_law 1225 = .ok (.ifCond .eq 405, 3) := by decide +kernel
theorem dL_law_1228 : decode cL_law 1228 = .ok (.iconst 0, 1) := by decide +kernel
theorem dL_law_1229 : decode cL_law 1229 = .ok (.ireturn, 1) := by decide +kernel
theorem dL_law_1230 : decode cL_law 1230 = .ok (.aload_n 1, 1) := by decide +kernel
theorem dL_law_1231 : decode cL_law 1231 = .ok (.invokevirtual 145, 3) := by decide +kernel
theorem dL_law_1234 : decode cL_law 1234 = .ok (.aload_n 2, 1) := by decide +kernel
theorem dL_law_1235 : decode cL_law 1235 = .ok (.invokevirtual 148, 3) := by decide +kernel
theorem dL_law_1238 : decode cL_law 1238 = .ok (.if_icmp .eq 392, 3) := by decide +kernel
theorem dL_law_1241 : decode cL_law 1241 = .ok (.iconst 0, 1) := by decide +kernel
theorem dL_law_1242 : decode cL_law 1242 = .ok (.ireturn, 1) := by decide +kernel
theorem dL_law_1243 : decode cL_law 1243 = .ok (.aload_n 1, 1) := by decide +kernel
theorem dL_law_1244 : decode cL_law 1244 = .ok (.aload_n 0, 1) := by decide +kernel
theorem dL_law_1245 : decode cL_law 1245 = .ok (.iload_n 3, 1) := by decide +kernel
theorem dL_law_1246 : decode cL_law 1246 = .ok (.iconst 1, 1) := by decide +kernel
theorem dL_law_1247 : decode cL_law 1247 = .ok (.iadd, 1) := by decide +kernel
theorem dL_law_1248 : decode cL_law 1248 = .ok (.iaload, 1) := by decide +kernel
theorem dL_law_1249 : decode cL_law 1249 = .ok (.aload_n 0, 1) := by decide +kernel
theorem dL_law_1250 : decode cL_law 1250 = .ok (.iload_n 3, 1) := by decide +kernel
theorem dL_law_1251 : decode cL_law 1251 = .ok (.iconst 2, 1) := by decide +kernel
theorem dL_law_1252 : decode cL_law 1252 = .ok (.iadd, 1) := by decide +kernel
theorem dL_law_1253 : decode cL_law 1253 = .ok (.iaload, 1) := by decide +kernel
theorem dL_law_1254 : decode cL_law 1254 = .ok (.aload_n 0, 1) := by decide +kernel
theorem dL_law_1255 : decode cL_law 1255 = .ok (.iload_n 3, 1) := by decide +kernel
theorem dL_law_1256 : decode cL_law 1256 = .ok (.iconst 3, 1) := by decide +kernel
theorem dL_law_1257 : decode cL_law 1257 = .ok (.iadd, 1) := by decide +kernel
theorem dL_law_1258 : decode cL_law 1258 = .ok (.iaload, 1) := by decide +kernel
theorem dL_law_1259 : decode cL_law 1259 = .ok (.aload_n 0, 1) := by decide +kernel
theorem dL_law_1260 : decode cL_law 1260 = .ok (.iload_n 3, 1) := by decide +kernel
theorem dL_law_1261 : decode cL_law 1261 = .ok (.iconst 4, 1) := by decide +kernel
theorem dL_law_1262 : decode cL_law 1262 = .ok (.iadd, 1) := by decide +kernel
theorem dL_law_1263 : decode cL_law 1263 = .ok (.iaload, 1) := by decide +kernel
theorem dL_law_1264 : decode cL_law 1264 = .ok (.invokevirtual 149, 3) := by decide +kernel
theorem dL_law_1267 : decode cL_law 1267 = .ok (.aload_n 2, 1) := by decide +kernel
theorem dL_law_1268 : decode cL_law 1268 = .ok (.aload_n 0, 1) := by decide +kernel
theorem dL_law_1269 : decode cL_law 1269 = .ok (.iload_n 3, 1) := by decide +kernel
theorem dL_law_1270 : decode cL_law 1270 = .ok (.iconst 1, 1) := by decide +kernel
theorem dL_law_1271 : decode cL_law 1271 = .ok (.iadd, 1) := by decide +kernel
theorem dL_law_1272 : decode cL_law 1272 = .ok (.iaload, 1) := by decide +kernel
theorem dL_law_1273 : decode cL_law 1273 = .ok (.aload_n 0, 1) := by decide +kernel
theorem dL_law_1274 : decode cL_law 1274 = .ok (.iload_n 3, 1) := by decide +kernel
theorem dL_law_1275 : decode cL_law 1275 = .ok (.iconst 2, 1) := by decide +kernel
theorem dL_law_1276 : decode cL_law 1276 = .ok (.iadd, 1) := by decide +kernel
theorem dL_law_1277 : decode cL_law 1277 = .ok (.iaload, 1) := by decide +kernel
theorem dL_law_1278 : decode cL_law 1278 = .ok (.aload_n 0, 1) := by decide +kernel
theorem dL_law_1279 : decode cL_law 1279 = .ok (.iload_n 3, 1) := by decide +kernel
theorem dL_law_1280 : decode cL_law 1280 = .ok (.iconst 3, 1) := by decide +kernel
theorem dL_law_1281 : decode cL_law 1281 = .ok (.iadd, 1) := by decide +kernel
theorem dL_law_1282 : decode cL_law 1282 = .ok (.iaload, 1) := by decide +kernel
theorem dL_law_1283 : decode cL_law 1283 = .ok (.aload_n 0, 1) := by decide +kernel
theorem dL_law_1284 : decode cL_law 1284 = .ok (.iload_n 3, 1) := by decide +kernel
theorem dL_law_1285 : decode cL_law 1285 = .ok (.iconst 4, 1) := by decide +kernel
theorem dL_law_1286 : decode cL_law 1286 = .ok (.iadd, 1) := by decide +kernel
theorem dL_law_1287 : decode cL_law 1287 = .ok (.iaload, 1) := by decide +kernel
theorem dL_law_1288 : decode cL_law 1288 = .ok (.invokevirtual 152, 3) := by decide +kernel
theorem dL_law_1291 : decode cL_law 1291 = .ok (.if_icmp .eq 339, 3) := by decide +kernel
theorem dL_law_1294 : decode cL_law 1294 = .ok (.iconst 0, 1) := by decide +kernel
theorem dL_law_1295 : decode cL_law 1295 = .ok (.ireturn, 1) := by decide +kernel
theorem dL_law_1296 : decode cL_law 1296 = .ok (.aload_n 1, 1) := by decide +kernel
theorem dL_law_1297 : decode cL_law 1297 = .ok (.aload_n 0, 1) := by decide +kernel
theorem dL_law_1298 : decode cL_law 1298 = .ok (.iload_n 3, 1) := by decide +kernel
theorem dL_law_1299 : decode cL_law 1299 = .ok (.iconst 1, 1) := by decide +kernel
theorem dL_law_1300 : decode cL_law 1300 = .ok (.iadd, 1) := by decide +kernel
theorem dL_law_1301 : decode cL_law 1301 = .ok (.iaload, 1) := by decide +kernel
theorem dL_law_1302 : decode cL_law 1302 = .ok (.invokevirtual 153, 3) := by decide +kernel
theorem dL_law_1305 : decode cL_law 1305 = .ok (.aload_n 2, 1) := by decide +kernel
theorem dL_law_1306 : decode cL_law 1306 = .ok (.aload_n 0, 1) := by decide +kernel
theorem dL_law_1307 : decode cL_law 1307 = .ok (.iload_n 3, 1) := by decide +kernel
theorem dL_law_1308 : decode cL_law 1308 = .ok (.iconst 1, 1) := by decide +kernel
theorem dL_law_1309 : decode cL_law 1309 = .ok (.iadd, 1) := by decide +kernel
theorem dL_law_1310 : decode cL_law 1310 = .ok (.iaload, 1) := by decide +kernel
theorem dL_law_1311 : decode cL_law 1311 = .ok (.invokevirtual 156, 3) := by decide +kernel
theorem dL_law_1314 : decode cL_law 1314 = .ok (.if_icmp .eq 316, 3) := by decide +kernel
theorem dL_law_1317 : decode cL_law 1317 = .ok (.iconst 0, 1) := by decide +kernel
theorem dL_law_1318 : decode cL_law 1318 = .ok (.ireturn, 1) := by decide +kernel
theorem dL_law_1319 : decode cL_law 1319 = .ok (.aload_n 1, 1) := by decide +kernel
theorem dL_law_1320 : decode cL_law 1320 = .ok (.aload_n 0, 1) := by decide +kernel
theorem dL_law_1321 : decode cL_law 1321 = .ok (.iload_n 3, 1) := by decide +kernel
theorem dL_law_1322 : decode cL_law 1322 = .ok (.iconst 1, 1) := by decide +kernel
theorem dL_law_1323 : decode cL_law 1323 = .ok (.iadd, 1) := by decide +kernel
theorem dL_law_1324 : decode cL_law 1324 = .ok (.iaload, 1) := by decide +kernel
theorem dL_law_1325 : decode cL_law 1325 = .ok (.aload_n 0, 1) := by decide +kernel
theorem dL_law_1326 : decode cL_law 1326 = .ok (.iload_n 3, 1) := by decide +kernel
theorem dL_law_1327 : decode cL_law 1327 = .ok (.iconst 2, 1) := by decide +kernel
theorem dL_law_1328 : decode cL_law 1328 = .ok (.iadd, 1) := by decide +kernel
theorem dL_law_1329 : decode cL_law 1329 = .ok (.iaload, 1) := by decide +kernel
theorem dL_law_1330 : decode cL_law 1330 = .ok (.invokevirtual 157, 3) := by decide +kernel
theorem dL_law_1333 : decode cL_law 1333 = .ok (.aload_n 2, 1) := by decide +kernel
theorem dL_law_1334 : decode cL_law 1334 = .ok (.aload_n 0, 1) := by decide +kernel
theorem dL_law_1335 : decode cL_law 1335 = .ok (.iload_n 3, 1) := by decide +kernel
theorem dL_law_1336 : decode cL_law 1336 = .ok (.iconst 1, 1) := by decide +kernel
theorem dL_law_1337 : decode cL_law 1337 = .ok (.iadd, 1) := by decide +kernel
theorem dL_law_1338 : decode cL_law 1338 = .ok (.iaload, 1) := by decide +kernel
theorem dL_law_1339 : decode cL_law 1339 = .ok (.aload_n 0, 1) := by decide +kernel
theorem dL_law_1340 : decode cL_law 1340 = .ok (.iload_n 3, 1) := by decide +kernel
theorem dL_law_1341 : decode cL_law 1341 = .ok (.iconst 2, 1) := by decide +kernel
theorem dL_law_1342 : decode cL_law 1342 = .ok (.iadd, 1) := by decide +kernel
theorem dL_law_1343 : decode cL_law 1343 = .ok (.iaload, 1) := by decide +kernel
theorem dL_law_1344 : decode cL_law 1344 = .ok (.invokevirtual 160, 3) := by decide +kernel
theorem dL_law_1347 : decode cL_law 1347 = .ok (.lcmp, 1) := by decide +kernel
theorem dL_law_1348 : decode cL_law 1348 = .ok (.ifCond .eq 282, 3) := by decide +kernel
theorem dL_law_1351 : decode cL_law 1351 = .ok (.iconst 0, 1) := by decide +kernel
theorem dL_law_1352 : decode cL_law 1352 = .ok (.ireturn, 1) := by decide +kernel
theorem dL_law_1353 : decode cL_law 1353 = .ok (.aload_n 1, 1) := by decide +kernel
theorem dL_law_1354 : decode cL_law 1354 = .ok (.aload_n 0, 1) := by decide +kernel
theorem dL_law_1355 : decode cL_law 1355 = .ok (.iload_n 3, 1) := by decide +kernel
theorem dL_law_1356 : decode cL_law 1356 = .ok (.iconst 1, 1) := by decide +kernel
theorem dL_law_1357 : decode cL_law 1357 = .ok (.iadd, 1) := by decide +kernel
theorem dL_law_1358 : decode cL_law 1358 = .ok (.iaload, 1) := by decide +kernel
theorem dL_law_1359 : decode cL_law 1359 = .ok (.aload_n 0, 1) := by decide +kernel
theorem dL_law_1360 : decode cL_law 1360 = .ok (.iload_n 3, 1) := by decide +kernel
theorem dL_law_1361 : decode cL_law 1361 = .ok (.iconst 2, 1) := by decide +kernel
theorem dL_law_1362 : decode cL_law 1362 = .ok (.iadd, 1) := by decide +kernel
theorem dL_law_1363 : decode cL_law 1363 = .ok (.iaload, 1) := by decide +kernel
theorem dL_law_1364 : decode cL_law 1364 = .ok (.invokevirtual 161, 3) := by decide +kernel
theorem dL_law_1367 : decode cL_law 1367 = .ok (.aload_n 2, 1) := by decide +kernel
theorem dL_law_1368 : decode cL_law 1368 = .ok (.aload_n 0, 1) := by decide +kernel
theorem dL_law_1369 : decode cL_law 1369 = .ok (.iload_n 3, 1) := by decide +kernel
theorem dL_law_1370 : decode cL_law 1370 = .ok (.iconst 1, 1) := by decide +kernel
theorem dL_law_1371 : decode cL_law 1371 = .ok (.iadd, 1) := by decide +kernel
theorem dL_law_1372 : decode cL_law 1372 = .ok (.iaload, 1) := by decide +kernel
theorem dL_law_1373 : decode cL_law 1373 = .ok (.aload_n 0, 1) := by decide +kernel
theorem dL_law_1374 : decode cL_law 1374 = .ok (.iload_n 3, 1) := by decide +kernel
theorem dL_law_1375 : decode cL_law 1375 = .ok (.iconst 2, 1) := by decide +kernel
theorem dL_law_1376 : decode cL_law 1376 = .ok (.iadd, 1) := by decide +kernel
theorem dL_law_1377 : decode cL_law 1377 = .ok (.iaload, 1) := by decide +kernel
theorem dL_law_1378 : decode cL_law 1378 = .ok (.invokevirtual 164, 3) := by decide +kernel
theorem dL_law_1381 : decode cL_law 1381 = .ok (.if_icmp .eq 249, 3) := by decide +kernel
theorem dL_law_1384 : decode cL_law 1384 = .ok (.iconst 0, 1) := by decide +kernel
theorem dL_law_1385 : decode cL_law 1385 = .ok (.ireturn, 1) := by decide +kernel
theorem dL_law_1386 : decode cL_law 1386 = .ok (.aload_n 1, 1) := by decide +kernel
theorem dL_law_1387 : decode cL_law 1387 = .ok (.aload_n 0, 1) := by decide +kernel
theorem dL_law_1388 : decode cL_law 1388 = .ok (.iload_n 3, 1) := by decide +kernel
theorem dL_law_1389 : decode cL_law 1389 = .ok (.iconst 1, 1) := by decide +kernel
theorem dL_law_1390 : decode cL_law 1390 = .ok (.iadd, 1) := by decide +kernel
theorem dL_law_1391 : decode cL_law 1391 = .ok (.iaload, 1) := by decide +kernel
theorem dL_law_1392 : decode cL_law 1392 = .ok (.invokevirtual 165, 3) := by decide +kernel
theorem dL_law_1395 : decode cL_law 1395 = .ok (.aload_n 2, 1) := by decide +kernel
theorem dL_law_1396 : decode cL_law 1396 = .ok (.aload_n 0, 1) := by decide +kernel
theorem dL_law_1397 : decode cL_law 1397 = .ok (.iload_n 3, 1) := by decide +kernel
theorem dL_law_1398 : decode cL_law 1398 = .ok (.iconst 1, 1) := by decide +kernel
theorem dL_law_1399 : decode cL_law 1399 = .ok (.iadd, 1) := by decide +kernel
theorem dL_law_1400 : decode cL_law 1400 = .ok (.iaload, 1) := by decide +kernel
theorem dL_law_1401 : decode cL_law 1401 = .ok (.invokevirtual 168, 3) := by decide +kernel
theorem dL_law_1404 : decode cL_law 1404 = .ok (.if_icmp .eq 226, 3) := by decide +kernel
theorem dL_law_1407 : decode cL_law 1407 = .ok (.iconst 0, 1) := by decide +kernel
theorem dL_law_1408 : decode cL_law 1408 = .ok (.ireturn, 1) := by decide +kernel
theorem dL_law_1409 : decode cL_law 1409 = .ok (.aload_n 1, 1) := by decide +kernel
theorem dL_law_1410 : decode cL_law 1410 = .ok (.aload_n 0, 1) := by decide +kernel
theorem dL_law_1411 : decode cL_law 1411 = .ok (.iload_n 3, 1) := by decide +kernel
theorem dL_law_1412 : decode cL_law 1412 = .ok (.iconst 1, 1) := by decide +kernel
theorem dL_law_1413 : decode cL_law 1413 = .ok (.iadd, 1) := by decide +kernel
theorem dL_law_1414 : decode cL_law 1414 = .ok (.iaload, 1) := by decide +kernel
theorem dL_law_1415 : decode cL_law 1415 = .ok (.aload_n 0, 1) := by decide +kernel
theorem dL_law_1416 : decode cL_law 1416 = .ok (.iload_n 3, 1) := by decide +kernel
theorem dL_law_1417 : decode cL_law 1417 = .ok (.iconst 2, 1) := by decide +kernel
theorem dL_law_1418 : decode cL_law 1418 = .ok (.iadd, 1) := by decide +kernel
theorem dL_law_1419 : decode cL_law 1419 = .ok (.iaload, 1) := by decide +kernel
theorem dL_law_1420 : decode cL_law 1420 = .ok (.aload_n 0, 1) := by decide +kernel
theorem dL_law_1421 : decode cL_law 1421 = .ok (.iload_n 3, 1) := by decide +kernel
theorem dL_law_1422 : decode cL_law 1422 = .ok (.iconst 3, 1) := by decide +kernel
theorem dL_law_1423 : decode cL_law 1423 = .ok (.iadd, 1) := by decide +kernel
theorem dL_law_1424 : decode cL_law 1424 = .ok (.iaload, 1) := by decide +kernel
theorem dL_law_1425 : decode cL_law 1425 = .ok (.invokevirtual 169, 3) := by decide +kernel
theorem dL_law_1428 : decode cL_law 1428 = .ok (.aload_n 2, 1) := by decide +kernel
theorem dL_law_1429 : decode cL_law 1429 = .ok (.aload_n 0, 1) := by decide +kernel
theorem dL_law_1430 : decode cL_law 1430 = .ok (.iload_n 3, 1) := by decide +kernel
theorem dL_law_1431 : decode cL_law 1431 = .ok (.iconst 1, 1) := by decide +kernel
theorem dL_law_1432 : decode cL_law 1432 = .ok (.iadd, 1) := by decide +kernel
theorem dL_law_1433 : decode cL_law 1433 = .ok (.iaload, 1) := by decide +kernel
theorem dL_law_1434 : decode cL_law 1434 = .ok (.aload_n 0, 1) := by decide +kernel
theorem dL_law_1435 : decode cL_law 1435 = .ok (.iload_n 3, 1) := by decide +kernel
theorem dL_law_1436 : decode cL_law 1436 = .ok (.iconst 2, 1) := by decide +kernel
theorem dL_law_1437 : decode cL_law 1437 = .ok (.iadd, 1) := by decide +kernel
theorem dL_law_1438 : decode cL_law 1438 = .ok (.iaload, 1) := by decide +kernel
theorem dL_law_1439 : decode cL_law 1439 = .ok (.aload_n 0, 1) := by decide +kernel
theorem dL_law_1440 : decode cL_law 1440 = .ok (.iload_n 3, 1) := by decide +kernel
theorem dL_law_1441 : decode cL_law 1441 = .ok (.iconst 3, 1) := by decide +kernel
theorem dL_law_1442 : decode cL_law 1442 = .ok (.iadd, 1) := by decide +kernel
theorem dL_law_1443 : decode cL_law 1443 = .ok (.iaload, 1) := by decide +kernel
theorem dL_law_1444 : decode cL_law 1444 = .ok (.invokevirtual 172, 3) := by decide +kernel
theorem dL_law_1447 : decode cL_law 1447 = .ok (.if_icmp .eq 183, 3) := by decide +kernel
theorem dL_law_1450 : decode cL_law 1450 = .ok (.iconst 0, 1) := by decide +kernel
theorem dL_law_1451 : decode cL_law 1451 = .ok (.ireturn, 1) := by decide +kernel
theorem dL_law_1452 : decode cL_law 1452 = .ok (.aload_n 1, 1) := by decide +kernel
theorem dL_law_1453 : decode cL_law 1453 = .ok (.aload_n 0, 1) := by decide +kernel
theorem dL_law_1454 : decode cL_law 1454 = .ok (.iload_n 3, 1) := by decide +kernel
theorem dL_law_1455 : decode cL_law 1455 = .ok (.iconst 1, 1) := by decide +kernel
theorem dL_law_1456 : decode cL_law 1456 = .ok (.iadd, 1) := by decide +kernel
theorem dL_law_1457 : decode cL_law 1457 = .ok (.iaload, 1) := by decide +kernel
theorem dL_law_1458 : decode cL_law 1458 = .ok (.invokevirtual 173, 3) := by decide +kernel
theorem dL_law_1461 : decode cL_law 1461 = .ok (.aload_n 2, 1) := by decide +kernel
theorem dL_law_1462 : decode cL_law 1462 = .ok (.aload_n 0, 1) := by decide +kernel
theorem dL_law_1463 : decode cL_law 1463 = .ok (.iload_n 3, 1) := by decide +kernel
theorem dL_law_1464 : decode cL_law 1464 = .ok (.iconst 1, 1) := by decide +kernel
theorem dL_law_1465 : decode cL_law 1465 = .ok (.iadd, 1) := by decide +kernel
theorem dL_law_1466 : decode cL_law 1466 = .ok (.iaload, 1) := by decide +kernel
theorem dL_law_1467 : decode cL_law 1467 = .ok (.invokevirtual 176, 3) := by decide +kernel
theorem dL_law_1470 : decode cL_law 1470 = .ok (.if_icmp .eq 160, 3) := by decide +kernel
theorem dL_law_1473 : decode cL_law 1473 = .ok (.iconst 0, 1) := by decide +kernel
theorem dL_law_1474 : decode cL_law 1474 = .ok (.ireturn, 1) := by decide +kernel
theorem dL_law_1475 : decode cL_law 1475 = .ok (.aload_n 1, 1) := by decide +kernel
theorem dL_law_1476 : decode cL_law 1476 = .ok (.aload_n 0, 1) := by decide +kernel
theorem dL_law_1477 : decode cL_law 1477 = .ok (.iload_n 3, 1) := by decide +kernel
theorem dL_law_1478 : decode cL_law 1478 = .ok (.iconst 1, 1) := by decide +kernel
theorem dL_law_1479 : decode cL_law 1479 = .ok (.iadd, 1) := by decide +kernel
theorem dL_law_1480 : decode cL_law 1480 = .ok (.iaload, 1) := by decide +kernel
theorem dL_law_1481 : decode cL_law 1481 = .ok (.aload_n 0, 1) := by decide +kernel
theorem dL_law_1482 : decode cL_law 1482 = .ok (.iload_n 3, 1) := by decide +kernel
theorem dL_law_1483 : decode cL_law 1483 = .ok (.iconst 2, 1) := by decide +kernel
theorem dL_law_1484 : decode cL_law 1484 = .ok (.iadd, 1) := by decide +kernel
theorem dL_law_1485 : decode cL_law 1485 = .ok (.iaload, 1) := by decide +kernel
theorem dL_law_1486 : decode cL_law 1486 = .ok (.invokevirtual 177, 3) := by decide +kernel
theorem dL_law_1489 : decode cL_law 1489 = .ok (.aload_n 2, 1) := by decide +kernel
theorem dL_law_1490 : decode cL_law 1490 = .ok (.aload_n 0, 1) := by decide +kernel
theorem dL_law_1491 : decode cL_law 1491 = .ok (.iload_n 3, 1) := by decide +kernel
theorem dL_law_1492 : decode cL_law 1492 = .ok (.iconst 1, 1) := by decide +kernel
theorem dL_law_1493 : decode cL_law 1493 = .ok (.iadd, 1) := by decide +kernel
theorem dL_law_1494 : decode cL_law 1494 = .ok (.iaload, 1) := by decide +kernel
theorem dL_law_1495 : decode cL_law 1495 = .ok (.aload_n 0, 1) := by decide +kernel
theorem dL_law_1496 : decode cL_law 1496 = .ok (.iload_n 3, 1) := by decide +kernel
theorem dL_law_1497 : decode cL_law 1497 = .ok (.iconst 2, 1) := by decide +kernel
theorem dL_law_1498 : decode cL_law 1498 = .ok (.iadd, 1) := by decide +kernel
theorem dL_law_1499 : decode cL_law 1499 = .ok (.iaload, 1) := by decide +kernel
theorem dL_law_1500 : decode cL_law 1500 = .ok (.invokevirtual 180, 3) := by decide +kernel
theorem dL_law_1503 : decode cL_law 1503 = .ok (.if_icmp .eq 127, 3) := by decide +kernel
theorem dL_law_1506 : decode cL_law 1506 = .ok (.iconst 0, 1) := by decide +kernel
theorem dL_law_1507 : decode cL_law 1507 = .ok (.ireturn, 1) := by decide +kernel
theorem dL_law_1508 : decode cL_law 1508 = .ok (.aload_n 1, 1) := by decide +kernel
theorem dL_law_1509 : decode cL_law 1509 = .ok (.aload_n 0, 1) := by decide +kernel
theorem dL_law_1510 : decode cL_law 1510 = .ok (.iload_n 3, 1) := by decide +kernel
theorem dL_law_1511 : decode cL_law 1511 = .ok (.iconst 1, 1) := by decide +kernel
theorem dL_law_1512 : decode cL_law 1512 = .ok (.iadd, 1) := by decide +kernel
theorem dL_law_1513 : decode cL_law 1513 = .ok (.iaload, 1) := by decide +kernel
theorem dL_law_1514 : decode cL_law 1514 = .ok (.aload_n 0, 1) := by decide +kernel
theorem dL_law_1515 : decode cL_law 1515 = .ok (.iload_n 3, 1) := by decide +kernel
theorem dL_law_1516 : decode cL_law 1516 = .ok (.iconst 2, 1) := by decide +kernel
theorem dL_law_1517 : decode cL_law 1517 = .ok (.iadd, 1) := by decide +kernel
theorem dL_law_1518 : decode cL_law 1518 = .ok (.iaload, 1) := by decide +kernel
theorem dL_law_1519 : decode cL_law 1519 = .ok (.aload_n 0, 1) := by decide +kernel
theorem dL_law_1520 : decode cL_law 1520 = .ok (.iload_n 3, 1) := by decide +kernel
theorem dL_law_1521 : decode cL_law 1521 = .ok (.iconst 3, 1) := by decide +kernel
theorem dL_law_1522 : decode cL_law 1522 = .ok (.iadd, 1) := by decide +kernel
theorem dL_law_1523 : decode cL_law 1523 = .ok (.iaload, 1) := by decide +kernel
theorem dL_law_1524 : decode cL_law 1524 = .ok (.invokevirtual 181, 3) := by decide +kernel
theorem dL_law_1527 : decode cL_law 1527 = .ok (.aload_n 2, 1) := by decide +kernel
theorem dL_law_1528 : decode cL_law 1528 = .ok (.aload_n 0, 1) := by decide +kernel
theorem dL_law_1529 : decode cL_law 1529 = .ok (.iload_n 3, 1) := by decide +kernel
theorem dL_law_1530 : decode cL_law 1530 = .ok (.iconst 1, 1) := by decide +kernel
theorem dL_law_1531 : decode cL_law 1531 = .ok (.iadd, 1) := by decide +kernel
theorem dL_law_1532 : decode cL_law 1532 = .ok (.iaload, 1) := by decide +kernel
theorem dL_law_1533 : decode cL_law 1533 = .ok (.aload_n 0, 1) := by decide +kernel
theorem dL_law_1534 : decode cL_law 1534 = .ok (.iload_n 3, 1) := by decide +kernel
theorem dL_law_1535 : decode cL_law 1535 = .ok (.iconst 2, 1) := by decide +kernel
theorem dL_law_1536 : decode cL_law 1536 = .ok (.iadd, 1) := by decide +kernel
theorem dL_law_1537 : decode cL_law 1537 = .ok (.iaload, 1) := by decide +kernel
theorem dL_law_1538 : decode cL_law 1538 = .ok (.aload_n 0, 1) := by decide +kernel
theorem dL_law_1539 : decode cL_law 1539 = .ok (.iload_n 3, 1) := by decide +kernel
theorem dL_law_1540 : decode cL_law 1540 = .ok (.iconst 3, 1) := by decide +kernel
theorem dL_law_1541 : decode cL_law 1541 = .ok (.iadd, 1) := by decide +kernel
theorem dL_law_1542 : decode cL_law 1542 = .ok (.iaload, 1) := by decide +kernel
theorem dL_law_1543 : decode cL_law 1543 = .ok (.invokevirtual 184, 3) := by decide +kernel
theorem dL_law_1546 : decode cL_law 1546 = .ok (.if_icmp .eq 84, 3) := by decide +kernel
theorem dL_law_1549 : decode cL_law 1549 = .ok (.iconst 0, 1) := by decide +kernel
theorem dL_law_1550 : decode cL_law 1550 = .ok (.ireturn, 1) := by decide +kernel
theorem dL_law_1551 : decode cL_law 1551 = .ok (.aload_n 1, 1) := by decide +kernel
theorem dL_law_1552 : decode cL_law 1552 = .ok (.aload_n 0, 1) := by decide +kernel
theorem dL_law_1553 : decode cL_law 1553 = .ok (.iload_n 3, 1) := by decide +kernel
theorem dL_law_1554 : decode cL_law 1554 = .ok (.iconst 1, 1) := by decide +kernel
theorem dL_law_1555 : decode cL_law 1555 = .ok (.iadd, 1) := by decide +kernel
theorem dL_law_1556 : decode cL_law 1556 = .ok (.iaload, 1) := by decide +kernel
theorem dL_law_1557 : decode cL_law 1557 = .ok (.aload_n 0, 1) := by decide +kernel
theorem dL_law_1558 : decode cL_law 1558 = .ok (.iload_n 3, 1) := by decide +kernel
theorem dL_law_1559 : decode cL_law 1559 = .ok (.iconst 2, 1) := by decide +kernel
theorem dL_law_1560 : decode cL_law 1560 = .ok (.iadd, 1) := by decide +kernel
theorem dL_law_1561 : decode cL_law 1561 = .ok (.iaload, 1) := by decide +kernel
theorem dL_law_1562 : decode cL_law 1562 = .ok (.invokevirtual 185, 3) := by decide +kernel
theorem dL_law_1565 : decode cL_law 1565 = .ok (.aload_n 2, 1) := by decide +kernel
theorem dL_law_1566 : decode cL_law 1566 = .ok (.aload_n 0, 1) := by decide +kernel
theorem dL_law_1567 : decode cL_law 1567 = .ok (.iload_n 3, 1) := by decide +kernel
theorem dL_law_1568 : decode cL_law 1568 = .ok (.iconst 1, 1) := by decide +kernel
theorem dL_law_1569 : decode cL_law 1569 = .ok (.iadd, 1) := by decide +kernel
theorem dL_law_1570 : decode cL_law 1570 = .ok (.iaload, 1) := by decide +kernel
theorem dL_law_1571 : decode cL_law 1571 = .ok (.aload_n 0, 1) := by decide +kernel
theorem dL_law_1572 : decode cL_law 1572 = .ok (.iload_n 3, 1) := by decide +kernel
theorem dL_law_1573 : decode cL_law 1573 = .ok (.iconst 2, 1) := by decide +kernel
theorem dL_law_1574 : decode cL_law 1574 = .ok (.iadd, 1) := by decide +kernel
theorem dL_law_1575 : decode cL_law 1575 = .ok (.iaload, 1) := by decide +kernel
theorem dL_law_1576 : decode cL_law 1576 = .ok (.invokevirtual 188, 3) := by decide +kernel
theorem dL_law_1579 : decode cL_law 1579 = .ok (.if_icmp .eq 51, 3) := by decide +kernel
theorem dL_law_1582 : decode cL_law 1582 = .ok (.iconst 0, 1) := by decide +kernel
theorem dL_law_1583 : decode cL_law 1583 = .ok (.ireturn, 1) := by decide +kernel
theorem dL_law_1584 : decode cL_law 1584 = .ok (.aload_n 1, 1) := by decide +kernel
theorem dL_law_1585 : decode cL_law 1585 = .ok (.aload_n 0, 1) := by decide +kernel
theorem dL_law_1586 : decode cL_law 1586 = .ok (.iload_n 3, 1) := by decide +kernel
theorem dL_law_1587 : decode cL_law 1587 = .ok (.iconst 1, 1) := by decide +kernel
theorem dL_law_1588 : decode cL_law 1588 = .ok (.iadd, 1) := by decide +kernel
theorem dL_law_1589 : decode cL_law 1589 = .ok (.iaload, 1) := by decide +kernel
theorem dL_law_1590 : decode cL_law 1590 = .ok (.invokevirtual 189, 3) := by decide +kernel
theorem dL_law_1593 : decode cL_law 1593 = .ok (.aload_n 2, 1) := by decide +kernel
theorem dL_law_1594 : decode cL_law 1594 = .ok (.aload_n 0, 1) := by decide +kernel
theorem dL_law_1595 : decode cL_law 1595 = .ok (.iload_n 3, 1) := by decide +kernel
theorem dL_law_1596 : decode cL_law 1596 = .ok (.iconst 1, 1) := by decide +kernel
theorem dL_law_1597 : decode cL_law 1597 = .ok (.iadd, 1) := by decide +kernel
theorem dL_law_1598 : decode cL_law 1598 = .ok (.iaload, 1) := by decide +kernel
theorem dL_law_1599 : decode cL_law 1599 = .ok (.invokevirtual 192, 3) := by decide +kernel
theorem dL_law_1602 : decode cL_law 1602 = .ok (.if_icmp .eq 28, 3) := by decide +kernel
theorem dL_law_1605 : decode cL_law 1605 = .ok (.iconst 0, 1) := by decide +kernel
theorem dL_law_1606 : decode cL_law 1606 = .ok (.ireturn, 1) := by decide +kernel
theorem dL_law_1607 : decode cL_law 1607 = .ok (.aload_n 1, 1) := by decide +kernel
theorem dL_law_1608 : decode cL_law 1608 = .ok (.aload_n 0, 1) := by decide +kernel
theorem dL_law_1609 : decode cL_law 1609 = .ok (.iload_n 3, 1) := by decide +kernel
theorem dL_law_1610 : decode cL_law 1610 = .ok (.iconst 1, 1) := by decide +kernel
theorem dL_law_1611 : decode cL_law 1611 = .ok (.iadd, 1) := by decide +kernel
theorem dL_law_1612 : decode cL_law 1612 = .ok (.iaload, 1) := by decide +kernel
theorem dL_law_1613 : decode cL_law 1613 = .ok (.invokevirtual 193, 3) := by decide +kernel
theorem dL_law_1616 : decode cL_law 1616 = .ok (.aload_n 2, 1) := by decide +kernel
theorem dL_law_1617 : decode cL_law 1617 = .ok (.aload_n 0, 1) := by decide +kernel
theorem dL_law_1618 : decode cL_law 1618 = .ok (.iload_n 3, 1) := by decide +kernel
theorem dL_law_1619 : decode cL_law 1619 = .ok (.iconst 1, 1) := by decide +kernel
theorem dL_law_1620 : decode cL_law 1620 = .ok (.iadd, 1) := by decide +kernel
theorem dL_law_1621 : decode cL_law 1621 = .ok (.iaload, 1) := by decide +kernel
theorem dL_law_1622 : decode cL_law 1622 = .ok (.invokevirtual 196, 3) := by decide +kernel
theorem dL_law_1625 : decode cL_law 1625 = .ok (.if_icmp .eq 5, 3) := by decide +kernel
theorem dL_law_1628 : decode cL_law 1628 = .ok (.iconst 0, 1) := by decide +kernel
theorem dL_law_1629 : decode cL_law 1629 = .ok (.ireturn, 1) := by decide +kernel
theorem dL_law_1630 : decode cL_law 1630 = .ok (.iinc 3 6, 3) := by decide +kernel
theorem dL_law_1633 : decode cL_law 1633 = .ok (.goto (-1615), 3) := by decide +kernel
theorem dL_law_1636 : decode cL_law 1636 = .ok (.iconst 1, 1) := by decide +kernel
theorem dL_law_1637 : decode cL_law 1637 = .ok (.ireturn, 1) := by decide +kernel
def f_Law_law_L18 (sL : Nat) (xs : Nat → Int32) : Nat → Int32 → List xSh → (Nat → Nat → Option Nat) → (Nat → Nat → Int32) → (Nat → Nat → Int64) → Option (Int32 × xH)
  | 0, _, _, _, _, _ => none
  | n + 1, l3, S, Rf, I, L => (if ((nI sL) - (6 : Int32)) < l3 then (some ((1 : Int32), S, I, L, Rf)) else (if (0 ≤ l3 ∧ l3 < nI sL) then (bnd ((xs (Int32.toNatClampNeg l3)) &&& (63 : Int32)) fun x3 => (if x3 = (0 : Int32) then ((f_H_build I L).bind fun q48 => ((f_Md_build q48.2.1 q48.2.2).bind fun q50 => (if q48.1 = q50.1 then (f_Law_law_L18 sL xs n (l3 + (6 : Int32)) S Rf q50.2.1 q50.2.2) else (some ((0 : Int32), S, q50.2.1, q50.2.2, Rf))))) else (if x3 = (1 : Int32) then ((f_H_arbor I L).bind fun q53 => ((f_Md_arbor q53.2.1 q53.2.2).bind fun q55 => (if q53.1 = q55.1 then (f_Law_law_L18 sL xs n (l3 + (6 : Int32)) S Rf q55.2.1 q55.2.2) else (some ((0 : Int32), S, q55.2.1, q55.2.2, Rf))))) else (if x3 = (2 : Int32) then (if (0 ≤ (l3 + (1 : Int32)) ∧ (l3 + (1 : Int32)) < nI sL) then (if (0 ≤ (l3 + (2 : Int32)) ∧ (l3 + (2 : Int32)) < nI sL) then (if (0 ≤ (l3 + (3 : Int32)) ∧ (l3 + (3 : Int32)) < nI sL) then (if (0 ≤ (l3 + (4 : Int32)) ∧ (l3 + (4 : Int32)) < nI sL) then (if (0 ≤ (l3 + (5 : Int32)) ∧ (l3 + (5 : Int32)) < nI sL) then ((f_H_mesh (xs (Int32.toNatClampNeg (l3 + (1 : Int32)))) (xs (Int32.toNatClampNeg (l3 + (2 : Int32)))) (xs (Int32.toNatClampNeg (l3 + (3 : Int32)))) (xs (Int32.toNatClampNeg (l3 + (4 : Int32)))) (xs (Int32.toNatClampNeg (l3 + (5 : Int32)))) I L).bind fun q63 => (if (0 ≤ (l3 + (1 : Int32)) ∧ (l3 + (1 : Int32)) < nI sL) then (if (0 ≤ (l3 + (2 : Int32)) ∧ (l3 + (2 : Int32)) < nI sL) then (if (0 ≤ (l3 + (3 : Int32)) ∧ (l3 + (3 : Int32)) < nI sL) then (if (0 ≤ (l3 + (4 : Int32)) ∧ (l3 + (4 : Int32)) < nI sL) then (if (0 ≤ (l3 + (5 : Int32)) ∧ (l3 + (5 : Int32)) < nI sL) then ((f_Md_mesh (xs (Int32.toNatClampNeg (l3 + (1 : Int32)))) (xs (Int32.toNatClampNeg (l3 + (2 : Int32)))) (xs (Int32.toNatClampNeg (l3 + (3 : Int32)))) (xs (Int32.toNatClampNeg (l3 + (4 : Int32)))) (xs (Int32.toNatClampNeg (l3 + (5 : Int32)))) q63.2.1 q63.2.2).bind fun q70 => (if q63.1 = q70.1 then (f_Law_law_L18 sL xs n (l3 + (6 : Int32)) S Rf q70.2.1 q70.2.2) else (some ((0 : Int32), S, q70.2.1, q70.2.2, Rf)))) else none) else none) else none) else none) else none)) else none) else none) else none) else none) else none) else (if x3 = (3 : Int32) then (if (0 ≤ (l3 + (1 : Int32)) ∧ (l3 + (1 : Int32)) < nI sL) then (if (0 ≤ (l3 + (2 : Int32)) ∧ (l3 + (2 : Int32)) < nI sL) then (if (0 ≤ (l3 + (3 : Int32)) ∧ (l3 + (3 : Int32)) < nI sL) then (if (0 ≤ (l3 + (4 : Int32)) ∧ (l3 + (4 : Int32)) < nI sL) then (if (0 ≤ (l3 + (5 : Int32)) ∧ (l3 + (5 : Int32)) < nI sL) then ((f_H_epicycle (xs (Int32.toNatClampNeg (l3 + (1 : Int32)))) (xs (Int32.toNatClampNeg (l3 + (2 : Int32)))) (xs (Int32.toNatClampNeg (l3 + (3 : Int32)))) (xs (Int32.toNatClampNeg (l3 + (4 : Int32)))) (xs (Int32.toNatClampNeg (l3 + (5 : Int32)))) I L).bind fun q78 => (if (0 ≤ (l3 + (1 : Int32)) ∧ (l3 + (1 : Int32)) < nI sL) then (if (0 ≤ (l3 + (2 : Int32)) ∧ (l3 + (2 : Int32)) < nI sL) then (if (0 ≤ (l3 + (3 : Int32)) ∧ (l3 + (3 : Int32)) < nI sL) then (if (0 ≤ (l3 + (4 : Int32)) ∧ (l3 + (4 : Int32)) < nI sL) then (if (0 ≤ (l3 + (5 : Int32)) ∧ (l3 + (5 : Int32)) < nI sL) then ((f_Md_epicycle (xs (Int32.toNatClampNeg (l3 + (1 : Int32)))) (xs (Int32.toNatClampNeg (l3 + (2 : Int32)))) (xs (Int32.toNatClampNeg (l3 + (3 : Int32)))) (xs (Int32.toNatClampNeg (l3 + (4 : Int32)))) (xs (Int32.toNatClampNeg (l3 + (5 : Int32)))) q78.2.1 q78.2.2).bind fun q85 => (if q78.1 = q85.1 then (f_Law_law_L18 sL xs n (l3 + (6 : Int32)) S Rf q85.2.1 q85.2.2) else (some ((0 : Int32), S, q85.2.1, q85.2.2, Rf)))) else none) else none) else none) else none) else none)) else none) else none) else none) else none) else none) else (if x3 = (4 : Int32) then (if (0 ≤ (l3 + (1 : Int32)) ∧ (l3 + (1 : Int32)) < nI sL) then (if (0 ≤ (l3 + (2 : Int32)) ∧ (l3 + (2 : Int32)) < nI sL) then ((f_H_escape (xs (Int32.toNatClampNeg (l3 + (1 : Int32)))) (xs (Int32.toNatClampNeg (l3 + (2 : Int32)))) I L).bind fun q90 => (if (0 ≤ (l3 + (1 : Int32)) ∧ (l3 + (1 : Int32)) < nI sL) then (if (0 ≤ (l3 + (2 : Int32)) ∧ (l3 + (2 : Int32)) < nI sL) then ((f_Md_escape (xs (Int32.toNatClampNeg (l3 + (1 : Int32)))) (xs (Int32.toNatClampNeg (l3 + (2 : Int32)))) q90.2.1 q90.2.2).bind fun q94 => (if q90.1 = q94.1 then (f_Law_law_L18 sL xs n (l3 + (6 : Int32)) S Rf q94.2.1 q94.2.2) else (some ((0 : Int32), S, q94.2.1, q94.2.2, Rf)))) else none) else none)) else none) else none) else (if x3 = (5 : Int32) then (if (0 ≤ (l3 + (1 : Int32)) ∧ (l3 + (1 : Int32)) < nI sL) then (if (0 ≤ (l3 + (2 : Int32)) ∧ (l3 + (2 : Int32)) < nI sL) then (if (0 ≤ (l3 + (3 : Int32)) ∧ (l3 + (3 : Int32)) < nI sL) then (if (0 ≤ (l3 + (4 : Int32)) ∧ (l3 + (4 : Int32)) < nI sL) then ((f_H_balance (xs (Int32.toNatClampNeg (l3 + (1 : Int32)))) (xs (Int32.toNatClampNeg (l3 + (2 : Int32)))) (xs (Int32.toNatClampNeg (l3 + (3 : Int32)))) (xs (Int32.toNatClampNeg (l3 + (4 : Int32)))) I L).bind fun q101 => (if (0 ≤ (l3 + (1 : Int32)) ∧ (l3 + (1 : Int32)) < nI sL) then (if (0 ≤ (l3 + (2 : Int32)) ∧ (l3 + (2 : Int32)) < nI sL) then (if (0 ≤ (l3 + (3 : Int32)) ∧ (l3 + (3 : Int32)) < nI sL) then (if (0 ≤ (l3 + (4 : Int32)) ∧ (l3 + (4 : Int32)) < nI sL) then ((f_Md_balance (xs (Int32.toNatClampNeg (l3 + (1 : Int32)))) (xs (Int32.toNatClampNeg (l3 + (2 : Int32)))) (xs (Int32.toNatClampNeg (l3 + (3 : Int32)))) (xs (Int32.toNatClampNeg (l3 + (4 : Int32)))) q101.2.1 q101.2.2).bind fun q107 => (if q101.1 = q107.1 then (f_Law_law_L18 sL xs n (l3 + (6 : Int32)) S Rf q107.2.1 q107.2.2) else (some ((0 : Int32), S, q107.2.1, q107.2.2, Rf)))) else none) else none) else none) else none)) else none) else none) else none) else none) else (if x3 = (6 : Int32) then (if (0 ≤ (l3 + (1 : Int32)) ∧ (l3 + (1 : Int32)) < nI sL) then ((f_H_barrel (xs (Int32.toNatClampNeg (l3 + (1 : Int32)))) I L).bind fun q111 => (if (0 ≤ (l3 + (1 : Int32)) ∧ (l3 + (1 : Int32)) < nI sL) then ((f_Md_barrel (xs (Int32.toNatClampNeg (l3 + (1 : Int32)))) q111.2.1 q111.2.2).bind fun q114 => (if q111.1 = q114.1 then (f_Law_law_L18 sL xs n (l3 + (6 : Int32)) S Rf q114.2.1 q114.2.2) else (some ((0 : Int32), S, q114.2.1, q114.2.2, Rf)))) else none)) else none) else (if x3 = (7 : Int32) then (if (0 ≤ (l3 + (1 : Int32)) ∧ (l3 + (1 : Int32)) < nI sL) then (if (0 ≤ (l3 + (2 : Int32)) ∧ (l3 + (2 : Int32)) < nI sL) then ((f_H_torque (xs (Int32.toNatClampNeg (l3 + (1 : Int32)))) (xs (Int32.toNatClampNeg (l3 + (2 : Int32)))) I L).bind fun q119 => (if (0 ≤ (l3 + (1 : Int32)) ∧ (l3 + (1 : Int32)) < nI sL) then (if (0 ≤ (l3 + (2 : Int32)) ∧ (l3 + (2 : Int32)) < nI sL) then ((f_Md_torque (xs (Int32.toNatClampNeg (l3 + (1 : Int32)))) (xs (Int32.toNatClampNeg (l3 + (2 : Int32)))) q119.2.1 q119.2.2).bind fun q123 => (if q119.1 = q123.1 then (f_Law_law_L18 sL xs n (l3 + (6 : Int32)) S Rf q123.2.1 q123.2.2) else (some ((0 : Int32), S, q123.2.1, q123.2.2, Rf)))) else none) else none)) else none) else none) else (if x3 = (8 : Int32) then (if (0 ≤ (l3 + (1 : Int32)) ∧ (l3 + (1 : Int32)) < nI sL) then (if (0 ≤ (l3 + (2 : Int32)) ∧ (l3 + (2 : Int32)) < nI sL) then ((f_H_dial S Rf (xs (Int32.toNatClampNeg (l3 + (1 : Int32)))) (xs (Int32.toNatClampNeg (l3 + (2 : Int32)))) I L).bind fun q128 => (if (0 ≤ (l3 + (1 : Int32)) ∧ (l3 + (1 : Int32)) < nI sL) then (if (0 ≤ (l3 + (2 : Int32)) ∧ (l3 + (2 : Int32)) < nI sL) then ((f_Md_dial (xs (Int32.toNatClampNeg (l3 + (1 : Int32)))) (xs (Int32.toNatClampNeg (l3 + (2 : Int32)))) q128.2.2.1 q128.2.2.2.1).bind fun q132 => (if q128.1 = q132.1 then (f_Law_law_L18 sL xs n (l3 + (6 : Int32)) q128.2.1 q128.2.2.2.2 q132.2.1 q132.2.2) else (some ((0 : Int32), q128.2.1, q132.2.1, q132.2.2, q128.2.2.2.2)))) else none) else none)) else none) else none) else (if x3 = (9 : Int32) then (if (0 ≤ (l3 + (1 : Int32)) ∧ (l3 + (1 : Int32)) < nI sL) then (if (0 ≤ (l3 + (2 : Int32)) ∧ (l3 + (2 : Int32)) < nI sL) then (if (0 ≤ (l3 + (3 : Int32)) ∧ (l3 + (3 : Int32)) < nI sL) then (if (0 ≤ (l3 + (4 : Int32)) ∧ (l3 + (4 : Int32)) < nI sL) then (if (0 ≤ (l3 + (5 : Int32)) ∧ (l3 + (5 : Int32)) < nI sL) then ((f_H_calendar S Rf (xs (Int32.toNatClampNeg (l3 + (1 : Int32)))) (xs (Int32.toNatClampNeg (l3 + (2 : Int32)))) (xs (Int32.toNatClampNeg (l3 + (3 : Int32)))) (xs (Int32.toNatClampNeg (l3 + (4 : Int32)))) (xs (Int32.toNatClampNeg (l3 + (5 : Int32)))) I L).bind fun q140 => (if (0 ≤ (l3 + (1 : Int32)) ∧ (l3 + (1 : Int32)) < nI sL) then (if (0 ≤ (l3 + (2 : Int32)) ∧ (l3 + (2 : Int32)) < nI sL) then (if (0 ≤ (l3 + (3 : Int32)) ∧ (l3 + (3 : Int32)) < nI sL) then (if (0 ≤ (l3 + (4 : Int32)) ∧ (l3 + (4 : Int32)) < nI sL) then (if (0 ≤ (l3 + (5 : Int32)) ∧ (l3 + (5 : Int32)) < nI sL) then ((f_Md_calendar (xs (Int32.toNatClampNeg (l3 + (1 : Int32)))) (xs (Int32.toNatClampNeg (l3 + (2 : Int32)))) (xs (Int32.toNatClampNeg (l3 + (3 : Int32)))) (xs (Int32.toNatClampNeg (l3 + (4 : Int32)))) (xs (Int32.toNatClampNeg (l3 + (5 : Int32)))) q140.2.2.1 q140.2.2.2.1).bind fun q147 => (if q140.1 = q147.1 then (f_Law_law_L18 sL xs n (l3 + (6 : Int32)) q140.2.1 q140.2.2.2.2 q147.2.1 q147.2.2) else (some ((0 : Int32), q140.2.1, q147.2.1, q147.2.2, q140.2.2.2.2)))) else none) else none) else none) else none) else none)) else none) else none) else none) else none) else none) else (if x3 = (10 : Int32) then (if (0 ≤ (l3 + (1 : Int32)) ∧ (l3 + (1 : Int32)) < nI sL) then (if (0 ≤ (l3 + (2 : Int32)) ∧ (l3 + (2 : Int32)) < nI sL) then ((f_H_strike S Rf (xs (Int32.toNatClampNeg (l3 + (1 : Int32)))) (xs (Int32.toNatClampNeg (l3 + (2 : Int32)))) I L).bind fun q152 => (if (0 ≤ (l3 + (1 : Int32)) ∧ (l3 + (1 : Int32)) < nI sL) then (if (0 ≤ (l3 + (2 : Int32)) ∧ (l3 + (2 : Int32)) < nI sL) then ((f_Md_strike (xs (Int32.toNatClampNeg (l3 + (1 : Int32)))) (xs (Int32.toNatClampNeg (l3 + (2 : Int32)))) q152.2.2.1 q152.2.2.2.1).bind fun q156 => (if q152.1 = q156.1 then (f_Law_law_L18 sL xs n (l3 + (6 : Int32)) q152.2.1 q152.2.2.2.2 q156.2.1 q156.2.2) else (some ((0 : Int32), q152.2.1, q156.2.1, q156.2.2, q152.2.2.2.2)))) else none) else none)) else none) else none) else (if x3 = (11 : Int32) then (if (0 ≤ (l3 + (1 : Int32)) ∧ (l3 + (1 : Int32)) < nI sL) then ((f_H_chronograph S Rf (xs (Int32.toNatClampNeg (l3 + (1 : Int32)))) I L).bind fun q160 => (if (0 ≤ (l3 + (1 : Int32)) ∧ (l3 + (1 : Int32)) < nI sL) then ((f_Md_chronograph (xs (Int32.toNatClampNeg (l3 + (1 : Int32)))) q160.2.1 q160.2.2).bind fun q163 => (if q160.1 = q163.1 then (f_Law_law_L18 sL xs n (l3 + (6 : Int32)) S Rf q163.2.1 q163.2.2) else (some ((0 : Int32), S, q163.2.1, q163.2.2, Rf)))) else none)) else none) else (if x3 = (12 : Int32) then ((f_H_go I L).bind fun q166 => ((f_Md_go q166.2.1 q166.2.2).bind fun q168 => (if q166.1 = q168.1 then (f_Law_law_L18 sL xs n (l3 + (6 : Int32)) S Rf q168.2.1 q168.2.2) else (some ((0 : Int32), S, q168.2.1, q168.2.2, Rf))))) else (if x3 = (13 : Int32) then (if (0 ≤ (l3 + (1 : Int32)) ∧ (l3 + (1 : Int32)) < nI sL) then ((f_H_run S Rf (xs (Int32.toNatClampNeg (l3 + (1 : Int32)))) I L).bind fun q172 => (if (0 ≤ (l3 + (1 : Int32)) ∧ (l3 + (1 : Int32)) < nI sL) then ((f_Md_run (xs (Int32.toNatClampNeg (l3 + (1 : Int32)))) q172.2.1 q172.2.2).bind fun q175 => (if q172.1 = q175.1 then (f_Law_law_L18 sL xs n (l3 + (6 : Int32)) S Rf q175.2.1 q175.2.2) else (some ((0 : Int32), S, q175.2.1, q175.2.2, Rf)))) else none)) else none) else (if x3 = (14 : Int32) then (if (0 ≤ (l3 + (1 : Int32)) ∧ (l3 + (1 : Int32)) < nI sL) then ((f_H_shock (xs (Int32.toNatClampNeg (l3 + (1 : Int32)))) I L).bind fun q179 => (if (0 ≤ (l3 + (1 : Int32)) ∧ (l3 + (1 : Int32)) < nI sL) then ((f_Md_shock (xs (Int32.toNatClampNeg (l3 + (1 : Int32)))) q179.2.1 q179.2.2).bind fun q182 => (if q179.1 = q182.1 then (f_Law_law_L18 sL xs n (l3 + (6 : Int32)) S Rf q182.2.1 q182.2.2) else (some ((0 : Int32), S, q182.2.1, q182.2.2, Rf)))) else none)) else none) else (if x3 = (15 : Int32) then (if (0 ≤ (l3 + (1 : Int32)) ∧ (l3 + (1 : Int32)) < nI sL) then ((f_H_wind (xs (Int32.toNatClampNeg (l3 + (1 : Int32)))) I L).bind fun q186 => (if (0 ≤ (l3 + (1 : Int32)) ∧ (l3 + (1 : Int32)) < nI sL) then ((f_Md_wind (xs (Int32.toNatClampNeg (l3 + (1 : Int32)))) q186.2.1 q186.2.2).bind fun q189 => (if q186.1 = q189.1 then (f_Law_law_L18 sL xs n (l3 + (6 : Int32)) S Rf q189.2.1 q189.2.2) else (some ((0 : Int32), S, q189.2.1, q189.2.2, Rf)))) else none)) else none) else (if x3 = (16 : Int32) then (if (0 ≤ (l3 + (1 : Int32)) ∧ (l3 + (1 : Int32)) < nI sL) then (if (0 ≤ (l3 + (2 : Int32)) ∧ (l3 + (2 : Int32)) < nI sL) then ((f_H_press S Rf (xs (Int32.toNatClampNeg (l3 + (1 : Int32)))) (xs (Int32.toNatClampNeg (l3 + (2 : Int32)))) I L).bind fun q194 => (if (0 ≤ (l3 + (1 : Int32)) ∧ (l3 + (1 : Int32)) < nI sL) then (if (0 ≤ (l3 + (2 : Int32)) ∧ (l3 + (2 : Int32)) < nI sL) then ((f_Md_press (xs (Int32.toNatClampNeg (l3 + (1 : Int32)))) (xs (Int32.toNatClampNeg (l3 + (2 : Int32)))) q194.2.1 q194.2.2).bind fun q198 => (if q194.1 = q198.1 then (f_Law_law_L18 sL xs n (l3 + (6 : Int32)) S Rf q198.2.1 q198.2.2) else (some ((0 : Int32), S, q198.2.1, q198.2.2, Rf)))) else none) else none)) else none) else none) else (if x3 = (17 : Int32) then (if (0 ≤ (l3 + (1 : Int32)) ∧ (l3 + (1 : Int32)) < nI sL) then (if (0 ≤ (l3 + (2 : Int32)) ∧ (l3 + (2 : Int32)) < nI sL) then (if (0 ≤ (l3 + (3 : Int32)) ∧ (l3 + (3 : Int32)) < nI sL) then ((f_H_correct S Rf (xs (Int32.toNatClampNeg (l3 + (1 : Int32)))) (xs (Int32.toNatClampNeg (l3 + (2 : Int32)))) (xs (Int32.toNatClampNeg (l3 + (3 : Int32)))) I L).bind fun q204 => (if (0 ≤ (l3 + (1 : Int32)) ∧ (l3 + (1 : Int32)) < nI sL) then (if (0 ≤ (l3 + (2 : Int32)) ∧ (l3 + (2 : Int32)) < nI sL) then (if (0 ≤ (l3 + (3 : Int32)) ∧ (l3 + (3 : Int32)) < nI sL) then ((f_Md_correct (xs (Int32.toNatClampNeg (l3 + (1 : Int32)))) (xs (Int32.toNatClampNeg (l3 + (2 : Int32)))) (xs (Int32.toNatClampNeg (l3 + (3 : Int32)))) q204.2.1 q204.2.2).bind fun q209 => (if q204.1 = q209.1 then (f_Law_law_L18 sL xs n (l3 + (6 : Int32)) S Rf q209.2.1 q209.2.2) else (some ((0 : Int32), S, q209.2.1, q209.2.2, Rf)))) else none) else none) else none)) else none) else none) else none) else (if x3 = (18 : Int32) then (if (0 ≤ (l3 + (1 : Int32)) ∧ (l3 + (1 : Int32)) < nI sL) then ((f_H_trip S Rf (xs (Int32.toNatClampNeg (l3 + (1 : Int32)))) I L).bind fun q213 => (if (0 ≤ (l3 + (1 : Int32)) ∧ (l3 + (1 : Int32)) < nI sL) then ((f_Md_trip (xs (Int32.toNatClampNeg (l3 + (1 : Int32)))) q213.2.1 q213.2.2).bind fun q216 => (if q213.1 = q216.1 then (f_Law_law_L18 sL xs n (l3 + (6 : Int32)) S Rf q216.2.1 q216.2.2) else (some ((0 : Int32), S, q216.2.1, q216.2.2, Rf)))) else none)) else none) else (if x3 = (19 : Int32) then (if (0 ≤ (l3 + (1 : Int32)) ∧ (l3 + (1 : Int32)) < nI sL) then ((f_H_back S Rf (xs (Int32.toNatClampNeg (l3 + (1 : Int32)))) I L).bind fun q220 => (if (0 ≤ (l3 + (1 : Int32)) ∧ (l3 + (1 : Int32)) < nI sL) then ((f_Md_back (xs (Int32.toNatClampNeg (l3 + (1 : Int32)))) q220.2.1 q220.2.2).bind fun q223 => (if q220.1 = q223.1 then (f_Law_law_L18 sL xs n (l3 + (6 : Int32)) S Rf q223.2.1 q223.2.2) else (some ((0 : Int32), S, q223.2.1, q223.2.2, Rf)))) else none)) else none) else (if x3 = (20 : Int32) then (if (0 ≤ (l3 + (1 : Int32)) ∧ (l3 + (1 : Int32)) < nI sL) then (if (0 ≤ (l3 + (2 : Int32)) ∧ (l3 + (2 : Int32)) < nI sL) then ((f_H_speed (xs (Int32.toNatClampNeg (l3 + (1 : Int32)))) (xs (Int32.toNatClampNeg (l3 + (2 : Int32)))) I L).bind fun q228 => (if (0 ≤ (l3 + (1 : Int32)) ∧ (l3 + (1 : Int32)) < nI sL) then (if (0 ≤ (l3 + (2 : Int32)) ∧ (l3 + (2 : Int32)) < nI sL) then ((f_Md_speed (xs (Int32.toNatClampNeg (l3 + (1 : Int32)))) (xs (Int32.toNatClampNeg (l3 + (2 : Int32)))) I L).bind fun q232 => (if q228 = q232.1 then (f_Law_law_L18 sL xs n (l3 + (6 : Int32)) S Rf q232.2.1 q232.2.2) else (some ((0 : Int32), S, q232.2.1, q232.2.2, Rf)))) else none) else none)) else none) else none) else (if x3 = (21 : Int32) then (if (0 ≤ (l3 + (1 : Int32)) ∧ (l3 + (1 : Int32)) < nI sL) then ((f_H_state (xs (Int32.toNatClampNeg (l3 + (1 : Int32)))) I L).bind fun q236 => (if (0 ≤ (l3 + (1 : Int32)) ∧ (l3 + (1 : Int32)) < nI sL) then ((f_Md_state (xs (Int32.toNatClampNeg (l3 + (1 : Int32)))) I L).bind fun q239 => (if q236 = q239.1 then (f_Law_law_L18 sL xs n (l3 + (6 : Int32)) S Rf q239.2.1 q239.2.2) else (some ((0 : Int32), S, q239.2.1, q239.2.2, Rf)))) else none)) else none) else (if x3 = (22 : Int32) then (if (0 ≤ (l3 + (1 : Int32)) ∧ (l3 + (1 : Int32)) < nI sL) then (if (0 ≤ (l3 + (2 : Int32)) ∧ (l3 + (2 : Int32)) < nI sL) then ((f_H_tick (xs (Int32.toNatClampNeg (l3 + (1 : Int32)))) (xs (Int32.toNatClampNeg (l3 + (2 : Int32)))) I L).bind fun q244 => (if (0 ≤ (l3 + (1 : Int32)) ∧ (l3 + (1 : Int32)) < nI sL) then (if (0 ≤ (l3 + (2 : Int32)) ∧ (l3 + (2 : Int32)) < nI sL) then ((f_Md_tick (xs (Int32.toNatClampNeg (l3 + (1 : Int32)))) (xs (Int32.toNatClampNeg (l3 + (2 : Int32)))) I L).bind fun q248 => (if q244 = q248 then (f_Law_law_L18 sL xs n (l3 + (6 : Int32)) S Rf I L) else (some ((0 : Int32), S, I, L, Rf)))) else none) else none)) else none) else none) else (if x3 = (23 : Int32) then (if (0 ≤ (l3 + (1 : Int32)) ∧ (l3 + (1 : Int32)) < nI sL) then (if (0 ≤ (l3 + (2 : Int32)) ∧ (l3 + (2 : Int32)) < nI sL) then ((f_H_shows S Rf (xs (Int32.toNatClampNeg (l3 + (1 : Int32)))) (xs (Int32.toNatClampNeg (l3 + (2 : Int32)))) I L).bind fun q253 => (if (0 ≤ (l3 + (1 : Int32)) ∧ (l3 + (1 : Int32)) < nI sL) then (if (0 ≤ (l3 + (2 : Int32)) ∧ (l3 + (2 : Int32)) < nI sL) then ((f_Md_shows (xs (Int32.toNatClampNeg (l3 + (1 : Int32)))) (xs (Int32.toNatClampNeg (l3 + (2 : Int32)))) I L).bind fun q257 => (if q253 = q257.1 then (f_Law_law_L18 sL xs n (l3 + (6 : Int32)) S Rf q257.2.1 q257.2.2) else (some ((0 : Int32), S, q257.2.1, q257.2.2, Rf)))) else none) else none)) else none) else none) else (if x3 = (24 : Int32) then (if (0 ≤ (l3 + (1 : Int32)) ∧ (l3 + (1 : Int32)) < nI sL) then (if (0 ≤ (l3 + (2 : Int32)) ∧ (l3 + (2 : Int32)) < nI sL) then ((f_H_struck (xs (Int32.toNatClampNeg (l3 + (1 : Int32)))) (xs (Int32.toNatClampNeg (l3 + (2 : Int32)))) I L).bind fun q262 => (if (0 ≤ (l3 + (1 : Int32)) ∧ (l3 + (1 : Int32)) < nI sL) then (if (0 ≤ (l3 + (2 : Int32)) ∧ (l3 + (2 : Int32)) < nI sL) then ((f_Md_struck (xs (Int32.toNatClampNeg (l3 + (1 : Int32)))) (xs (Int32.toNatClampNeg (l3 + (2 : Int32)))) I L).bind fun q266 => (if q262 = q266 then (f_Law_law_L18 sL xs n (l3 + (6 : Int32)) S Rf I L) else (some ((0 : Int32), S, I, L, Rf)))) else none) else none)) else none) else none) else (if x3 = (25 : Int32) then (if (0 ≤ (l3 + (1 : Int32)) ∧ (l3 + (1 : Int32)) < nI sL) then (if (0 ≤ (l3 + (2 : Int32)) ∧ (l3 + (2 : Int32)) < nI sL) then ((f_H_hand S Rf (xs (Int32.toNatClampNeg (l3 + (1 : Int32)))) (xs (Int32.toNatClampNeg (l3 + (2 : Int32)))) I L).bind fun q271 => (if (0 ≤ (l3 + (1 : Int32)) ∧ (l3 + (1 : Int32)) < nI sL) then (if (0 ≤ (l3 + (2 : Int32)) ∧ (l3 + (2 : Int32)) < nI sL) then ((f_Md_hand (xs (Int32.toNatClampNeg (l3 + (1 : Int32)))) (xs (Int32.toNatClampNeg (l3 + (2 : Int32)))) I L).bind fun q275 => (if q271 = q275 then (f_Law_law_L18 sL xs n (l3 + (6 : Int32)) S Rf I L) else (some ((0 : Int32), S, I, L, Rf)))) else none) else none)) else none) else none) else (if x3 = (26 : Int32) then (if (0 ≤ (l3 + (1 : Int32)) ∧ (l3 + (1 : Int32)) < nI sL) then (bnd (f_H_count (xs (Int32.toNatClampNeg (l3 + (1 : Int32)))) I L) fun x279 => (if (0 ≤ (l3 + (1 : Int32)) ∧ (l3 + (1 : Int32)) < nI sL) then (bnd (f_Md_count (xs (Int32.toNatClampNeg (l3 + (1 : Int32)))) I L) fun x281 => (if x279 = x281 then (f_Law_law_L18 sL xs n (l3 + (6 : Int32)) S Rf I L) else (some ((0 : Int32), S, I, L, Rf)))) else none)) else none) else (if x3 = (27 : Int32) then (if (0 ≤ (l3 + (1 : Int32)) ∧ (l3 + (1 : Int32)) < nI sL) then (if (0 ≤ (l3 + (2 : Int32)) ∧ (l3 + (2 : Int32)) < nI sL) then (if (0 ≤ (l3 + (3 : Int32)) ∧ (l3 + (3 : Int32)) < nI sL) then ((f_H_teeth (xs (Int32.toNatClampNeg (l3 + (1 : Int32)))) (xs (Int32.toNatClampNeg (l3 + (2 : Int32)))) (xs (Int32.toNatClampNeg (l3 + (3 : Int32)))) I L).bind fun q286 => (if (0 ≤ (l3 + (1 : Int32)) ∧ (l3 + (1 : Int32)) < nI sL) then (if (0 ≤ (l3 + (2 : Int32)) ∧ (l3 + (2 : Int32)) < nI sL) then (if (0 ≤ (l3 + (3 : Int32)) ∧ (l3 + (3 : Int32)) < nI sL) then ((f_Md_teeth (xs (Int32.toNatClampNeg (l3 + (1 : Int32)))) (xs (Int32.toNatClampNeg (l3 + (2 : Int32)))) (xs (Int32.toNatClampNeg (l3 + (3 : Int32)))) q286.2.1 q286.2.2).bind fun q291 => (if q286.1 = q291.1 then (f_Law_law_L18 sL xs n (l3 + (6 : Int32)) S Rf q291.2.1 q291.2.2) else (some ((0 : Int32), S, q291.2.1, q291.2.2, Rf)))) else none) else none) else none)) else none) else none) else none) else (if x3 = (28 : Int32) then (if (0 ≤ (l3 + (1 : Int32)) ∧ (l3 + (1 : Int32)) < nI sL) then (if (0 ≤ (l3 + (2 : Int32)) ∧ (l3 + (2 : Int32)) < nI sL) then (if (0 ≤ (l3 + (3 : Int32)) ∧ (l3 + (3 : Int32)) < nI sL) then ((f_H_search (xs (Int32.toNatClampNeg (l3 + (1 : Int32)))) (xs (Int32.toNatClampNeg (l3 + (2 : Int32)))) (xs (Int32.toNatClampNeg (l3 + (3 : Int32)))) I L).bind fun q297 => (if (0 ≤ (l3 + (1 : Int32)) ∧ (l3 + (1 : Int32)) < nI sL) then (if (0 ≤ (l3 + (2 : Int32)) ∧ (l3 + (2 : Int32)) < nI sL) then (if (0 ≤ (l3 + (3 : Int32)) ∧ (l3 + (3 : Int32)) < nI sL) then ((f_Md_search (xs (Int32.toNatClampNeg (l3 + (1 : Int32)))) (xs (Int32.toNatClampNeg (l3 + (2 : Int32)))) (xs (Int32.toNatClampNeg (l3 + (3 : Int32)))) q297.2.1 q297.2.2).bind fun q302 => (if q297.1 = q302.1 then (f_Law_law_L18 sL xs n (l3 + (6 : Int32)) S Rf q302.2.1 q302.2.2) else (some ((0 : Int32), S, q302.2.1, q302.2.2, Rf)))) else none) else none) else none)) else none) else none) else none) else (if x3 = (29 : Int32) then (if (0 ≤ (l3 + (1 : Int32)) ∧ (l3 + (1 : Int32)) < nI sL) then (if (0 ≤ (l3 + (2 : Int32)) ∧ (l3 + (2 : Int32)) < nI sL) then ((f_H_train (xs (Int32.toNatClampNeg (l3 + (1 : Int32)))) (xs (Int32.toNatClampNeg (l3 + (2 : Int32)))) I L).bind fun q307 => (if (0 ≤ (l3 + (1 : Int32)) ∧ (l3 + (1 : Int32)) < nI sL) then (if (0 ≤ (l3 + (2 : Int32)) ∧ (l3 + (2 : Int32)) < nI sL) then ((f_Md_train (xs (Int32.toNatClampNeg (l3 + (1 : Int32)))) (xs (Int32.toNatClampNeg (l3 + (2 : Int32)))) I L).bind fun q311 => (if q307 = q311 then (f_Law_law_L18 sL xs n (l3 + (6 : Int32)) S Rf I L) else (some ((0 : Int32), S, I, L, Rf)))) else none) else none)) else none) else none) else (if x3 = (30 : Int32) then (if (0 ≤ (l3 + (1 : Int32)) ∧ (l3 + (1 : Int32)) < nI sL) then (bnd (f_H_error (xs (Int32.toNatClampNeg (l3 + (1 : Int32)))) I L) fun x315 => (if (0 ≤ (l3 + (1 : Int32)) ∧ (l3 + (1 : Int32)) < nI sL) then (bnd (f_Md_error (xs (Int32.toNatClampNeg (l3 + (1 : Int32)))) I L) fun x317 => (if x315 = x317 then (f_Law_law_L18 sL xs n (l3 + (6 : Int32)) S Rf I L) else (some ((0 : Int32), S, I, L, Rf)))) else none)) else none) else (if x3 = (31 : Int32) then ((f_H_chain I L).bind fun q319 => ((f_Md_chain q319.2.1 q319.2.2).bind fun q321 => (if q319.1 = q321.1 then (f_Law_law_L18 sL xs n (l3 + (6 : Int32)) S Rf q321.2.1 q321.2.2) else (some ((0 : Int32), S, q321.2.1, q321.2.2, Rf))))) else (if x3 = (32 : Int32) then (if (0 ≤ (l3 + (1 : Int32)) ∧ (l3 + (1 : Int32)) < nI sL) then (if (0 ≤ (l3 + (2 : Int32)) ∧ (l3 + (2 : Int32)) < nI sL) then (if (0 ≤ (l3 + (3 : Int32)) ∧ (l3 + (3 : Int32)) < nI sL) then (if (0 ≤ (l3 + (4 : Int32)) ∧ (l3 + (4 : Int32)) < nI sL) then ((f_H_size (xs (Int32.toNatClampNeg (l3 + (1 : Int32)))) (xs (Int32.toNatClampNeg (l3 + (2 : Int32)))) (xs (Int32.toNatClampNeg (l3 + (3 : Int32)))) (xs (Int32.toNatClampNeg (l3 + (4 : Int32)))) I L).bind fun q328 => (if (0 ≤ (l3 + (1 : Int32)) ∧ (l3 + (1 : Int32)) < nI sL) then (if (0 ≤ (l3 + (2 : Int32)) ∧ (l3 + (2 : Int32)) < nI sL) then (if (0 ≤ (l3 + (3 : Int32)) ∧ (l3 + (3 : Int32)) < nI sL) then (if (0 ≤ (l3 + (4 : Int32)) ∧ (l3 + (4 : Int32)) < nI sL) then ((f_Md_size (xs (Int32.toNatClampNeg (l3 + (1 : Int32)))) (xs (Int32.toNatClampNeg (l3 + (2 : Int32)))) (xs (Int32.toNatClampNeg (l3 + (3 : Int32)))) (xs (Int32.toNatClampNeg (l3 + (4 : Int32)))) q328.2.1 q328.2.2).bind fun q334 => (if q328.1 = q334.1 then (f_Law_law_L18 sL xs n (l3 + (6 : Int32)) S Rf q334.2.1 q334.2.2) else (some ((0 : Int32), S, q334.2.1, q334.2.2, Rf)))) else none) else none) else none) else none)) else none) else none) else none) else none) else (if x3 = (33 : Int32) then (if (0 ≤ (l3 + (1 : Int32)) ∧ (l3 + (1 : Int32)) < nI sL) then ((f_H_limit (xs (Int32.toNatClampNeg (l3 + (1 : Int32)))) I L).bind fun q338 => (if (0 ≤ (l3 + (1 : Int32)) ∧ (l3 + (1 : Int32)) < nI sL) then ((f_Md_limit (xs (Int32.toNatClampNeg (l3 + (1 : Int32)))) I L).bind fun q341 => (if q338 = q341 then (f_Law_law_L18 sL xs n (l3 + (6 : Int32)) S Rf I L) else (some ((0 : Int32), S, I, L, Rf)))) else none)) else none) else (if x3 = (34 : Int32) then (if (0 ≤ (l3 + (1 : Int32)) ∧ (l3 + (1 : Int32)) < nI sL) then (if (0 ≤ (l3 + (2 : Int32)) ∧ (l3 + (2 : Int32)) < nI sL) then ((f_H_ways (xs (Int32.toNatClampNeg (l3 + (1 : Int32)))) (xs (Int32.toNatClampNeg (l3 + (2 : Int32)))) I L).bind fun q346 => (if (0 ≤ (l3 + (1 : Int32)) ∧ (l3 + (1 : Int32)) < nI sL) then (if (0 ≤ (l3 + (2 : Int32)) ∧ (l3 + (2 : Int32)) < nI sL) then ((f_Md_ways (xs (Int32.toNatClampNeg (l3 + (1 : Int32)))) (xs (Int32.toNatClampNeg (l3 + (2 : Int32)))) q346.2.1 q346.2.2).bind fun q350 => (if q346.1 = q350.1 then (f_Law_law_L18 sL xs n (l3 + (6 : Int32)) S Rf q350.2.1 q350.2.2) else (some ((0 : Int32), S, q350.2.1, q350.2.2, Rf)))) else none) else none)) else none) else none) else (if x3 = (35 : Int32) then (if (0 ≤ (l3 + (1 : Int32)) ∧ (l3 + (1 : Int32)) < nI sL) then (if (0 ≤ (l3 + (2 : Int32)) ∧ (l3 + (2 : Int32)) < nI sL) then ((f_H_rate (xs (Int32.toNatClampNeg (l3 + (1 : Int32)))) (xs (Int32.toNatClampNeg (l3 + (2 : Int32)))) I L).bind fun q355 => (if (0 ≤ (l3 + (1 : Int32)) ∧ (l3 + (1 : Int32)) < nI sL) then (if (0 ≤ (l3 + (2 : Int32)) ∧ (l3 + (2 : Int32)) < nI sL) then ((f_Md_rate (xs (Int32.toNatClampNeg (l3 + (1 : Int32)))) (xs (Int32.toNatClampNeg (l3 + (2 : Int32)))) q355.2.1 q355.2.2).bind fun q359 => (if q355.1 = q359.1 then (f_Law_law_L18 sL xs n (l3 + (6 : Int32)) S Rf q359.2.1 q359.2.2) else (some ((0 : Int32), S, q359.2.1, q359.2.2, Rf)))) else none) else none)) else none) else none) else (if x3 = (36 : Int32) then (if (0 ≤ (l3 + (1 : Int32)) ∧ (l3 + (1 : Int32)) < nI sL) then ((f_H_verdict (xs (Int32.toNatClampNeg (l3 + (1 : Int32)))) I L).bind fun q363 => (if (0 ≤ (l3 + (1 : Int32)) ∧ (l3 + (1 : Int32)) < nI sL) then ((f_Md_verdict (xs (Int32.toNatClampNeg (l3 + (1 : Int32)))) I L).bind fun q366 => (if q363 = q366 then (f_Law_law_L18 sL xs n (l3 + (6 : Int32)) S Rf I L) else (some ((0 : Int32), S, I, L, Rf)))) else none)) else none) else (if x3 = (37 : Int32) then (if (0 ≤ (l3 + (1 : Int32)) ∧ (l3 + (1 : Int32)) < nI sL) then (if (0 ≤ (l3 + (2 : Int32)) ∧ (l3 + (2 : Int32)) < nI sL) then (if (0 ≤ (l3 + (3 : Int32)) ∧ (l3 + (3 : Int32)) < nI sL) then ((f_H_change (xs (Int32.toNatClampNeg (l3 + (1 : Int32)))) (xs (Int32.toNatClampNeg (l3 + (2 : Int32)))) (xs (Int32.toNatClampNeg (l3 + (3 : Int32)))) I L).bind fun q372 => (if (0 ≤ (l3 + (1 : Int32)) ∧ (l3 + (1 : Int32)) < nI sL) then (if (0 ≤ (l3 + (2 : Int32)) ∧ (l3 + (2 : Int32)) < nI sL) then (if (0 ≤ (l3 + (3 : Int32)) ∧ (l3 + (3 : Int32)) < nI sL) then ((f_Md_change (xs (Int32.toNatClampNeg (l3 + (1 : Int32)))) (xs (Int32.toNatClampNeg (l3 + (2 : Int32)))) (xs (Int32.toNatClampNeg (l3 + (3 : Int32)))) q372.2.1 q372.2.2).bind fun q377 => (if q372.1 = q377.1 then (f_Law_law_L18 sL xs n (l3 + (6 : Int32)) S Rf q377.2.1 q377.2.2) else (some ((0 : Int32), S, q377.2.1, q377.2.2, Rf)))) else none) else none) else none)) else none) else none) else none) else (if x3 = (38 : Int32) then (if (0 ≤ (l3 + (1 : Int32)) ∧ (l3 + (1 : Int32)) < nI sL) then ((f_H_merge (xs (Int32.toNatClampNeg (l3 + (1 : Int32)))) I L).bind fun q381 => (if (0 ≤ (l3 + (1 : Int32)) ∧ (l3 + (1 : Int32)) < nI sL) then ((f_Md_merge (xs (Int32.toNatClampNeg (l3 + (1 : Int32)))) q381.2.1 q381.2.2).bind fun q384 => (if q381.1 = q384.1 then (f_Law_law_L18 sL xs n (l3 + (6 : Int32)) S Rf q384.2.1 q384.2.2) else (some ((0 : Int32), S, q384.2.1, q384.2.2, Rf)))) else none)) else none) else (if x3 = (39 : Int32) then (if (0 ≤ (l3 + (1 : Int32)) ∧ (l3 + (1 : Int32)) < nI sL) then (if (0 ≤ (l3 + (2 : Int32)) ∧ (l3 + (2 : Int32)) < nI sL) then ((f_H_conflict (xs (Int32.toNatClampNeg (l3 + (1 : Int32)))) (xs (Int32.toNatClampNeg (l3 + (2 : Int32)))) I L).bind fun q389 => (if (0 ≤ (l3 + (1 : Int32)) ∧ (l3 + (1 : Int32)) < nI sL) then (if (0 ≤ (l3 + (2 : Int32)) ∧ (l3 + (2 : Int32)) < nI sL) then ((f_Md_conflict (xs (Int32.toNatClampNeg (l3 + (1 : Int32)))) (xs (Int32.toNatClampNeg (l3 + (2 : Int32)))) I L).bind fun q393 => (if q389 = q393 then (f_Law_law_L18 sL xs n (l3 + (6 : Int32)) S Rf I L) else (some ((0 : Int32), S, I, L, Rf)))) else none) else none)) else none) else none) else (if x3 = (40 : Int32) then (if (0 ≤ (l3 + (1 : Int32)) ∧ (l3 + (1 : Int32)) < nI sL) then (if (0 ≤ (l3 + (2 : Int32)) ∧ (l3 + (2 : Int32)) < nI sL) then (if (0 ≤ (l3 + (3 : Int32)) ∧ (l3 + (3 : Int32)) < nI sL) then ((f_H_settle (xs (Int32.toNatClampNeg (l3 + (1 : Int32)))) (xs (Int32.toNatClampNeg (l3 + (2 : Int32)))) (xs (Int32.toNatClampNeg (l3 + (3 : Int32)))) I L).bind fun q399 => (if (0 ≤ (l3 + (1 : Int32)) ∧ (l3 + (1 : Int32)) < nI sL) then (if (0 ≤ (l3 + (2 : Int32)) ∧ (l3 + (2 : Int32)) < nI sL) then (if (0 ≤ (l3 + (3 : Int32)) ∧ (l3 + (3 : Int32)) < nI sL) then ((f_Md_settle (xs (Int32.toNatClampNeg (l3 + (1 : Int32)))) (xs (Int32.toNatClampNeg (l3 + (2 : Int32)))) (xs (Int32.toNatClampNeg (l3 + (3 : Int32)))) q399.2.1 q399.2.2).bind fun q404 => (if q399.1 = q404.1 then (f_Law_law_L18 sL xs n (l3 + (6 : Int32)) S Rf q404.2.1 q404.2.2) else (some ((0 : Int32), S, q404.2.1, q404.2.2, Rf)))) else none) else none) else none)) else none) else none) else none) else (if x3 = (41 : Int32) then (if (0 ≤ (l3 + (1 : Int32)) ∧ (l3 + (1 : Int32)) < nI sL) then (if (0 ≤ (l3 + (2 : Int32)) ∧ (l3 + (2 : Int32)) < nI sL) then ((f_H_setting (xs (Int32.toNatClampNeg (l3 + (1 : Int32)))) (xs (Int32.toNatClampNeg (l3 + (2 : Int32)))) I L).bind fun q409 => (if (0 ≤ (l3 + (1 : Int32)) ∧ (l3 + (1 : Int32)) < nI sL) then (if (0 ≤ (l3 + (2 : Int32)) ∧ (l3 + (2 : Int32)) < nI sL) then ((f_Md_setting (xs (Int32.toNatClampNeg (l3 + (1 : Int32)))) (xs (Int32.toNatClampNeg (l3 + (2 : Int32)))) I L).bind fun q413 => (if q409 = q413 then (f_Law_law_L18 sL xs n (l3 + (6 : Int32)) S Rf I L) else (some ((0 : Int32), S, I, L, Rf)))) else none) else none)) else none) else none) else (if x3 = (42 : Int32) then (if (0 ≤ (l3 + (1 : Int32)) ∧ (l3 + (1 : Int32)) < nI sL) then ((f_H_version (xs (Int32.toNatClampNeg (l3 + (1 : Int32)))) I L).bind fun q417 => (if (0 ≤ (l3 + (1 : Int32)) ∧ (l3 + (1 : Int32)) < nI sL) then ((f_Md_version (xs (Int32.toNatClampNeg (l3 + (1 : Int32)))) I L).bind fun q420 => (if q417 = q420 then (f_Law_law_L18 sL xs n (l3 + (6 : Int32)) S Rf I L) else (some ((0 : Int32), S, I, L, Rf)))) else none)) else none) else (if x3 = (43 : Int32) then (if (0 ≤ (l3 + (1 : Int32)) ∧ (l3 + (1 : Int32)) < nI sL) then (bnd (f_H_never (xs (Int32.toNatClampNeg (l3 + (1 : Int32))))) fun x424 => (if (0 ≤ (l3 + (1 : Int32)) ∧ (l3 + (1 : Int32)) < nI sL) then ((f_Md_never (xs (Int32.toNatClampNeg (l3 + (1 : Int32)))) I L).bind fun q426 => (if x424 = q426 then (f_Law_law_L18 sL xs n (l3 + (6 : Int32)) S Rf I L) else (some ((0 : Int32), S, I, L, Rf)))) else none)) else none) else (f_Law_law_L18 sL xs n (l3 + (6 : Int32)) S Rf I L)))))))))))))))))))))))))))))))))))))))))))))) else none))
set_option maxRecDepth 100000 in
set_option maxHeartbeats 4000000 in
theorem x_Law_law_L18 {G : xG} {sL : Nat} {xs : Nat → Int32} (hsL : xsL G = sL) (hxs : xsx G = xs) (hs3 : sL < 2147483648) : ∀ (n : Nat) {S : List xSh} {Rf : Nat → Nat → Option Nat} (hH : xTH S Rf) (hM : xTM S Rf) {l3 : Int32} {I : Nat → Nat → Int32} {L : Nat → Nat → Int64} {q : (Int32 × xH)}, f_Law_law_L18 sL xs n l3 S Rf I L = some q → X G 14 m_Law_law 18 [(0, .ref (xsb G)), (1, .ref (xP G 0)), (2, .ref (xP G 34)), (3, .int l3)] [] (S, I, L, Rf) (some (.int q.1), q.2) := by
  intro n
  induction n with
  | zero =>
    intro S Rf hH hM l3 I L q hf
    exact absurd (show none = some q from hf) (by simp)
  | succ n ih =>
    intro S Rf hH hM l3 I L q hf
    replace hf := (f_Law_law_L18.eq_2 _ _ _ _ _ _ _ _).symm.trans hf
    refine X_iload_n (pc := 18) (i := 3) 3 dL_law_18 rfl rfl ?_
    refine X_aload_n (pc := 19) (i := 0) 0 dL_law_19 rfl rfl ?_
    refine X_scl2 (pc := 20) hsL dL_law_20 ?_
    refine X_bipush (pc := 21) (6 : Int32) dL_law_21 (by decide) ?_
    refine X_isub (pc := 23) dL_law_23 ?_
    by_cases c1 : ((nI sL) - (6 : Int32)) < l3
    · replace hf := (if_pos c1).symm.trans hf
      refine X_icmp_gt_t (pc := 24) 1636 dL_law_24 (by decide) c1 ?_
      refine X_iconst (pc := 1636) (1 : Int32) dL_law_1636 (by decide) ?_
      cases hf
      exact X_zreturn (pc := 1637) rfl (nar_b (by decide)) dL_law_1637
    · replace hf := (if_neg c1).symm.trans hf
      refine X_icmp_gt_f (pc := 24) 1636 dL_law_24 (by decide) c1 ?_
      refine X_aload_n (pc := 27) (i := 0) 0 dL_law_27 rfl rfl ?_
      refine X_iload_n (pc := 28) (i := 3) 3 dL_law_28 rfl rfl ?_
      obtain ⟨c2, hf⟩ := gd_some hf
      refine X_scd2 (pc := 29) hsL hxs hs3 c2 dL_law_29 ?_
      refine X_bipush (pc := 30) (63 : Int32) dL_law_30 (by decide) ?_
      refine X_iand (pc := 32) dL_law_32 ?_
      obtain ⟨x3, ex3, hf⟩ := bnd_e hf
      refine X_tope ex3 ?_
      by_cases c4 : x3 = (0 : Int32)
      · replace hf := (if_pos c4).symm.trans hf
        refine X_tabIn (pc := 33) (off := 191) (0) 224 dL_law_33 (by rw [c4]; rfl) (by decide) ?_
        refine X_aload_n (pc := 224) (i := 1) 1 dL_law_224 rfl rfl ?_
        obtain ⟨q48, c49, hf⟩ := bd_some hf
        refine X_invV_i (pc := 225) (c_H_build (KP.H KP.rf hH) c49) ok_H_build (ci := 10) (sh_0 (KP.H KP.rf hH)) k_543 k_544 k_545 nd_4 (by decide) rfl (Nat.le_of_ble_eq_true rfl) dL_law_225 ?_
        refine X_aload_n (pc := 228) (i := 2) 2 dL_law_228 rfl rfl ?_
        obtain ⟨q50, c51, hf⟩ := bd_some hf
        refine X_invV_i (pc := 229) (c_Md_build (KP.M KP.rf hM) c51) ok_Md_build (ci := 11) (sh_34 (KP.M KP.rf hM)) k_1469 k_1203 k_1204 nd_4 (by decide) rfl (Nat.le_of_ble_eq_true rfl) dL_law_229 ?_
        by_cases c52 : q48.1 = q50.1
        · replace hf := (if_pos c52).symm.trans hf
          refine X_icmp_eq_t (pc := 232) 1630 dL_law_232 (by decide) c52 ?_
          refine X_iinc (pc := 1630) (i := 3) (q := 3) (v := (l3 + (6 : Int32))) [(3, .int (l3 + (6 : Int32))), (0, .ref (xsb G)), (1, .ref (xP G 0)), (2, .ref (xP G 34))] dL_law_1630 rfl rfl (by decide) rfl ?_
          refine X_goto (pc := 1633) 18 dL_law_1633 (by decide) ?_
          exact X_lvs [1, 2, 3, 0] rfl (ih (KP.H KP.rf hH) (KP.M KP.rf hM) hf)
        · replace hf := (if_neg c52).symm.trans hf
          refine X_icmp_eq_f (pc := 232) 1630 dL_law_232 (by decide) c52 ?_
          refine X_iconst (pc := 235) (0 : Int32) dL_law_235 (by decide) ?_
          cases hf
          exact X_zreturn (pc := 236) rfl (nar_b (by decide)) dL_law_236
      · replace hf := (if_neg c4).symm.trans hf
        by_cases c5 : x3 = (1 : Int32)
        · replace hf := (if_pos c5).symm.trans hf
          refine X_tabIn (pc := 33) (off := 204) (1) 237 dL_law_33 (by rw [c5]; rfl) (by decide) ?_
          refine X_aload_n (pc := 237) (i := 1) 1 dL_law_237 rfl rfl ?_
          obtain ⟨q53, c54, hf⟩ := bd_some hf
          refine X_invV_i (pc := 238) (c_H_arbor (KP.H KP.rf hH) c54) ok_H_arbor (ci := 10) (sh_0 (KP.H KP.rf hH)) k_547 k_548 k_549 nd_4 (by decide) rfl (Nat.le_of_ble_eq_true rfl) dL_law_238 ?_
          refine X_aload_n (pc := 241) (i := 2) 2 dL_law_241 rfl rfl ?_
          obtain ⟨q55, c56, hf⟩ := bd_some hf
          refine X_invV_i (pc := 242) (c_Md_arbor (KP.M KP.rf hM) c56) ok_Md_arbor (ci := 11) (sh_34 (KP.M KP.rf hM)) k_1470 k_1471 k_1472 nd_4 (by decide) rfl (Nat.le_of_ble_eq_true rfl) dL_law_242 ?_
          by_cases c57 : q53.1 = q55.1
          · replace hf := (if_pos c57).symm.trans hf
            refine X_icmp_eq_t (pc := 245) 1630 dL_law_245 (by decide) c57 ?_
            refine X_iinc (pc := 1630) (i := 3) (q := 3) (v := (l3 + (6 : Int32))) [(3, .int (l3 + (6 : Int32))), (0, .ref (xsb G)), (1, .ref (xP G 0)), (2, .ref (xP G 34))] dL_law_1630 rfl rfl (by decide) rfl ?_
            refine X_goto (pc := 1633) 18 dL_law_1633 (by decide) ?_
            exact X_lvs [1, 2, 3, 0] rfl (ih (KP.H KP.rf hH) (KP.M KP.rf hM) hf)
          · replace hf := (if_neg c57).symm.trans hf
            refine X_icmp_eq_f (pc := 245) 1630 dL_law_245 (by decide) c57 ?_
            refine X_iconst (pc := 248) (0 : Int32) dL_law_248 (by decide) ?_
            cases hf
            exact X_zreturn (pc := 249) rfl (nar_b (by decide)) dL_law_249
        · replace hf := (if_neg c5).symm.trans hf
          by_cases c6 : x3 = (2 : Int32)
          · replace hf := (if_pos c6).symm.trans hf
            refine X_tabIn (pc := 33) (off := 217) (2) 250 dL_law_33 (by rw [c6]; rfl) (by decide) ?_
            refine X_aload_n (pc := 250) (i := 1) 1 dL_law_250 rfl rfl ?_
            refine X_aload_n (pc := 251) (i := 0) 0 dL_law_251 rfl rfl ?_
            refine X_iload_n (pc := 252) (i := 3) 3 dL_law_252 rfl rfl ?_
            refine X_iconst (pc := 253) (1 : Int32) dL_law_253 (by decide) ?_
            refine X_iadd (pc := 254) dL_law_254 ?_
            obtain ⟨c58, hf⟩ := gd_some hf
            refine X_scd2 (pc := 255) hsL hxs hs3 c58 dL_law_255 ?_
            refine X_aload_n (pc := 256) (i := 0) 0 dL_law_256 rfl rfl ?_
            refine X_iload_n (pc := 257) (i := 3) 3 dL_law_257 rfl rfl ?_
            refine X_iconst (pc := 258) (2 : Int32) dL_law_258 (by decide) ?_
            refine X_iadd (pc := 259) dL_law_259 ?_
            obtain ⟨c59, hf⟩ := gd_some hf
            refine X_scd2 (pc := 260) hsL hxs hs3 c59 dL_law_260 ?_
            refine X_aload_n (pc := 261) (i := 0) 0 dL_law_261 rfl rfl ?_
            refine X_iload_n (pc := 262) (i := 3) 3 dL_law_262 rfl rfl ?_
            refine X_iconst (pc := 263) (3 : Int32) dL_law_263 (by decide) ?_
            refine X_iadd (pc := 264) dL_law_264 ?_
            obtain ⟨c60, hf⟩ := gd_some hf
            refine X_scd2 (pc := 265) hsL hxs hs3 c60 dL_law_265 ?_
            refine X_aload_n (pc := 266) (i := 0) 0 dL_law_266 rfl rfl ?_
            refine X_iload_n (pc := 267) (i := 3) 3 dL_law_267 rfl rfl ?_
            refine X_iconst (pc := 268) (4 : Int32) dL_law_268 (by decide) ?_
            refine X_iadd (pc := 269) dL_law_269 ?_
            obtain ⟨c61, hf⟩ := gd_some hf
            refine X_scd2 (pc := 270) hsL hxs hs3 c61 dL_law_270 ?_
            refine X_aload_n (pc := 271) (i := 0) 0 dL_law_271 rfl rfl ?_
            refine X_iload_n (pc := 272) (i := 3) 3 dL_law_272 rfl rfl ?_
            refine X_iconst (pc := 273) (5 : Int32) dL_law_273 (by decide) ?_
            refine X_iadd (pc := 274) dL_law_274 ?_
            obtain ⟨c62, hf⟩ := gd_some hf
            refine X_scd2 (pc := 275) hsL hxs hs3 c62 dL_law_275 ?_
            obtain ⟨q63, c64, hf⟩ := bd_some hf
            refine X_invV_i (pc := 276) (c_H_mesh (KP.H KP.rf hH) c64) ok_H_mesh (ci := 10) (sh_0 (KP.H KP.rf hH)) k_555 k_556 k_557 nd_34 (by decide) rfl (Nat.le_of_ble_eq_true rfl) dL_law_276 ?_
            refine X_aload_n (pc := 279) (i := 2) 2 dL_law_279 rfl rfl ?_
            refine X_aload_n (pc := 280) (i := 0) 0 dL_law_280 rfl rfl ?_
            refine X_iload_n (pc := 281) (i := 3) 3 dL_law_281 rfl rfl ?_
            refine X_iconst (pc := 282) (1 : Int32) dL_law_282 (by decide) ?_
            refine X_iadd (pc := 283) dL_law_283 ?_
            obtain ⟨c65, hf⟩ := gd_some hf
            refine X_scd2 (pc := 284) hsL hxs hs3 c65 dL_law_284 ?_
            refine X_aload_n (pc := 285) (i := 0) 0 dL_law_285 rfl rfl ?_
            refine X_iload_n (pc := 286) (i := 3) 3 dL_law_286 rfl rfl ?_
            refine X_iconst (pc := 287) (2 : Int32) dL_law_287 (by decide) ?_
            refine X_iadd (pc := 288) dL_law_288 ?_
            obtain ⟨c66, hf⟩ := gd_some hf
            refine X_scd2 (pc := 289) hsL hxs hs3 c66 dL_law_289 ?_
            refine X_aload_n (pc := 290) (i := 0) 0 dL_law_290 rfl rfl ?_
            refine X_iload_n (pc := 291) (i := 3) 3 dL_law_291 rfl rfl ?_
            refine X_iconst (pc := 292) (3 : Int32) dL_law_292 (by decide) ?_
            refine X_iadd (pc := 293) dL_law_293 ?_
            obtain ⟨c67, hf⟩ := gd_some hf
            refine X_scd2 (pc := 294) hsL hxs hs3 c67 dL_law_294 ?_
            refine X_aload_n (pc := 295) (i := 0) 0 dL_law_295 rfl rfl ?_
            refine X_iload_n (pc := 296) (i := 3) 3 dL_law_296 rfl rfl ?_
            refine X_iconst (pc := 297) (4 : Int32) dL_law_297 (by decide) ?_
            refine X_iadd (pc := 298) dL_law_298 ?_
            obtain ⟨c68, hf⟩ := gd_some hf
            refine X_scd2 (pc := 299) hsL hxs hs3 c68 dL_law_299 ?_
            refine X_aload_n (pc := 300) (i := 0) 0 dL_law_300 rfl rfl ?_
            refine X_iload_n (pc := 301) (i := 3) 3 dL_law_301 rfl rfl ?_
            refine X_iconst (pc := 302) (5 : Int32) dL_law_302 (by decide) ?_
            refine X_iadd (pc := 303) dL_law_303 ?_
            obtain ⟨c69, hf⟩ := gd_some hf
            refine X_scd2 (pc := 304) hsL hxs hs3 c69 dL_law_304 ?_
            obtain ⟨q70, c71, hf⟩ := bd_some hf
            refine X_invV_i (pc := 305) (c_Md_mesh (KP.M KP.rf hM) c71) ok_Md_mesh (ci := 11) (sh_34 (KP.M KP.rf hM)) k_1474 k_1475 k_1476 nd_34 (by decide) rfl (Nat.le_of_ble_eq_true rfl) dL_law_305 ?_
            by_cases c72 : q63.1 = q70.1
            · replace hf := (if_pos c72).symm.trans hf
              refine X_icmp_eq_t (pc := 308) 1630 dL_law_308 (by decide) c72 ?_
              refine X_iinc (pc := 1630) (i := 3) (q := 3) (v := (l3 + (6 : Int32))) [(3, .int (l3 + (6 : Int32))), (0, .ref (xsb G)), (1, .ref (xP G 0)), (2, .ref (xP G 34))] dL_law_1630 rfl rfl (by decide) rfl ?_
              refine X_goto (pc := 1633) 18 dL_law_1633 (by decide) ?_
              exact X_lvs [1, 2, 3, 0] rfl (ih (KP.H KP.rf hH) (KP.M KP.rf hM) hf)
            · replace hf := (if_neg c72).symm.trans hf
              refine X_icmp_eq_f (pc := 308) 1630 dL_law_308 (by decide) c72 ?_
              refine X_iconst (pc := 311) (0 : Int32) dL_law_311 (by decide) ?_
              cases hf
              exact X_zreturn (pc := 312) rfl (nar_b (by decide)) dL_law_312
          · replace hf := (if_neg c6).symm.trans hf
            by_cases c7 : x3 = (3 : Int32)
            · replace hf := (if_pos c7).symm.trans hf
              refine X_tabIn (pc := 33) (off := 280) (3) 313 dL_law_33 (by rw [c7]; rfl) (by decide) ?_
              refine X_aload_n (pc := 313) (i := 1) 1 dL_law_313 rfl rfl ?_
              refine X_aload_n (pc := 314) (i := 0) 0 dL_law_314 rfl rfl ?_
              refine X_iload_n (pc := 315) (i := 3) 3 dL_law_315 rfl rfl ?_
              refine X_iconst (pc := 316) (1 : Int32) dL_law_316 (by decide) ?_
              refine X_iadd (pc := 317) dL_law_317 ?_
              obtain ⟨c73, hf⟩ := gd_some hf
              refine X_scd2 (pc := 318) hsL hxs hs3 c73 dL_law_318 ?_
              refine X_aload_n (pc := 319) (i := 0) 0 dL_law_319 rfl rfl ?_
              refine X_iload_n (pc := 320) (i := 3) 3 dL_law_320 rfl rfl ?_
              refine X_iconst (pc := 321) (2 : Int32) dL_law_321 (by decide) ?_
              refine X_iadd (pc := 322) dL_law_322 ?_
              obtain ⟨c74, hf⟩ := gd_some hf
              refine X_scd2 (pc := 323) hsL hxs hs3 c74 dL_law_323 ?_
              refine X_aload_n (pc := 324) (i := 0) 0 dL_law_324 rfl rfl ?_
              refine X_iload_n (pc := 325) (i := 3) 3 dL_law_325 rfl rfl ?_
              refine X_iconst (pc := 326) (3 : Int32) dL_law_326 (by decide) ?_
              refine X_iadd (pc := 327) dL_law_327 ?_
              obtain ⟨c75, hf⟩ := gd_some hf
              refine X_scd2 (pc := 328) hsL hxs hs3 c75 dL_law_328 ?_
              refine X_aload_n (pc := 329) (i := 0) 0 dL_law_329 rfl rfl ?_
              refine X_iload_n (pc := 330) (i := 3) 3 dL_law_330 rfl rfl ?_
              refine X_iconst (pc := 331) (4 : Int32) dL_law_331 (by decide) ?_
              refine X_iadd (pc := 332) dL_law_332 ?_
              obtain ⟨c76, hf⟩ := gd_some hf
              refine X_scd2 (pc := 333) hsL hxs hs3 c76 dL_law_333 ?_
              refine X_aload_n (pc := 334) (i := 0) 0 dL_law_334 rfl rfl ?_
              refine X_iload_n (pc := 335) (i := 3) 3 dL_law_335 rfl rfl ?_
              refine X_iconst (pc := 336) (5 : Int32) dL_law_336 (by decide) ?_
              refine X_iadd (pc := 337) dL_law_337 ?_
              obtain ⟨c77, hf⟩ := gd_some hf
              refine X_scd2 (pc := 338) hsL hxs hs3 c77 dL_law_338 ?_
              obtain ⟨q78, c79, hf⟩ := bd_some hf
              refine X_invV_i (pc := 339) (c_H_epicycle (KP.H KP.rf hH) c79) ok_H_epicycle (ci := 10) (sh_0 (KP.H KP.rf hH)) k_609 k_610 k_611 nd_34 (by decide) rfl (Nat.le_of_ble_eq_true rfl) dL_law_339 ?_
              refine X_aload_n (pc := 342) (i := 2) 2 dL_law_342 rfl rfl ?_
              refine X_aload_n (pc := 343) (i := 0) 0 dL_law_343 rfl rfl ?_
              refine X_iload_n (pc := 344) (i := 3) 3 dL_law_344 rfl rfl ?_
              refine X_iconst (pc := 345) (1 : Int32) dL_law_345 (by decide) ?_
              refine X_iadd (pc := 346) dL_law_346 ?_
              obtain ⟨c80, hf⟩ := gd_some hf
              refine X_scd2 (pc := 347) hsL hxs hs3 c80 dL_law_347 ?_
              refine X_aload_n (pc := 348) (i := 0) 0 dL_law_348 rfl rfl ?_
              refine X_iload_n (pc := 349) (i := 3) 3 dL_law_349 rfl rfl ?_
              refine X_iconst (pc := 350) (2 : Int32) dL_law_350 (by decide) ?_
              refine X_iadd (pc := 351) dL_law_351 ?_
              obtain ⟨c81, hf⟩ := gd_some hf
              refine X_scd2 (pc := 352) hsL hxs hs3 c81 dL_law_352 ?_
              refine X_aload_n (pc := 353) (i := 0) 0 dL_law_353 rfl rfl ?_
              refine X_iload_n (pc := 354) (i := 3) 3 dL_law_354 rfl rfl ?_
              refine X_iconst (pc := 355) (3 : Int32) dL_law_355 (by decide) ?_
              refine X_iadd (pc := 356) dL_law_356 ?_
              obtain ⟨c82, hf⟩ := gd_some hf
              refine X_scd2 (pc := 357) hsL hxs hs3 c82 dL_law_357 ?_
              refine X_aload_n (pc := 358) (i := 0) 0 dL_law_358 rfl rfl ?_
              refine X_iload_n (pc := 359) (i := 3) 3 dL_law_359 rfl rfl ?_
              refine X_iconst (pc := 360) (4 : Int32) dL_law_360 (by decide) ?_
              refine X_iadd (pc := 361) dL_law_361 ?_
              obtain ⟨c83, hf⟩ := gd_some hf
              refine X_scd2 (pc := 362) hsL hxs hs3 c83 dL_law_362 ?_
              refine X_aload_n (pc := 363) (i := 0) 0 dL_law_363 rfl rfl ?_
              refine X_iload_n (pc := 364) (i := 3) 3 dL_law_364 rfl rfl ?_
              refine X_iconst (pc := 365) (5 : Int32) dL_law_365 (by decide) ?_
              refine X_iadd (pc := 366) dL_law_366 ?_
              obtain ⟨c84, hf⟩ := gd_some hf
              refine X_scd2 (pc := 367) hsL hxs hs3 c84 dL_law_367 ?_
              obtain ⟨q85, c86, hf⟩ := bd_some hf
              refine X_invV_i (pc := 368) (c_Md_epicycle (KP.M KP.rf hM) c86) ok_Md_epicycle (ci := 11) (sh_34 (KP.M KP.rf hM)) k_1490 k_1491 k_1492 nd_34 (by decide) rfl (Nat.le_of_ble_eq_true rfl) dL_law_368 ?_
              by_cases c87 : q78.1 = q85.1
              · replace hf := (if_pos c87).symm.trans hf
                refine X_icmp_eq_t (pc := 371) 1630 dL_law_371 (by decide) c87 ?_
                refine X_iinc (pc := 1630) (i := 3) (q := 3) (v := (l3 + (6 : Int32))) [(3, .int (l3 + (6 : Int32))), (0, .ref (xsb G)), (1, .ref (xP G 0)), (2, .ref (xP G 34))] dL_law_1630 rfl rfl (by decide) rfl ?_
                refine X_goto (pc := 1633) 18 dL_law_1633 (by decide) ?_
                exact X_lvs [1, 2, 3, 0] rfl (ih (KP.H KP.rf hH) (KP.M KP.rf hM) hf)
              · replace hf := (if_neg c87).symm.trans hf
                refine X_icmp_eq_f (pc := 371) 1630 dL_law_371 (by decide) c87 ?_
                refine X_iconst (pc := 374) (0 : Int32) dL_law_374 (by decide) ?_
                cases hf
                exact X_zreturn (pc := 375) rfl (nar_b (by decide)) dL_law_375
            · replace hf := (if_neg c7).symm.trans hf
              by_cases c8 : x3 = (4 : Int32)
              · replace hf := (if_pos c8).symm.trans hf
                refine X_tabIn (pc := 33) (off := 343) (4) 376 dL_law_33 (by rw [c8]; rfl) (by decide) ?_
                refine X_aload_n (pc := 376) (i := 1) 1 dL_law_376 rfl rfl ?_
                refine X_aload_n (pc := 377) (i := 0) 0 dL_law_377 rfl rfl ?_
                refine X_iload_n (pc := 378) (i := 3) 3 dL_law_378 rfl rfl ?_
                refine X_iconst (pc := 379) (1 : Int32) dL_law_379 (by decide) ?_
                refine X_iadd (pc := 380) dL_law_380 ?_
                obtain ⟨c88, hf⟩ := gd_some hf
                refine X_scd2 (pc := 381) hsL hxs hs3 c88 dL_law_381 ?_
                refine X_aload_n (pc := 382) (i := 0) 0 dL_law_382 rfl rfl ?_
                refine X_iload_n (pc := 383) (i := 3) 3 dL_law_383 rfl rfl ?_
                refine X_iconst (pc := 384) (2 : Int32) dL_law_384 (by decide) ?_
                refine X_iadd (pc := 385) dL_law_385 ?_
                obtain ⟨c89, hf⟩ := gd_some hf
                refine X_scd2 (pc := 386) hsL hxs hs3 c89 dL_law_386 ?_
                obtain ⟨q90, c91, hf⟩ := bd_some hf
                refine X_invV_i (pc := 387) (c_H_escape (KP.H KP.rf hH) c91) ok_H_escape (ci := 10) (sh_0 (KP.H KP.rf hH)) k_613 k_614 k_615 nd_21 (by decide) rfl (Nat.le_of_ble_eq_true rfl) dL_law_387 ?_
                refine X_aload_n (pc := 390) (i := 2) 2 dL_law_390 rfl rfl ?_
                refine X_aload_n (pc := 391) (i := 0) 0 dL_law_391 rfl rfl ?_
                refine X_iload_n (pc := 392) (i := 3) 3 dL_law_392 rfl rfl ?_
                refine X_iconst (pc := 393) (1 : Int32) dL_law_393 (by decide) ?_
                refine X_iadd (pc := 394) dL_law_394 ?_
                obtain ⟨c92, hf⟩ := gd_some hf
                refine X_scd2 (pc := 395) hsL hxs hs3 c92 dL_law_395 ?_
                refine X_aload_n (pc := 396) (i := 0) 0 dL_law_396 rfl rfl ?_
                refine X_iload_n (pc := 397) (i := 3) 3 dL_law_397 rfl rfl ?_
                refine X_iconst (pc := 398) (2 : Int32) dL_law_398 (by decide) ?_
                refine X_iadd (pc := 399) dL_law_399 ?_
                obtain ⟨c93, hf⟩ := gd_some hf
                refine X_scd2 (pc := 400) hsL hxs hs3 c93 dL_law_400 ?_
                obtain ⟨q94, c95, hf⟩ := bd_some hf
                refine X_invV_i (pc := 401) (c_Md_escape (KP.M KP.rf hM) c95) ok_Md_escape (ci := 11) (sh_34 (KP.M KP.rf hM)) k_1494 k_1495 k_1496 nd_21 (by decide) rfl (Nat.le_of_ble_eq_true rfl) dL_law_401 ?_
                by_cases c96 : q90.1 = q94.1
                · replace hf := (if_pos c96).symm.trans hf
                  refine X_icmp_eq_t (pc := 404) 1630 dL_law_404 (by decide) c96 ?_
                  refine X_iinc (pc := 1630) (i := 3) (q := 3) (v := (l3 + (6 : Int32))) [(3, .int (l3 + (6 : Int32))), (0, .ref (xsb G)), (1, .ref (xP G 0)), (2, .ref (xP G 34))] dL_law_1630 rfl rfl (by decide) rfl ?_
                  refine X_goto (pc := 1633) 18 dL_law_1633 (by decide) ?_
                  exact X_lvs [1, 2, 3, 0] rfl (ih (KP.H KP.rf hH) (KP.M KP.rf hM) hf)
                · replace hf := (if_neg c96).symm.trans hf
                  refine X_icmp_eq_f (pc := 404) 1630 dL_law_404 (by decide) c96 ?_
                  refine X_iconst (pc := 407) (0 : Int32) dL_law_407 (by decide) ?_
                  cases hf
                  exact X_zreturn (pc := 408) rfl (nar_b (by decide)) dL_law_408
              · replace hf := (if_neg c8).symm.trans hf
                by_cases c9 : x3 = (5 : Int32)
                · replace hf := (if_pos c9).symm.trans hf
                  refine X_tabIn (pc := 33) (off := 376) (5) 409 dL_law_33 (by rw [c9]; rfl) (by decide) ?_
                  refine X_aload_n (pc := 409) (i := 1) 1 dL_law_409 rfl rfl ?_
                  refine X_aload_n (pc := 410) (i := 0) 0 dL_law_410 rfl rfl ?_
                  refine X_iload_n (pc := 411) (i := 3) 3 dL_law_411 rfl rfl ?_
                  refine X_iconst (pc := 412) (1 : Int32) dL_law_412 (by decide) ?_
                  refine X_iadd (pc := 413) dL_law_413 ?_
                  obtain ⟨c97, hf⟩ := gd_some hf
                  refine X_scd2 (pc := 414) hsL hxs hs3 c97 dL_law_414 ?_
                  refine X_aload_n (pc := 415) (i := 0) 0 dL_law_415 rfl rfl ?_
                  refine X_iload_n (pc := 416) (i := 3) 3 dL_law_416 rfl rfl ?_
                  refine X_iconst (pc := 417) (2 : Int32) dL_law_417 (by decide) ?_
                  refine X_iadd (pc := 418) dL_law_418 ?_
                  obtain ⟨c98, hf⟩ := gd_some hf
                  refine X_scd2 (pc := 419) hsL hxs hs3 c98 dL_law_419 ?_
                  refine X_aload_n (pc := 420) (i := 0) 0 dL_law_420 rfl rfl ?_
                  refine X_iload_n (pc := 421) (i := 3) 3 dL_law_421 rfl rfl ?_
                  refine X_iconst (pc := 422) (3 : Int32) dL_law_422 (by decide) ?_
                  refine X_iadd (pc := 423) dL_law_423 ?_
                  obtain ⟨c99, hf⟩ := gd_some hf
                  refine X_scd2 (pc := 424) hsL hxs hs3 c99 dL_law_424 ?_
                  refine X_aload_n (pc := 425) (i := 0) 0 dL_law_425 rfl rfl ?_
                  refine X_iload_n (pc := 426) (i := 3) 3 dL_law_426 rfl rfl ?_
                  refine X_iconst (pc := 427) (4 : Int32) dL_law_427 (by decide) ?_
                  refine X_iadd (pc := 428) dL_law_428 ?_
                  obtain ⟨c100, hf⟩ := gd_some hf
                  refine X_scd2 (pc := 429) hsL hxs hs3 c100 dL_law_429 ?_
                  obtain ⟨q101, c102, hf⟩ := bd_some hf
                  refine X_invV_i (pc := 430) (c_H_balance (KP.H KP.rf hH) c102) ok_H_balance (ci := 10) (sh_0 (KP.H KP.rf hH)) k_621 k_622 k_623 nd_31 (by decide) rfl (Nat.le_of_ble_eq_true rfl) dL_law_430 ?_
                  refine X_aload_n (pc := 433) (i := 2) 2 dL_law_433 rfl rfl ?_
                  refine X_aload_n (pc := 434) (i := 0) 0 dL_law_434 rfl rfl ?_
                  refine X_iload_n (pc := 435) (i := 3) 3 dL_law_435 rfl rfl ?_
                  refine X_iconst (pc := 436) (1 : Int32) dL_law_436 (by decide) ?_
                  refine X_iadd (pc := 437) dL_law_437 ?_
                  obtain ⟨c103, hf⟩ := gd_some hf
                  refine X_scd2 (pc := 438) hsL hxs hs3 c103 dL_law_438 ?_
                  refine X_aload_n (pc := 439) (i := 0) 0 dL_law_439 rfl rfl ?_
                  refine X_iload_n (pc := 440) (i := 3) 3 dL_law_440 rfl rfl ?_
                  refine X_iconst (pc := 441) (2 : Int32) dL_law_441 (by decide) ?_
                  refine X_iadd (pc := 442) dL_law_442 ?_
                  obtain ⟨c104, hf⟩ := gd_some hf
                  refine X_scd2 (pc := 443) hsL hxs hs3 c104 dL_law_443 ?_
                  refine X_aload_n (pc := 444) (i := 0) 0 dL_law_444 rfl rfl ?_
                  refine X_iload_n (pc := 445) (i := 3) 3 dL_law_445 rfl rfl ?_
                  refine X_iconst (pc := 446) (3 : Int32) dL_law_446 (by decide) ?_
                  refine X_iadd (pc := 447) dL_law_447 ?_
                  obtain ⟨c105, hf⟩ := gd_some hf
                  refine X_scd2 (pc := 448) hsL hxs hs3 c105 dL_law_448 ?_
                  refine X_aload_n (pc := 449) (i := 0) 0 dL_law_449 rfl rfl ?_
                  refine X_iload_n (pc := 450) (i := 3) 3 dL_law_450 rfl rfl ?_
                  refine X_iconst (pc := 451) (4 : Int32) dL_law_451 (by decide) ?_
                  refine X_iadd (pc := 452) dL_law_452 ?_
                  obtain ⟨c106, hf⟩ := gd_some hf
                  refine X_scd2 (pc := 453) hsL hxs hs3 c106 dL_law_453 ?_
                  obtain ⟨q107, c108, hf⟩ := bd_some hf
                  refine X_invV_i (pc := 454) (c_Md_balance (KP.M KP.rf hM) c108) ok_Md_balance (ci := 11) (sh_34 (KP.M KP.rf hM)) k_1499 k_1500 k_1501 nd_31 (by decide) rfl (Nat.le_of_ble_eq_true rfl) dL_law_454 ?_
                  by_cases c109 : q101.1 = q107.1
                  · replace hf := (if_pos c109).symm.trans hf
                    refine X_icmp_eq_t (pc := 457) 1630 dL_law_457 (by decide) c109 ?_
                    refine X_iinc (pc := 1630) (i := 3) (q := 3) (v := (l3 + (6 : Int32))) [(3, .int (l3 + (6 : Int32))), (0, .ref (xsb G)), (1, .ref (xP G 0)), (2, .ref (xP G 34))] dL_law_1630 rfl rfl (by decide) rfl ?_
                    refine X_goto (pc := 1633) 18 dL_law_1633 (by decide) ?_
                    exact X_lvs [1, 2, 3, 0] rfl (ih (KP.H KP.rf hH) (KP.M KP.rf hM) hf)
                  · replace hf := (if_neg c109).symm.trans hf
                    refine X_icmp_eq_f (pc := 457) 1630 dL_law_457 (by decide) c109 ?_
                    refine X_iconst (pc := 460) (0 : Int32) dL_law_460 (by decide) ?_
                    cases hf
                    exact X_zreturn (pc := 461) rfl (nar_b (by decide)) dL_law_461
                · replace hf := (if_neg c9).symm.trans hf
                  by_cases c10 : x3 = (6 : Int32)
                  · replace hf := (if_pos c10).symm.trans hf
                    refine X_tabIn (pc := 33) (off := 429) (6) 462 dL_law_33 (by rw [c10]; rfl) (by decide) ?_
                    refine X_aload_n (pc := 462) (i := 1) 1 dL_law_462 rfl rfl ?_
                    refine X_aload_n (pc := 463) (i := 0) 0 dL_law_463 rfl rfl ?_
                    refine X_iload_n (pc := 464) (i := 3) 3 dL_law_464 rfl rfl ?_
                    refine X_iconst (pc := 465) (1 : Int32) dL_law_465 (by decide) ?_
                    refine X_iadd (pc := 466) dL_law_466 ?_
                    obtain ⟨c110, hf⟩ := gd_some hf
                    refine X_scd2 (pc := 467) hsL hxs hs3 c110 dL_law_467 ?_
                    obtain ⟨q111, c112, hf⟩ := bd_some hf
                    refine X_invV_i (pc := 468) (c_H_barrel (KP.H KP.rf hH) c112) ok_H_barrel (ci := 10) (sh_0 (KP.H KP.rf hH)) k_628 k_629 k_630 nd_8 (by decide) rfl (Nat.le_of_ble_eq_true rfl) dL_law_468 ?_
                    refine X_aload_n (pc := 471) (i := 2) 2 dL_law_471 rfl rfl ?_
                    refine X_aload_n (pc := 472) (i := 0) 0 dL_law_472 rfl rfl ?_
                    refine X_iload_n (pc := 473) (i := 3) 3 dL_law_473 rfl rfl ?_
                    refine X_iconst (pc := 474) (1 : Int32) dL_law_474 (by decide) ?_
                    refine X_iadd (pc := 475) dL_law_475 ?_
                    obtain ⟨c113, hf⟩ := gd_some hf
                    refine X_scd2 (pc := 476) hsL hxs hs3 c113 dL_law_476 ?_
                    obtain ⟨q114, c115, hf⟩ := bd_some hf
                    refine X_invV_i (pc := 477) (c_Md_barrel (KP.M KP.rf hM) c115) ok_Md_barrel (ci := 11) (sh_34 (KP.M KP.rf hM)) k_1507 k_1508 k_1509 nd_8 (by decide) rfl (Nat.le_of_ble_eq_true rfl) dL_law_477 ?_
                    by_cases c116 : q111.1 = q114.1
                    · replace hf := (if_pos c116).symm.trans hf
                      refine X_icmp_eq_t (pc := 480) 1630 dL_law_480 (by decide) c116 ?_
                      refine X_iinc (pc := 1630) (i := 3) (q := 3) (v := (l3 + (6 : Int32))) [(3, .int (l3 + (6 : Int32))), (0, .ref (xsb G)), (1, .ref (xP G 0)), (2, .ref (xP G 34))] dL_law_1630 rfl rfl (by decide) rfl ?_
                      refine X_goto (pc := 1633) 18 dL_law_1633 (by decide) ?_
                      exact X_lvs [1, 2, 3, 0] rfl (ih (KP.H KP.rf hH) (KP.M KP.rf hM) hf)
                    · replace hf := (if_neg c116).symm.trans hf
                      refine X_icmp_eq_f (pc := 480) 1630 dL_law_480 (by decide) c116 ?_
                      refine X_iconst (pc := 483) (0 : Int32) dL_law_483 (by decide) ?_
                      cases hf
                      exact X_zreturn (pc := 484) rfl (nar_b (by decide)) dL_law_484
                  · replace hf := (if_neg c10).symm.trans hf
                    by_cases c11 : x3 = (7 : Int32)
                    · replace hf := (if_pos c11).symm.trans hf
                      refine X_tabIn (pc := 33) (off := 452) (7) 485 dL_law_33 (by rw [c11]; rfl) (by decide) ?_
                      refine X_aload_n (pc := 485) (i := 1) 1 dL_law_485 rfl rfl ?_
                      refine X_aload_n (pc := 486) (i := 0) 0 dL_law_486 rfl rfl ?_
                      refine X_iload_n (pc := 487) (i := 3) 3 dL_law_487 rfl rfl ?_
                      refine X_iconst (pc := 488) (1 : Int32) dL_law_488 (by decide) ?_
                      refine X_iadd (pc := 489) dL_law_489 ?_
                      obtain ⟨c117, hf⟩ := gd_some hf
                      refine X_scd2 (pc := 490) hsL hxs hs3 c117 dL_law_490 ?_
                      refine X_aload_n (pc := 491) (i := 0) 0 dL_law_491 rfl rfl ?_
                      refine X_iload_n (pc := 492) (i := 3) 3 dL_law_492 rfl rfl ?_
                      refine X_iconst (pc := 493) (2 : Int32) dL_law_493 (by decide) ?_
                      refine X_iadd (pc := 494) dL_law_494 ?_
                      obtain ⟨c118, hf⟩ := gd_some hf
                      refine X_scd2 (pc := 495) hsL hxs hs3 c118 dL_law_495 ?_
                      obtain ⟨q119, c120, hf⟩ := bd_some hf
                      refine X_invV_i (pc := 496) (c_H_torque (KP.H KP.rf hH) c120) ok_H_torque (ci := 10) (sh_0 (KP.H KP.rf hH)) k_632 k_633 k_634 nd_21 (by decide) rfl (Nat.le_of_ble_eq_true rfl) dL_law_496 ?_
                      refine X_aload_n (pc := 499) (i := 2) 2 dL_law_499 rfl rfl ?_
                      refine X_aload_n (pc := 500) (i := 0) 0 dL_law_500 rfl rfl ?_
                      refine X_iload_n (pc := 501) (i := 3) 3 dL_law_501 rfl rfl ?_
                      refine X_iconst (pc := 502) (1 : Int32) dL_law_502 (by decide) ?_
                      refine X_iadd (pc := 503) dL_law_503 ?_
                      obtain ⟨c121, hf⟩ := gd_some hf
                      refine X_scd2 (pc := 504) hsL hxs hs3 c121 dL_law_504 ?_
                      refine X_aload_n (pc := 505) (i := 0) 0 dL_law_505 rfl rfl ?_
                      refine X_iload_n (pc := 506) (i := 3) 3 dL_law_506 rfl rfl ?_
                      refine X_iconst (pc := 507) (2 : Int32) dL_law_507 (by decide) ?_
                      refine X_iadd (pc := 508) dL_law_508 ?_
                      obtain ⟨c122, hf⟩ := gd_some hf
                      refine X_scd2 (pc := 509) hsL hxs hs3 c122 dL_law_509 ?_
                      obtain ⟨q123, c124, hf⟩ := bd_some hf
                      refine X_invV_i (pc := 510) (c_Md_torque (KP.M KP.rf hM) c124) ok_Md_torque (ci := 11) (sh_34 (KP.M KP.rf hM)) k_1511 k_1512 k_1513 nd_21 (by decide) rfl (Nat.le_of_ble_eq_true rfl) dL_law_510 ?_
                      by_cases c125 : q119.1 = q123.1
                      · replace hf := (if_pos c125).symm.trans hf
                        refine X_icmp_eq_t (pc := 513) 1630 dL_law_513 (by decide) c125 ?_
                        refine X_iinc (pc := 1630) (i := 3) (q := 3) (v := (l3 + (6 : Int32))) [(3, .int (l3 + (6 : Int32))), (0, .ref (xsb G)), (1, .ref (xP G 0)), (2, .ref (xP G 34))] dL_law_1630 rfl rfl (by decide) rfl ?_
                        refine X_goto (pc := 1633) 18 dL_law_1633 (by decide) ?_
                        exact X_lvs [1, 2, 3, 0] rfl (ih (KP.H KP.rf hH) (KP.M KP.rf hM) hf)
                      · replace hf := (if_neg c125).symm.trans hf
                        refine X_icmp_eq_f (pc := 513) 1630 dL_law_513 (by decide) c125 ?_
                        refine X_iconst (pc := 516) (0 : Int32) dL_law_516 (by decide) ?_
                        cases hf
                        exact X_zreturn (pc := 517) rfl (nar_b (by decide)) dL_law_517
                    · replace hf := (if_neg c11).symm.trans hf
                      by_cases c12 : x3 = (8 : Int32)
                      · replace hf := (if_pos c12).symm.trans hf
                        refine X_tabIn (pc := 33) (off := 485) (8) 518 dL_law_33 (by rw [c12]; rfl) (by decide) ?_
                        refine X_aload_n (pc := 518) (i := 1) 1 dL_law_518 rfl rfl ?_
                        refine X_aload_n (pc := 519) (i := 0) 0 dL_law_519 rfl rfl ?_
                        refine X_iload_n (pc := 520) (i := 3) 3 dL_law_520 rfl rfl ?_
                        refine X_iconst (pc := 521) (1 : Int32) dL_law_521 (by decide) ?_
                        refine X_iadd (pc := 522) dL_law_522 ?_
                        obtain ⟨c126, hf⟩ := gd_some hf
                        refine X_scd2 (pc := 523) hsL hxs hs3 c126 dL_law_523 ?_
                        refine X_aload_n (pc := 524) (i := 0) 0 dL_law_524 rfl rfl ?_
                        refine X_iload_n (pc := 525) (i := 3) 3 dL_law_525 rfl rfl ?_
                        refine X_iconst (pc := 526) (2 : Int32) dL_law_526 (by decide) ?_
                        refine X_iadd (pc := 527) dL_law_527 ?_
                        obtain ⟨c127, hf⟩ := gd_some hf
                        refine X_scd2 (pc := 528) hsL hxs hs3 c127 dL_law_528 ?_
                        obtain ⟨q128, c129, hf⟩ := bd_some hf
                        refine X_invV_i (pc := 529) (c_H_dial (KP.H KP.rf hH) c129) ok_H_dial (ci := 10) (sh_0 (KP.H KP.rf hH)) k_637 k_638 k_639 nd_21 (by decide) rfl (Nat.le_of_ble_eq_true rfl) dL_law_529 ?_
                        refine X_aload_n (pc := 532) (i := 2) 2 dL_law_532 rfl rfl ?_
                        refine X_aload_n (pc := 533) (i := 0) 0 dL_law_533 rfl rfl ?_
                        refine X_iload_n (pc := 534) (i := 3) 3 dL_law_534 rfl rfl ?_
                        refine X_iconst (pc := 535) (1 : Int32) dL_law_535 (by decide) ?_
                        refine X_iadd (pc := 536) dL_law_536 ?_
                        obtain ⟨c130, hf⟩ := gd_some hf
                        refine X_scd2 (pc := 537) hsL hxs hs3 c130 dL_law_537 ?_
                        refine X_aload_n (pc := 538) (i := 0) 0 dL_law_538 rfl rfl ?_
                        refine X_iload_n (pc := 539) (i := 3) 3 dL_law_539 rfl rfl ?_
                        refine X_iconst (pc := 540) (2 : Int32) dL_law_540 (by decide) ?_
                        refine X_iadd (pc := 541) dL_law_541 ?_
                        obtain ⟨c131, hf⟩ := gd_some hf
                        refine X_scd2 (pc := 542) hsL hxs hs3 c131 dL_law_542 ?_
                        obtain ⟨q132, c133, hf⟩ := bd_some hf
                        refine X_invV_i (pc := 543) (c_Md_dial (KP.M (KP.tr KP.rf (t_H_dial (q := q128) c129)) hM) c133) ok_Md_dial (ci := 11) (sh_34 (KP.M (KP.tr KP.rf (t_H_dial (q := q128) c129)) hM)) k_1517 k_1518 k_1519 nd_21 (by decide) rfl (Nat.le_of_ble_eq_true rfl) dL_law_543 ?_
                        by_cases c134 : q128.1 = q132.1
                        · replace hf := (if_pos c134).symm.trans hf
                          refine X_icmp_eq_t (pc := 546) 1630 dL_law_546 (by decide) c134 ?_
                          refine X_iinc (pc := 1630) (i := 3) (q := 3) (v := (l3 + (6 : Int32))) [(3, .int (l3 + (6 : Int32))), (0, .ref (xsb G)), (1, .ref (xP G 0)), (2, .ref (xP G 34))] dL_law_1630 rfl rfl (by decide) rfl ?_
                          refine X_goto (pc := 1633) 18 dL_law_1633 (by decide) ?_
                          exact X_lvs [1, 2, 3, 0] rfl (ih (KP.H (KP.tr KP.rf (t_H_dial (q := q128) c129)) hH) (KP.M (KP.tr KP.rf (t_H_dial (q := q128) c129)) hM) hf)
                        · replace hf := (if_neg c134).symm.trans hf
                          refine X_icmp_eq_f (pc := 546) 1630 dL_law_546 (by decide) c134 ?_
                          refine X_iconst (pc := 549) (0 : Int32) dL_law_549 (by decide) ?_
                          cases hf
                          exact X_zreturn (pc := 550) rfl (nar_b (by decide)) dL_law_550
                      · replace hf := (if_neg c12).symm.trans hf
                        by_cases c13 : x3 = (9 : Int32)
                        · replace hf := (if_pos c13).symm.trans hf
                          refine X_tabIn (pc := 33) (off := 518) (9) 551 dL_law_33 (by rw [c13]; rfl) (by decide) ?_
                          refine X_aload_n (pc := 551) (i := 1) 1 dL_law_551 rfl rfl ?_
                          refine X_aload_n (pc := 552) (i := 0) 0 dL_law_552 rfl rfl ?_
                          refine X_iload_n (pc := 553) (i := 3) 3 dL_law_553 rfl rfl ?_
                          refine X_iconst (pc := 554) (1 : Int32) dL_law_554 (by decide) ?_
                          refine X_iadd (pc := 555) dL_law_555 ?_
                          obtain ⟨c135, hf⟩ := gd_some hf
                          refine X_scd2 (pc := 556) hsL hxs hs3 c135 dL_law_556 ?_
                          refine X_aload_n (pc := 557) (i := 0) 0 dL_law_557 rfl rfl ?_
                          refine X_iload_n (pc := 558) (i := 3) 3 dL_law_558 rfl rfl ?_
                          refine X_iconst (pc := 559) (2 : Int32) dL_law_559 (by decide) ?_
                          refine X_iadd (pc := 560) dL_law_560 ?_
                          obtain ⟨c136, hf⟩ := gd_some hf
                          refine X_scd2 (pc := 561) hsL hxs hs3 c136 dL_law_561 ?_
                          refine X_aload_n (pc := 562) (i := 0) 0 dL_law_562 rfl rfl ?_
                          refine X_iload_n (pc := 563) (i := 3) 3 dL_law_563 rfl rfl ?_
                          refine X_iconst (pc := 564) (3 : Int32) dL_law_564 (by decide) ?_
                          refine X_iadd (pc := 565) dL_law_565 ?_
                          obtain ⟨c137, hf⟩ := gd_some hf
                          refine X_scd2 (pc := 566) hsL hxs hs3 c137 dL_law_566 ?_
                          refine X_aload_n (pc := 567) (i := 0) 0 dL_law_567 rfl rfl ?_
                          refine X_iload_n (pc := 568) (i := 3) 3 dL_law_568 rfl rfl ?_
                          refine X_iconst (pc := 569) (4 : Int32) dL_law_569 (by decide) ?_
                          refine X_iadd (pc := 570) dL_law_570 ?_
                          obtain ⟨c138, hf⟩ := gd_some hf
                          refine X_scd2 (pc := 571) hsL hxs hs3 c138 dL_law_571 ?_
                          refine X_aload_n (pc := 572) (i := 0) 0 dL_law_572 rfl rfl ?_
                          refine X_iload_n (pc := 573) (i := 3) 3 dL_law_573 rfl rfl ?_
                          refine X_iconst (pc := 574) (5 : Int32) dL_law_574 (by decide) ?_
                          refine X_iadd (pc := 575) dL_law_575 ?_
                          obtain ⟨c139, hf⟩ := gd_some hf
                          refine X_scd2 (pc := 576) hsL hxs hs3 c139 dL_law_576 ?_
                          obtain ⟨q140, c141, hf⟩ := bd_some hf
                          refine X_invV_i (pc := 577) (c_H_calendar (KP.H KP.rf hH) c141) ok_H_calendar (ci := 10) (sh_0 (KP.H KP.rf hH)) k_670 k_671 k_672 nd_34 (by decide) rfl (Nat.le_of_ble_eq_true rfl) dL_law_577 ?_
                          refine X_aload_n (pc := 580) (i := 2) 2 dL_law_580 rfl rfl ?_
                          refine X_aload_n (pc := 581) (i := 0) 0 dL_law_581 rfl rfl ?_
                          refine X_iload_n (pc := 582) (i := 3) 3 dL_law_582 rfl rfl ?_
                          refine X_iconst (pc := 583) (1 : Int32) dL_law_583 (by decide) ?_
                          refine X_iadd (pc := 584) dL_law_584 ?_
                          obtain ⟨c142, hf⟩ := gd_some hf
                          refine X_scd2 (pc := 585) hsL hxs hs3 c142 dL_law_585 ?_
                          refine X_aload_n (pc := 586) (i := 0) 0 dL_law_586 rfl rfl ?_
                          refine X_iload_n (pc := 587) (i := 3) 3 dL_law_587 rfl rfl ?_
                          refine X_iconst (pc := 588) (2 : Int32) dL_law_588 (by decide) ?_
                          refine X_iadd (pc := 589) dL_law_589 ?_
                          obtain ⟨c143, hf⟩ := gd_some hf
                          refine X_scd2 (pc := 590) hsL hxs hs3 c143 dL_law_590 ?_
                          refine X_aload_n (pc := 591) (i := 0) 0 dL_law_591 rfl rfl ?_
                          refine X_iload_n (pc := 592) (i := 3) 3 dL_law_592 rfl rfl ?_
                          refine X_iconst (pc := 593) (3 : Int32) dL_law_593 (by decide) ?_
                          refine X_iadd (pc := 594) dL_law_594 ?_
                          obtain ⟨c144, hf⟩ := gd_some hf
                          refine X_scd2 (pc := 595) hsL hxs hs3 c144 dL_law_595 ?_
                          refine X_aload_n (pc := 596) (i := 0) 0 dL_law_596 rfl rfl ?_
                          refine X_iload_n (pc := 597) (i := 3) 3 dL_law_597 rfl rfl ?_
                          refine X_iconst (pc := 598) (4 : Int32) dL_law_598 (by decide) ?_
                          refine X_iadd (pc := 599) dL_law_599 ?_
                          obtain ⟨c145, hf⟩ := gd_some hf
                          refine X_scd2 (pc := 600) hsL hxs hs3 c145 dL_law_600 ?_
                          refine X_aload_n (pc := 601) (i := 0) 0 dL_law_601 rfl rfl ?_
                          refine X_iload_n (pc := 602) (i := 3) 3 dL_law_602 rfl rfl ?_
                          refine X_iconst (pc := 603) (5 : Int32) dL_law_603 (by decide) ?_
                          refine X_iadd (pc := 604) dL_law_604 ?_
                          obtain ⟨c146, hf⟩ := gd_some hf
                          refine X_scd2 (pc := 605) hsL hxs hs3 c146 dL_law_605 ?_
                          obtain ⟨q147, c148, hf⟩ := bd_some hf
                          refine X_invV_i (pc := 606) (c_Md_calendar (KP.M (KP.tr KP.rf (t_H_calendar (q := q140) c141)) hM) c148) ok_Md_calendar (ci := 11) (sh_34 (KP.M (KP.tr KP.rf (t_H_calendar (q := q140) c141)) hM)) k_1526 k_1527 k_1528 nd_34 (by decide) rfl (Nat.le_of_ble_eq_true rfl) dL_law_606 ?_
                          by_cases c149 : q140.1 = q147.1
                          · replace hf := (if_pos c149).symm.trans hf
                            refine X_icmp_eq_t (pc := 609) 1630 dL_law_609 (by decide) c149 ?_
                            refine X_iinc (pc := 1630) (i := 3) (q := 3) (v := (l3 + (6 : Int32))) [(3, .int (l3 + (6 : Int32))), (0, .ref (xsb G)), (1, .ref (xP G 0)), (2, .ref (xP G 34))] dL_law_1630 rfl rfl (by decide) rfl ?_
                            refine X_goto (pc := 1633) 18 dL_law_1633 (by decide) ?_
                            exact X_lvs [1, 2, 3, 0] rfl (ih (KP.H (KP.tr KP.rf (t_H_calendar (q := q140) c141)) hH) (KP.M (KP.tr KP.rf (t_H_calendar (q := q140) c141)) hM) hf)
                          · replace hf := (if_neg c149).symm.trans hf
                            refine X_icmp_eq_f (pc := 609) 1630 dL_law_609 (by decide) c149 ?_
                            refine X_iconst (pc := 612) (0 : Int32) dL_law_612 (by decide) ?_
                            cases hf
                            exact X_zreturn (pc := 613) rfl (nar_b (by decide)) dL_law_613
                        · replace hf := (if_neg c13).symm.trans hf
                          by_cases c14 : x3 = (10 : Int32)
                          · replace hf := (if_pos c14).symm.trans hf
                            refine X_tabIn (pc := 33) (off := 581) (10) 614 dL_law_33 (by rw [c14]; rfl) (by decide) ?_
                            refine X_aload_n (pc := 614) (i := 1) 1 dL_law_614 rfl rfl ?_
                            refine X_aload_n (pc := 615) (i := 0) 0 dL_law_615 rfl rfl ?_
                            refine X_iload_n (pc := 616) (i := 3) 3 dL_law_616 rfl rfl ?_
                            refine X_iconst (pc := 617) (1 : Int32) dL_law_617 (by decide) ?_
                            refine X_iadd (pc := 618) dL_law_618 ?_
                            obtain ⟨c150, hf⟩ := gd_some hf
                            refine X_scd2 (pc := 619) hsL hxs hs3 c150 dL_law_619 ?_
                            refine X_aload_n (pc := 620) (i := 0) 0 dL_law_620 rfl rfl ?_
                            refine X_iload_n (pc := 621) (i := 3) 3 dL_law_621 rfl rfl ?_
                            refine X_iconst (pc := 622) (2 : Int32) dL_law_622 (by decide) ?_
                            refine X_iadd (pc := 623) dL_law_623 ?_
                            obtain ⟨c151, hf⟩ := gd_some hf
                            refine X_scd2 (pc := 624) hsL hxs hs3 c151 dL_law_624 ?_
                            obtain ⟨q152, c153, hf⟩ := bd_some hf
                            refine X_invV_i (pc := 625) (c_H_strike (KP.H KP.rf hH) c153) ok_H_strike (ci := 10) (sh_0 (KP.H KP.rf hH)) k_682 k_683 k_684 nd_21 (by decide) rfl (Nat.le_of_ble_eq_true rfl) dL_law_625 ?_
                            refine X_aload_n (pc := 628) (i := 2) 2 dL_law_628 rfl rfl ?_
                            refine X_aload_n (pc := 629) (i := 0) 0 dL_law_629 rfl rfl ?_
                            refine X_iload_n (pc := 630) (i := 3) 3 dL_law_630 rfl rfl ?_
                            refine X_iconst (pc := 631) (1 : Int32) dL_law_631 (by decide) ?_
                            refine X_iadd (pc := 632) dL_law_632 ?_
                            obtain ⟨c154, hf⟩ := gd_some hf
                            refine X_scd2 (pc := 633) hsL hxs hs3 c154 dL_law_633 ?_
                            refine X_aload_n (pc := 634) (i := 0) 0 dL_law_634 rfl rfl ?_
                            refine X_iload_n (pc := 635) (i := 3) 3 dL_law_635 rfl rfl ?_
                            refine X_iconst (pc := 636) (2 : Int32) dL_law_636 (by decide) ?_
                            refine X_iadd (pc := 637) dL_law_637 ?_
                            obtain ⟨c155, hf⟩ := gd_some hf
                            refine X_scd2 (pc := 638) hsL hxs hs3 c155 dL_law_638 ?_
                            obtain ⟨q156, c157, hf⟩ := bd_some hf
                            refine X_invV_i (pc := 639) (c_Md_strike (KP.M (KP.tr KP.rf (t_H_strike (q := q152) c153)) hM) c157) ok_Md_strike (ci := 11) (sh_34 (KP.M (KP.tr KP.rf (t_H_strike (q := q152) c153)) hM)) k_1536 k_1537 k_1538 nd_21 (by decide) rfl (Nat.le_of_ble_eq_true rfl) dL_law_639 ?_
                            by_cases c158 : q152.1 = q156.1
                            · replace hf := (if_pos c158).symm.trans hf
                              refine X_icmp_eq_t (pc := 642) 1630 dL_law_642 (by decide) c158 ?_
                              refine X_iinc (pc := 1630) (i := 3) (q := 3) (v := (l3 + (6 : Int32))) [(3, .int (l3 + (6 : Int32))), (0, .ref (xsb G)), (1, .ref (xP G 0)), (2, .ref (xP G 34))] dL_law_1630 rfl rfl (by decide) rfl ?_
                              refine X_goto (pc := 1633) 18 dL_law_1633 (by decide) ?_
                              exact X_lvs [1, 2, 3, 0] rfl (ih (KP.H (KP.tr KP.rf (t_H_strike (q := q152) c153)) hH) (KP.M (KP.tr KP.rf (t_H_strike (q := q152) c153)) hM) hf)
                            · replace hf := (if_neg c158).symm.trans hf
                              refine X_icmp_eq_f (pc := 642) 1630 dL_law_642 (by decide) c158 ?_
                              refine X_iconst (pc := 645) (0 : Int32) dL_law_645 (by decide) ?_
                              cases hf
                              exact X_zreturn (pc := 646) rfl (nar_b (by decide)) dL_law_646
                          · replace hf := (if_neg c14).symm.trans hf
                            by_cases c15 : x3 = (11 : Int32)
                            · replace hf := (if_pos c15).symm.trans hf
                              refine X_tabIn (pc := 33) (off := 614) (11) 647 dL_law_33 (by rw [c15]; rfl) (by decide) ?_
                              refine X_aload_n (pc := 647) (i := 1) 1 dL_law_647 rfl rfl ?_
                              refine X_aload_n (pc := 648) (i := 0) 0 dL_law_648 rfl rfl ?_
                              refine X_iload_n (pc := 649) (i := 3) 3 dL_law_649 rfl rfl ?_
                              refine X_iconst (pc := 650) (1 : Int32) dL_law_650 (by decide) ?_
                              refine X_iadd (pc := 651) dL_law_651 ?_
                              obtain ⟨c159, hf⟩ := gd_some hf
                              refine X_scd2 (pc := 652) hsL hxs hs3 c159 dL_law_652 ?_
                              obtain ⟨q160, c161, hf⟩ := bd_some hf
                              refine X_invV_i (pc := 653) (c_H_chronograph (KP.H KP.rf hH) c161) ok_H_chronograph (ci := 10) (sh_0 (KP.H KP.rf hH)) k_690 k_691 k_692 nd_8 (by decide) rfl (Nat.le_of_ble_eq_true rfl) dL_law_653 ?_
                              refine X_aload_n (pc := 656) (i := 2) 2 dL_law_656 rfl rfl ?_
                              refine X_aload_n (pc := 657) (i := 0) 0 dL_law_657 rfl rfl ?_
                              refine X_iload_n (pc := 658) (i := 3) 3 dL_law_658 rfl rfl ?_
                              refine X_iconst (pc := 659) (1 : Int32) dL_law_659 (by decide) ?_
                              refine X_iadd (pc := 660) dL_law_660 ?_
                              obtain ⟨c162, hf⟩ := gd_some hf
                              refine X_scd2 (pc := 661) hsL hxs hs3 c162 dL_law_661 ?_
                              obtain ⟨q163, c164, hf⟩ := bd_some hf
                              refine X_invV_i (pc := 662) (c_Md_chronograph (KP.M KP.rf hM) c164) ok_Md_chronograph (ci := 11) (sh_34 (KP.M KP.rf hM)) k_1540 k_1541 k_1542 nd_8 (by decide) rfl (Nat.le_of_ble_eq_true rfl) dL_law_662 ?_
                              by_cases c165 : q160.1 = q163.1
                              · replace hf := (if_pos c165).symm.trans hf
                                refine X_icmp_eq_t (pc := 665) 1630 dL_law_665 (by decide) c165 ?_
                                refine X_iinc (pc := 1630) (i := 3) (q := 3) (v := (l3 + (6 : Int32))) [(3, .int (l3 + (6 : Int32))), (0, .ref (xsb G)), (1, .ref (xP G 0)), (2, .ref (xP G 34))] dL_law_1630 rfl rfl (by decide) rfl ?_
                                refine X_goto (pc := 1633) 18 dL_law_1633 (by decide) ?_
                                exact X_lvs [1, 2, 3, 0] rfl (ih (KP.H KP.rf hH) (KP.M KP.rf hM) hf)
                              · replace hf := (if_neg c165).symm.trans hf
                                refine X_icmp_eq_f (pc := 665) 1630 dL_law_665 (by decide) c165 ?_
                                refine X_iconst (pc := 668) (0 : Int32) dL_law_668 (by decide) ?_
                                cases hf
                                exact X_zreturn (pc := 669) rfl (nar_b (by decide)) dL_law_669
                            · replace hf := (if_neg c15).symm.trans hf
                              by_cases c16 : x3 = (12 : Int32)
                              · replace hf := (if_pos c16).symm.trans hf
                                refine X_tabIn (pc := 33) (off := 637) (12) 670 dL_law_33 (by rw [c16]; rfl) (by decide) ?_
                                refine X_aload_n (pc := 670) (i := 1) 1 dL_law_670 rfl rfl ?_
                                obtain ⟨q166, c167, hf⟩ := bd_some hf
                                refine X_invV_i (pc := 671) (c_H_go (KP.H KP.rf hH) c167) ok_H_go (ci := 10) (sh_0 (KP.H KP.rf hH)) k_706 k_707 k_708 nd_4 (by decide) rfl (Nat.le_of_ble_eq_true rfl) dL_law_671 ?_
                                refine X_aload_n (pc := 674) (i := 2) 2 dL_law_674 rfl rfl ?_
                                obtain ⟨q168, c169, hf⟩ := bd_some hf
                                refine X_invV_i (pc := 675) (c_Md_go (KP.M KP.rf hM) c169) ok_Md_go (ci := 11) (sh_34 (KP.M KP.rf hM)) k_1544 k_1545 k_1546 nd_4 (by decide) rfl (Nat.le_of_ble_eq_true rfl) dL_law_675 ?_
                                by_cases c170 : q166.1 = q168.1
                                · replace hf := (if_pos c170).symm.trans hf
                                  refine X_icmp_eq_t (pc := 678) 1630 dL_law_678 (by decide) c170 ?_
                                  refine X_iinc (pc := 1630) (i := 3) (q := 3) (v := (l3 + (6 : Int32))) [(3, .int (l3 + (6 : Int32))), (0, .ref (xsb G)), (1, .ref (xP G 0)), (2, .ref (xP G 34))] dL_law_1630 rfl rfl (by decide) rfl ?_
                                  refine X_goto (pc := 1633) 18 dL_law_1633 (by decide) ?_
                                  exact X_lvs [1, 2, 3, 0] rfl (ih (KP.H KP.rf hH) (KP.M KP.rf hM) hf)
                                · replace hf := (if_neg c170).symm.trans hf
                                  refine X_icmp_eq_f (pc := 678) 1630 dL_law_678 (by decide) c170 ?_
                                  refine X_iconst (pc := 681) (0 : Int32) dL_law_681 (by decide) ?_
                                  cases hf
                                  exact X_zreturn (pc := 682) rfl (nar_b (by decide)) dL_law_682
                              · replace hf := (if_neg c16).symm.trans hf
                                by_cases c17 : x3 = (13 : Int32)
                                · replace hf := (if_pos c17).symm.trans hf
                                  refine X_tabIn (pc := 33) (off := 650) (13) 683 dL_law_33 (by rw [c17]; rfl) (by decide) ?_
                                  refine X_aload_n (pc := 683) (i := 1) 1 dL_law_683 rfl rfl ?_
                                  refine X_aload_n (pc := 684) (i := 0) 0 dL_law_684 rfl rfl ?_
                                  refine X_iload_n (pc := 685) (i := 3) 3 dL_law_685 rfl rfl ?_
                                  refine X_iconst (pc := 686) (1 : Int32) dL_law_686 (by decide) ?_
                                  refine X_iadd (pc := 687) dL_law_687 ?_
                                  obtain ⟨c171, hf⟩ := gd_some hf
                                  refine X_scd2 (pc := 688) hsL hxs hs3 c171 dL_law_688 ?_
                                  obtain ⟨q172, c173, hf⟩ := bd_some hf
                                  refine X_invV_i (pc := 689) (c_H_run (KP.H KP.rf hH) c173) ok_H_run (ci := 10) (sh_0 (KP.H KP.rf hH)) k_718 k_719 k_720 nd_8 (by decide) rfl (Nat.le_of_ble_eq_true rfl) dL_law_689 ?_
                                  refine X_aload_n (pc := 692) (i := 2) 2 dL_law_692 rfl rfl ?_
                                  refine X_aload_n (pc := 693) (i := 0) 0 dL_law_693 rfl rfl ?_
                                  refine X_iload_n (pc := 694) (i := 3) 3 dL_law_694 rfl rfl ?_
                                  refine X_iconst (pc := 695) (1 : Int32) dL_law_695 (by decide) ?_
                                  refine X_iadd (pc := 696) dL_law_696 ?_
                                  obtain ⟨c174, hf⟩ := gd_some hf
                                  refine X_scd2 (pc := 697) hsL hxs hs3 c174 dL_law_697 ?_
                                  obtain ⟨q175, c176, hf⟩ := bd_some hf
                                  refine X_invV_i (pc := 698) (c_Md_run (KP.M KP.rf hM) c176) ok_Md_run (ci := 11) (sh_34 (KP.M KP.rf hM)) k_1573 k_1574 k_1575 nd_8 (by decide) rfl (Nat.le_of_ble_eq_true rfl) dL_law_698 ?_
                                  by_cases c177 : q172.1 = q175.1
                                  · replace hf := (if_pos c177).symm.trans hf
                                    refine X_icmp_eq_t (pc := 701) 1630 dL_law_701 (by decide) c177 ?_
                                    refine X_iinc (pc := 1630) (i := 3) (q := 3) (v := (l3 + (6 : Int32))) [(3, .int (l3 + (6 : Int32))), (0, .ref (xsb G)), (1, .ref (xP G 0)), (2, .ref (xP G 34))] dL_law_1630 rfl rfl (by decide) rfl ?_
                                    refine X_goto (pc := 1633) 18 dL_law_1633 (by decide) ?_
                                    exact X_lvs [1, 2, 3, 0] rfl (ih (KP.H KP.rf hH) (KP.M KP.rf hM) hf)
                                  · replace hf := (if_neg c177).symm.trans hf
                                    refine X_icmp_eq_f (pc := 701) 1630 dL_law_701 (by decide) c177 ?_
                                    refine X_iconst (pc := 704) (0 : Int32) dL_law_704 (by decide) ?_
                                    cases hf
                                    exact X_zreturn (pc := 705) rfl (nar_b (by decide)) dL_law_705
                                · replace hf := (if_neg c17).symm.trans hf
                                  by_cases c18 : x3 = (14 : Int32)
                                  · replace hf := (if_pos c18).symm.trans hf
                                    refine X_tabIn (pc := 33) (off := 673) (14) 706 dL_law_33 (by rw [c18]; rfl) (by decide) ?_
                                    refine X_aload_n (pc := 706) (i := 1) 1 dL_law_706 rfl rfl ?_
                                    refine X_aload_n (pc := 707) (i := 0) 0 dL_law_707 rfl rfl ?_
                                    refine X_iload_n (pc := 708) (i := 3) 3 dL_law_708 rfl rfl ?_
                                    refine X_iconst (pc := 709) (1 : Int32) dL_law_709 (by decide) ?_
                                    refine X_iadd (pc := 710) dL_law_710 ?_
                                    obtain ⟨c178, hf⟩ := gd_some hf
                                    refine X_scd2 (pc := 711) hsL hxs hs3 c178 dL_law_711 ?_
                                    obtain ⟨q179, c180, hf⟩ := bd_some hf
                                    refine X_invV_i (pc := 712) (c_H_shock (KP.H KP.rf hH) c180) ok_H_shock (ci := 10) (sh_0 (KP.H KP.rf hH)) k_833 k_834 k_835 nd_8 (by decide) rfl (Nat.le_of_ble_eq_true rfl) dL_law_712 ?_
                                    refine X_aload_n (pc := 715) (i := 2) 2 dL_law_715 rfl rfl ?_
                                    refine X_aload_n (pc := 716) (i := 0) 0 dL_law_716 rfl rfl ?_
                                    refine X_iload_n (pc := 717) (i := 3) 3 dL_law_717 rfl rfl ?_
                                    refine X_iconst (pc := 718) (1 : Int32) dL_law_718 (by decide) ?_
                                    refine X_iadd (pc := 719) dL_law_719 ?_
                                    obtain ⟨c181, hf⟩ := gd_some hf
                                    refine X_scd2 (pc := 720) hsL hxs hs3 c181 dL_law_720 ?_
                                    obtain ⟨q182, c183, hf⟩ := bd_some hf
                                    refine X_invV_i (pc := 721) (c_Md_shock (KP.M KP.rf hM) c183) ok_Md_shock (ci := 11) (sh_34 (KP.M KP.rf hM)) k_1643 k_1644 k_1645 nd_8 (by decide) rfl (Nat.le_of_ble_eq_true rfl) dL_law_721 ?_
                                    by_cases c184 : q179.1 = q182.1
                                    · replace hf := (if_pos c184).symm.trans hf
                                      refine X_icmp_eq_t (pc := 724) 1630 dL_law_724 (by decide) c184 ?_
                                      refine X_iinc (pc := 1630) (i := 3) (q := 3) (v := (l3 + (6 : Int32))) [(3, .int (l3 + (6 : Int32))), (0, .ref (xsb G)), (1, .ref (xP G 0)), (2, .ref (xP G 34))] dL_law_1630 rfl rfl (by decide) rfl ?_
                                      refine X_goto (pc := 1633) 18 dL_law_1633 (by decide) ?_
                                      exact X_lvs [1, 2, 3, 0] rfl (ih (KP.H KP.rf hH) (KP.M KP.rf hM) hf)
                                    · replace hf := (if_neg c184).symm.trans hf
                                      refine X_icmp_eq_f (pc := 724) 1630 dL_law_724 (by decide) c184 ?_
                                      refine X_iconst (pc := 727) (0 : Int32) dL_law_727 (by decide) ?_
                                      cases hf
                                      exact X_zreturn (pc := 728) rfl (nar_b (by decide)) dL_law_728
                                  · replace hf := (if_neg c18).symm.trans hf
                                    by_cases c19 : x3 = (15 : Int32)
                                    · replace hf := (if_pos c19).symm.trans hf
                                      refine X_tabIn (pc := 33) (off := 696) (15) 729 dL_law_33 (by rw [c19]; rfl) (by decide) ?_
                                      refine X_aload_n (pc := 729) (i := 1) 1 dL_law_729 rfl rfl ?_
                                      refine X_aload_n (pc := 730) (i := 0) 0 dL_law_730 rfl rfl ?_
                                      refine X_iload_n (pc := 731) (i := 3) 3 dL_law_731 rfl rfl ?_
                                      refine X_iconst (pc := 732) (1 : Int32) dL_law_732 (by decide) ?_
                                      refine X_iadd (pc := 733) dL_law_733 ?_
                                      obtain ⟨c185, hf⟩ := gd_some hf
                                      refine X_scd2 (pc := 734) hsL hxs hs3 c185 dL_law_734 ?_
                                      obtain ⟨q186, c187, hf⟩ := bd_some hf
                                      refine X_invV_i (pc := 735) (c_H_wind (KP.H KP.rf hH) c187) ok_H_wind (ci := 10) (sh_0 (KP.H KP.rf hH)) k_842 k_843 k_844 nd_8 (by decide) rfl (Nat.le_of_ble_eq_true rfl) dL_law_735 ?_
                                      refine X_aload_n (pc := 738) (i := 2) 2 dL_law_738 rfl rfl ?_
                                      refine X_aload_n (pc := 739) (i := 0) 0 dL_law_739 rfl rfl ?_
                                      refine X_iload_n (pc := 740) (i := 3) 3 dL_law_740 rfl rfl ?_
                                      refine X_iconst (pc := 741) (1 : Int32) dL_law_741 (by decide) ?_
                                      refine X_iadd (pc := 742) dL_law_742 ?_
                                      obtain ⟨c188, hf⟩ := gd_some hf
                                      refine X_scd2 (pc := 743) hsL hxs hs3 c188 dL_law_743 ?_
                                      obtain ⟨q189, c190, hf⟩ := bd_some hf
                                      refine X_invV_i (pc := 744) (c_Md_wind (KP.M KP.rf hM) c190) ok_Md_wind (ci := 11) (sh_34 (KP.M KP.rf hM)) k_1647 k_1648 k_1649 nd_8 (by decide) rfl (Nat.le_of_ble_eq_true rfl) dL_law_744 ?_
                                      by_cases c191 : q186.1 = q189.1
                                      · replace hf := (if_pos c191).symm.trans hf
                                        refine X_icmp_eq_t (pc := 747) 1630 dL_law_747 (by decide) c191 ?_
                                        refine X_iinc (pc := 1630) (i := 3) (q := 3) (v := (l3 + (6 : Int32))) [(3, .int (l3 + (6 : Int32))), (0, .ref (xsb G)), (1, .ref (xP G 0)), (2, .ref (xP G 34))] dL_law_1630 rfl rfl (by decide) rfl ?_
                                        refine X_goto (pc := 1633) 18 dL_law_1633 (by decide) ?_
                                        exact X_lvs [1, 2, 3, 0] rfl (ih (KP.H KP.rf hH) (KP.M KP.rf hM) hf)
                                      · replace hf := (if_neg c191).symm.trans hf
                                        refine X_icmp_eq_f (pc := 747) 1630 dL_law_747 (by decide) c191 ?_
                                        refine X_iconst (pc := 750) (0 : Int32) dL_law_750 (by decide) ?_
                                        cases hf
                                        exact X_zreturn (pc := 751) rfl (nar_b (by decide)) dL_law_751
                                    · replace hf := (if_neg c19).symm.trans hf
                                      by_cases c20 : x3 = (16 : Int32)
                                      · replace hf := (if_pos c20).symm.trans hf
                                        refine X_tabIn (pc := 33) (off := 719) (16) 752 dL_law_33 (by rw [c20]; rfl) (by decide) ?_
                                        refine X_aload_n (pc := 752) (i := 1) 1 dL_law_752 rfl rfl ?_
                                        refine X_aload_n (pc := 753) (i := 0) 0 dL_law_753 rfl rfl ?_
                                        refine X_iload_n (pc := 754) (i := 3) 3 dL_law_754 rfl rfl ?_
                                        refine X_iconst (pc := 755) (1 : Int32) dL_law_755 (by decide) ?_
                                        refine X_iadd (pc := 756) dL_law_756 ?_
                                        obtain ⟨c192, hf⟩ := gd_some hf
                                        refine X_scd2 (pc := 757) hsL hxs hs3 c192 dL_law_757 ?_
                                        refine X_aload_n (pc := 758) (i := 0) 0 dL_law_758 rfl rfl ?_
                                        refine X_iload_n (pc := 759) (i := 3) 3 dL_law_759 rfl rfl ?_
                                        refine X_iconst (pc := 760) (2 : Int32) dL_law_760 (by decide) ?_
                                        refine X_iadd (pc := 761) dL_law_761 ?_
                                        obtain ⟨c193, hf⟩ := gd_some hf
                                        refine X_scd2 (pc := 762) hsL hxs hs3 c193 dL_law_762 ?_
                                        obtain ⟨q194, c195, hf⟩ := bd_some hf
                                        refine X_invV_i (pc := 763) (c_H_press (KP.H KP.rf hH) c195) ok_H_press (ci := 10) (sh_0 (KP.H KP.rf hH)) k_852 k_853 k_854 nd_21 (by decide) rfl (Nat.le_of_ble_eq_true rfl) dL_law_763 ?_
                                        refine X_aload_n (pc := 766) (i := 2) 2 dL_law_766 rfl rfl ?_
                                        refine X_aload_n (pc := 767) (i := 0) 0 dL_law_767 rfl rfl ?_
                                        refine X_iload_n (pc := 768) (i := 3) 3 dL_law_768 rfl rfl ?_
                                        refine X_iconst (pc := 769) (1 : Int32) dL_law_769 (by decide) ?_
                                        refine X_iadd (pc := 770) dL_law_770 ?_
                                        obtain ⟨c196, hf⟩ := gd_some hf
                                        refine X_scd2 (pc := 771) hsL hxs hs3 c196 dL_law_771 ?_
                                        refine X_aload_n (pc := 772) (i := 0) 0 dL_law_772 rfl rfl ?_
                                        refine X_iload_n (pc := 773) (i := 3) 3 dL_law_773 rfl rfl ?_
                                        refine X_iconst (pc := 774) (2 : Int32) dL_law_774 (by decide) ?_
                                        refine X_iadd (pc := 775) dL_law_775 ?_
                                        obtain ⟨c197, hf⟩ := gd_some hf
                                        refine X_scd2 (pc := 776) hsL hxs hs3 c197 dL_law_776 ?_
                                        obtain ⟨q198, c199, hf⟩ := bd_some hf
                                        refine X_invV_i (pc := 777) (c_Md_press (KP.M KP.rf hM) c199) ok_Md_press (ci := 11) (sh_34 (KP.M KP.rf hM)) k_1652 k_1653 k_1654 nd_21 (by decide) rfl (Nat.le_of_ble_eq_true rfl) dL_law_777 ?_
                                        by_cases c200 : q194.1 = q198.1
                                        · replace hf := (if_pos c200).symm.trans hf
                                          refine X_icmp_eq_t (pc := 780) 1630 dL_law_780 (by decide) c200 ?_
                                          refine X_iinc (pc := 1630) (i := 3) (q := 3) (v := (l3 + (6 : Int32))) [(3, .int (l3 + (6 : Int32))), (0, .ref (xsb G)), (1, .ref (xP G 0)), (2, .ref (xP G 34))] dL_law_1630 rfl rfl (by decide) rfl ?_
                                          refine X_goto (pc := 1633) 18 dL_law_1633 (by decide) ?_
                                          exact X_lvs [1, 2, 3, 0] rfl (ih (KP.H KP.rf hH) (KP.M KP.rf hM) hf)
                                        · replace hf := (if_neg c200).symm.trans hf
                                          refine X_icmp_eq_f (pc := 780) 1630 dL_law_780 (by decide) c200 ?_
                                          refine X_iconst (pc := 783) (0 : Int32) dL_law_783 (by decide) ?_
                                          cases hf
                                          exact X_zreturn (pc := 784) rfl (nar_b (by decide)) dL_law_784
                                      · replace hf := (if_neg c20).symm.trans hf
                                        by_cases c21 : x3 = (17 : Int32)
                                        · replace hf := (if_pos c21).symm.trans hf
                                          refine X_tabIn (pc := 33) (off := 752) (17) 785 dL_law_33 (by rw [c21]; rfl) (by decide) ?_
                                          refine X_aload_n (pc := 785) (i := 1) 1 dL_law_785 rfl rfl ?_
                                          refine X_aload_n (pc := 786) (i := 0) 0 dL_law_786 rfl rfl ?_
                                          refine X_iload_n (pc := 787) (i := 3) 3 dL_law_787 rfl rfl ?_
                                          refine X_iconst (pc := 788) (1 : Int32) dL_law_788 (by decide) ?_
                                          refine X_iadd (pc := 789) dL_law_789 ?_
                                          obtain ⟨c201, hf⟩ := gd_some hf
                                          refine X_scd2 (pc := 790) hsL hxs hs3 c201 dL_law_790 ?_
                                          refine X_aload_n (pc := 791) (i := 0) 0 dL_law_791 rfl rfl ?_
                                          refine X_iload_n (pc := 792) (i := 3) 3 dL_law_792 rfl rfl ?_
                                          refine X_iconst (pc := 793) (2 : Int32) dL_law_793 (by decide) ?_
                                          refine X_iadd (pc := 794) dL_law_794 ?_
                                          obtain ⟨c202, hf⟩ := gd_some hf
                                          refine X_scd2 (pc := 795) hsL hxs hs3 c202 dL_law_795 ?_
                                          refine X_aload_n (pc := 796) (i := 0) 0 dL_law_796 rfl rfl ?_
                                          refine X_iload_n (pc := 797) (i := 3) 3 dL_law_797 rfl rfl ?_
                                          refine X_iconst (pc := 798) (3 : Int32) dL_law_798 (by decide) ?_
                                          refine X_iadd (pc := 799) dL_law_799 ?_
                                          obtain ⟨c203, hf⟩ := gd_some hf
                                          refine X_scd2 (pc := 800) hsL hxs hs3 c203 dL_law_800 ?_
                                          obtain ⟨q204, c205, hf⟩ := bd_some hf
                                          refine X_invV_i (pc := 801) (c_H_correct (KP.H KP.rf hH) c205) ok_H_correct (ci := 10) (sh_0 (KP.H KP.rf hH)) k_868 k_869 k_870 nd_16 (by decide) rfl (Nat.le_of_ble_eq_true rfl) dL_law_801 ?_
                                          refine X_aload_n (pc := 804) (i := 2) 2 dL_law_804 rfl rfl ?_
                                          refine X_aload_n (pc := 805) (i := 0) 0 dL_law_805 rfl rfl ?_
                                          refine X_iload_n (pc := 806) (i := 3) 3 dL_law_806 rfl rfl ?_
                                          refine X_iconst (pc := 807) (1 : Int32) dL_law_807 (by decide) ?_
                                          refine X_iadd (pc := 808) dL_law_808 ?_
                                          obtain ⟨c206, hf⟩ := gd_some hf
                                          refine X_scd2 (pc := 809) hsL hxs hs3 c206 dL_law_809 ?_
                                          refine X_aload_n (pc := 810) (i := 0) 0 dL_law_810 rfl rfl ?_
                                          refine X_iload_n (pc := 811) (i := 3) 3 dL_law_811 rfl rfl ?_
                                          refine X_iconst (pc := 812) (2 : Int32) dL_law_812 (by decide) ?_
                                          refine X_iadd (pc := 813) dL_law_813 ?_
                                          obtain ⟨c207, hf⟩ := gd_some hf
                                          refine X_scd2 (pc := 814) hsL hxs hs3 c207 dL_law_814 ?_
                                          refine X_aload_n (pc := 815) (i := 0) 0 dL_law_815 rfl rfl ?_
                                          refine X_iload_n (pc := 816) (i := 3) 3 dL_law_816 rfl rfl ?_
                                          refine X_iconst (pc := 817) (3 : Int32) dL_law_817 (by decide) ?_
                                          refine X_iadd (pc := 818) dL_law_818 ?_
                                          obtain ⟨c208, hf⟩ := gd_some hf
                                          refine X_scd2 (pc := 819) hsL hxs hs3 c208 dL_law_819 ?_
                                          obtain ⟨q209, c210, hf⟩ := bd_some hf
                                          refine X_invV_i (pc := 820) (c_Md_correct (KP.M KP.rf hM) c210) ok_Md_correct (ci := 11) (sh_34 (KP.M KP.rf hM)) k_1656 k_1657 k_1658 nd_16 (by decide) rfl (Nat.le_of_ble_eq_true rfl) dL_law_820 ?_
                                          by_cases c211 : q204.1 = q209.1
                                          · replace hf := (if_pos c211).symm.trans hf
                                            refine X_icmp_eq_t (pc := 823) 1630 dL_law_823 (by decide) c211 ?_
                                            refine X_iinc (pc := 1630) (i := 3) (q := 3) (v := (l3 + (6 : Int32))) [(3, .int (l3 + (6 : Int32))), (0, .ref (xsb G)), (1, .ref (xP G 0)), (2, .ref (xP G 34))] dL_law_1630 rfl rfl (by decide) rfl ?_
                                            refine X_goto (pc := 1633) 18 dL_law_1633 (by decide) ?_
                                            exact X_lvs [1, 2, 3, 0] rfl (ih (KP.H KP.rf hH) (KP.M KP.rf hM) hf)
                                          · replace hf := (if_neg c211).symm.trans hf
                                            refine X_icmp_eq_f (pc := 823) 1630 dL_law_823 (by decide) c211 ?_
                                            refine X_iconst (pc := 826) (0 : Int32) dL_law_826 (by decide) ?_
                                            cases hf
                                            exact X_zreturn (pc := 827) rfl (nar_b (by decide)) dL_law_827
                                        · replace hf := (if_neg c21).symm.trans hf
                                          by_cases c22 : x3 = (18 : Int32)
                                          · replace hf := (if_pos c22).symm.trans hf
                                            refine X_tabIn (pc := 33) (off := 795) (18) 828 dL_law_33 (by rw [c22]; rfl) (by decide) ?_
                                            refine X_aload_n (pc := 828) (i := 1) 1 dL_law_828 rfl rfl ?_
                                            refine X_aload_n (pc := 829) (i := 0) 0 dL_law_829 rfl rfl ?_
                                            refine X_iload_n (pc := 830) (i := 3) 3 dL_law_830 rfl rfl ?_
                                            refine X_iconst (pc := 831) (1 : Int32) dL_law_831 (by decide) ?_
                                            refine X_iadd (pc := 832) dL_law_832 ?_
                                            obtain ⟨c212, hf⟩ := gd_some hf
                                            refine X_scd2 (pc := 833) hsL hxs hs3 c212 dL_law_833 ?_
                                            obtain ⟨q213, c214, hf⟩ := bd_some hf
                                            refine X_invV_i (pc := 834) (c_H_trip (KP.H KP.rf hH) c214) ok_H_trip (ci := 10) (sh_0 (KP.H KP.rf hH)) k_916 k_917 k_918 nd_8 (by decide) rfl (Nat.le_of_ble_eq_true rfl) dL_law_834 ?_
                                            refine X_aload_n (pc := 837) (i := 2) 2 dL_law_837 rfl rfl ?_
                                            refine X_aload_n (pc := 838) (i := 0) 0 dL_law_838 rfl rfl ?_
                                            refine X_iload_n (pc := 839) (i := 3) 3 dL_law_839 rfl rfl ?_
                                            refine X_iconst (pc := 840) (1 : Int32) dL_law_840 (by decide) ?_
                                            refine X_iadd (pc := 841) dL_law_841 ?_
                                            obtain ⟨c215, hf⟩ := gd_some hf
                                            refine X_scd2 (pc := 842) hsL hxs hs3 c215 dL_law_842 ?_
                                            obtain ⟨q216, c217, hf⟩ := bd_some hf
                                            refine X_invV_i (pc := 843) (c_Md_trip (KP.M KP.rf hM) c217) ok_Md_trip (ci := 11) (sh_34 (KP.M KP.rf hM)) k_1675 k_1676 k_1677 nd_8 (by decide) rfl (Nat.le_of_ble_eq_true rfl) dL_law_843 ?_
                                            by_cases c218 : q213.1 = q216.1
                                            · replace hf := (if_pos c218).symm.trans hf
                                              refine X_icmp_eq_t (pc := 846) 1630 dL_law_846 (by decide) c218 ?_
                                              refine X_iinc (pc := 1630) (i := 3) (q := 3) (v := (l3 + (6 : Int32))) [(3, .int (l3 + (6 : Int32))), (0, .ref (xsb G)), (1, .ref (xP G 0)), (2, .ref (xP G 34))] dL_law_1630 rfl rfl (by decide) rfl ?_
                                              refine X_goto (pc := 1633) 18 dL_law_1633 (by decide) ?_
                                              exact X_lvs [1, 2, 3, 0] rfl (ih (KP.H KP.rf hH) (KP.M KP.rf hM) hf)
                                            · replace hf := (if_neg c218).symm.trans hf
                                              refine X_icmp_eq_f (pc := 846) 1630 dL_law_846 (by decide) c218 ?_
                                              refine X_iconst (pc := 849) (0 : Int32) dL_law_849 (by decide) ?_
                                              cases hf
                                              exact X_zreturn (pc := 850) rfl (nar_b (by decide)) dL_law_850
                                          · replace hf := (if_neg c22).symm.trans hf
                                            by_cases c23 : x3 = (19 : Int32)
                                            · replace hf := (if_pos c23).symm.trans hf
                                              refine X_tabIn (pc := 33) (off := 818) (19) 851 dL_law_33 (by rw [c23]; rfl) (by decide) ?_
                                              refine X_aload_n (pc := 851) (i := 1) 1 dL_law_851 rfl rfl ?_
                                              refine X_aload_n (pc := 852) (i := 0) 0 dL_law_852 rfl rfl ?_
                                              refine X_iload_n (pc := 853) (i := 3) 3 dL_law_853 rfl rfl ?_
                                              refine X_iconst (pc := 854) (1 : Int32) dL_law_854 (by decide) ?_
                                              refine X_iadd (pc := 855) dL_law_855 ?_
                                              obtain ⟨c219, hf⟩ := gd_some hf
                                              refine X_scd2 (pc := 856) hsL hxs hs3 c219 dL_law_856 ?_
                                              obtain ⟨q220, c221, hf⟩ := bd_some hf
                                              refine X_invV_i (pc := 857) (c_H_back (KP.H KP.rf hH) c221) ok_H_back (ci := 10) (sh_0 (KP.H KP.rf hH)) k_924 k_925 k_926 nd_8 (by decide) rfl (Nat.le_of_ble_eq_true rfl) dL_law_857 ?_
                                              refine X_aload_n (pc := 860) (i := 2) 2 dL_law_860 rfl rfl ?_
                                              refine X_aload_n (pc := 861) (i := 0) 0 dL_law_861 rfl rfl ?_
                                              refine X_iload_n (pc := 862) (i := 3) 3 dL_law_862 rfl rfl ?_
                                              refine X_iconst (pc := 863) (1 : Int32) dL_law_863 (by decide) ?_
                                              refine X_iadd (pc := 864) dL_law_864 ?_
                                              obtain ⟨c222, hf⟩ := gd_some hf
                                              refine X_scd2 (pc := 865) hsL hxs hs3 c222 dL_law_865 ?_
                                              obtain ⟨q223, c224, hf⟩ := bd_some hf
                                              refine X_invV_i (pc := 866) (c_Md_back (KP.M KP.rf hM) c224) ok_Md_back (ci := 11) (sh_34 (KP.M KP.rf hM)) k_1679 k_1680 k_1681 nd_8 (by decide) rfl (Nat.le_of_ble_eq_true rfl) dL_law_866 ?_
                                              by_cases c225 : q220.1 = q223.1
                                              · replace hf := (if_pos c225).symm.trans hf
                                                refine X_icmp_eq_t (pc := 869) 1630 dL_law_869 (by decide) c225 ?_
                                                refine X_iinc (pc := 1630) (i := 3) (q := 3) (v := (l3 + (6 : Int32))) [(3, .int (l3 + (6 : Int32))), (0, .ref (xsb G)), (1, .ref (xP G 0)), (2, .ref (xP G 34))] dL_law_1630 rfl rfl (by decide) rfl ?_
                                                refine X_goto (pc := 1633) 18 dL_law_1633 (by decide) ?_
                                                exact X_lvs [1, 2, 3, 0] rfl (ih (KP.H KP.rf hH) (KP.M KP.rf hM) hf)
                                              · replace hf := (if_neg c225).symm.trans hf
                                                refine X_icmp_eq_f (pc := 869) 1630 dL_law_869 (by decide) c225 ?_
                                                refine X_iconst (pc := 872) (0 : Int32) dL_law_872 (by decide) ?_
                                                cases hf
                                                exact X_zreturn (pc := 873) rfl (nar_b (by decide)) dL_law_873
                                            · replace hf := (if_neg c23).symm.trans hf
                                              by_cases c24 : x3 = (20 : Int32)
                                              · replace hf := (if_pos c24).symm.trans hf
                                                refine X_tabIn (pc := 33) (off := 841) (20) 874 dL_law_33 (by rw [c24]; rfl) (by decide) ?_
                                                refine X_aload_n (pc := 874) (i := 1) 1 dL_law_874 rfl rfl ?_
                                                refine X_aload_n (pc := 875) (i := 0) 0 dL_law_875 rfl rfl ?_
                                                refine X_iload_n (pc := 876) (i := 3) 3 dL_law_876 rfl rfl ?_
                                                refine X_iconst (pc := 877) (1 : Int32) dL_law_877 (by decide) ?_
                                                refine X_iadd (pc := 878) dL_law_878 ?_
                                                obtain ⟨c226, hf⟩ := gd_some hf
                                                refine X_scd2 (pc := 879) hsL hxs hs3 c226 dL_law_879 ?_
                                                refine X_aload_n (pc := 880) (i := 0) 0 dL_law_880 rfl rfl ?_
                                                refine X_iload_n (pc := 881) (i := 3) 3 dL_law_881 rfl rfl ?_
                                                refine X_iconst (pc := 882) (2 : Int32) dL_law_882 (by decide) ?_
                                                refine X_iadd (pc := 883) dL_law_883 ?_
                                                obtain ⟨c227, hf⟩ := gd_some hf
                                                refine X_scd2 (pc := 884) hsL hxs hs3 c227 dL_law_884 ?_
                                                obtain ⟨q228, c229, hf⟩ := bd_some hf
                                                refine X_invV_l (pc := 885) (c_H_speed (KP.H KP.rf hH) c229) ok_H_speed (ci := 10) (sh_0 (KP.H KP.rf hH)) k_950 k_951 k_952 nd_32 (by decide) rfl (Nat.le_of_ble_eq_true rfl) dL_law_885 ?_
                                                refine X_aload_n (pc := 888) (i := 2) 2 dL_law_888 rfl rfl ?_
                                                refine X_aload_n (pc := 889) (i := 0) 0 dL_law_889 rfl rfl ?_
                                                refine X_iload_n (pc := 890) (i := 3) 3 dL_law_890 rfl rfl ?_
                                                refine X_iconst (pc := 891) (1 : Int32) dL_law_891 (by decide) ?_
                                                refine X_iadd (pc := 892) dL_law_892 ?_
                                                obtain ⟨c230, hf⟩ := gd_some hf
                                                refine X_scd2 (pc := 893) hsL hxs hs3 c230 dL_law_893 ?_
                                                refine X_aload_n (pc := 894) (i := 0) 0 dL_law_894 rfl rfl ?_
                                                refine X_iload_n (pc := 895) (i := 3) 3 dL_law_895 rfl rfl ?_
                                                refine X_iconst (pc := 896) (2 : Int32) dL_law_896 (by decide) ?_
                                                refine X_iadd (pc := 897) dL_law_897 ?_
                                                obtain ⟨c231, hf⟩ := gd_some hf
                                                refine X_scd2 (pc := 898) hsL hxs hs3 c231 dL_law_898 ?_
                                                obtain ⟨q232, c233, hf⟩ := bd_some hf
                                                refine X_invV_l (pc := 899) (c_Md_speed (KP.M KP.rf hM) c233) ok_Md_speed (ci := 11) (sh_34 (KP.M KP.rf hM)) k_1689 k_1690 k_1691 nd_32 (by decide) rfl (Nat.le_of_ble_eq_true rfl) dL_law_899 ?_
                                                refine X_lcmp (pc := 902) dL_law_902 ?_
                                                by_cases c234 : q228 = q232.1
                                                · replace hf := (if_pos c234).symm.trans hf
                                                  refine X_if_eq_t (pc := 903) 1630 dL_law_903 (by decide) ((lg_cmp_eq _ _).mpr c234) ?_
                                                  refine X_iinc (pc := 1630) (i := 3) (q := 3) (v := (l3 + (6 : Int32))) [(3, .int (l3 + (6 : Int32))), (0, .ref (xsb G)), (1, .ref (xP G 0)), (2, .ref (xP G 34))] dL_law_1630 rfl rfl (by decide) rfl ?_
                                                  refine X_goto (pc := 1633) 18 dL_law_1633 (by decide) ?_
                                                  exact X_lvs [1, 2, 3, 0] rfl (ih (KP.H KP.rf hH) (KP.M KP.rf hM) hf)
                                                · replace hf := (if_neg c234).symm.trans hf
                                                  refine X_if_eq_f (pc := 903) 1630 dL_law_903 (by decide) (fun h => c234 ((lg_cmp_eq _ _).mp h)) ?_
                                                  refine X_iconst (pc := 906) (0 : Int32) dL_law_906 (by decide) ?_
                                                  cases hf
                                                  exact X_zreturn (pc := 907) rfl (nar_b (by decide)) dL_law_907
                                              · replace hf := (if_neg c24).symm.trans hf
                                                by_cases c25 : x3 = (21 : Int32)
                                                · replace hf := (if_pos c25).symm.trans hf
                                                  refine X_tabIn (pc := 33) (off := 875) (21) 908 dL_law_33 (by rw [c25]; rfl) (by decide) ?_
                                                  refine X_aload_n (pc := 908) (i := 1) 1 dL_law_908 rfl rfl ?_
                                                  refine X_aload_n (pc := 909) (i := 0) 0 dL_law_909 rfl rfl ?_
                                                  refine X_iload_n (pc := 910) (i := 3) 3 dL_law_910 rfl rfl ?_
                                                  refine X_iconst (pc := 911) (1 : Int32) dL_law_911 (by decide) ?_
                                                  refine X_iadd (pc := 912) dL_law_912 ?_
                                                  obtain ⟨c235, hf⟩ := gd_some hf
                                                  refine X_scd2 (pc := 913) hsL hxs hs3 c235 dL_law_913 ?_
                                                  obtain ⟨q236, c237, hf⟩ := bd_some hf
                                                  refine X_invV_l (pc := 914) (c_H_state (KP.H KP.rf hH) c237) ok_H_state (ci := 10) (sh_0 (KP.H KP.rf hH)) k_955 k_956 k_957 nd_39 (by decide) rfl (Nat.le_of_ble_eq_true rfl) dL_law_914 ?_
                                                  refine X_aload_n (pc := 917) (i := 2) 2 dL_law_917 rfl rfl ?_
                                                  refine X_aload_n (pc := 918) (i := 0) 0 dL_law_918 rfl rfl ?_
                                                  refine X_iload_n (pc := 919) (i := 3) 3 dL_law_919 rfl rfl ?_
                                                  refine X_iconst (pc := 920) (1 : Int32) dL_law_920 (by decide) ?_
                                                  refine X_iadd (pc := 921) dL_law_921 ?_
                                                  obtain ⟨c238, hf⟩ := gd_some hf
                                                  refine X_scd2 (pc := 922) hsL hxs hs3 c238 dL_law_922 ?_
                                                  obtain ⟨q239, c240, hf⟩ := bd_some hf
                                                  refine X_invV_l (pc := 923) (c_Md_state (KP.M KP.rf hM) c240) ok_Md_state (ci := 11) (sh_34 (KP.M KP.rf hM)) k_1694 k_1695 k_1696 nd_39 (by decide) rfl (Nat.le_of_ble_eq_true rfl) dL_law_923 ?_
                                                  refine X_lcmp (pc := 926) dL_law_926 ?_
                                                  by_cases c241 : q236 = q239.1
                                                  · replace hf := (if_pos c241).symm.trans hf
                                                    refine X_if_eq_t (pc := 927) 1630 dL_law_927 (by decide) ((lg_cmp_eq _ _).mpr c241) ?_
                                                    refine X_iinc (pc := 1630) (i := 3) (q := 3) (v := (l3 + (6 : Int32))) [(3, .int (l3 + (6 : Int32))), (0, .ref (xsb G)), (1, .ref (xP G 0)), (2, .ref (xP G 34))] dL_law_1630 rfl rfl (by decide) rfl ?_
                                                    refine X_goto (pc := 1633) 18 dL_law_1633 (by decide) ?_
                                                    exact X_lvs [1, 2, 3, 0] rfl (ih (KP.H KP.rf hH) (KP.M KP.rf hM) hf)
                                                  · replace hf := (if_neg c241).symm.trans hf
                                                    refine X_if_eq_f (pc := 927) 1630 dL_law_927 (by decide) (fun h => c241 ((lg_cmp_eq _ _).mp h)) ?_
                                                    refine X_iconst (pc := 930) (0 : Int32) dL_law_930 (by decide) ?_
                                                    cases hf
                                                    exact X_zreturn (pc := 931) rfl (nar_b (by decide)) dL_law_931
                                                · replace hf := (if_neg c25).symm.trans hf
                                                  by_cases c26 : x3 = (22 : Int32)
                                                  · replace hf := (if_pos c26).symm.trans hf
                                                    refine X_tabIn (pc := 33) (off := 899) (22) 932 dL_law_33 (by rw [c26]; rfl) (by decide) ?_
                                                    refine X_aload_n (pc := 932) (i := 1) 1 dL_law_932 rfl rfl ?_
                                                    refine X_aload_n (pc := 933) (i := 0) 0 dL_law_933 rfl rfl ?_
                                                    refine X_iload_n (pc := 934) (i := 3) 3 dL_law_934 rfl rfl ?_
                                                    refine X_iconst (pc := 935) (1 : Int32) dL_law_935 (by decide) ?_
                                                    refine X_iadd (pc := 936) dL_law_936 ?_
                                                    obtain ⟨c242, hf⟩ := gd_some hf
                                                    refine X_scd2 (pc := 937) hsL hxs hs3 c242 dL_law_937 ?_
                                                    refine X_aload_n (pc := 938) (i := 0) 0 dL_law_938 rfl rfl ?_
                                                    refine X_iload_n (pc := 939) (i := 3) 3 dL_law_939 rfl rfl ?_
                                                    refine X_iconst (pc := 940) (2 : Int32) dL_law_940 (by decide) ?_
                                                    refine X_iadd (pc := 941) dL_law_941 ?_
                                                    obtain ⟨c243, hf⟩ := gd_some hf
                                                    refine X_scd2 (pc := 942) hsL hxs hs3 c243 dL_law_942 ?_
                                                    obtain ⟨q244, c245, hf⟩ := bd_some hf
                                                    refine X_invV_i (pc := 943) (c_H_tick (KP.H KP.rf hH) c245) ok_H_tick (ci := 10) (sh_0 (KP.H KP.rf hH)) k_961 k_962 k_963 nd_21 (by decide) rfl (Nat.le_of_ble_eq_true rfl) dL_law_943 ?_
                                                    refine X_aload_n (pc := 946) (i := 2) 2 dL_law_946 rfl rfl ?_
                                                    refine X_aload_n (pc := 947) (i := 0) 0 dL_law_947 rfl rfl ?_
                                                    refine X_iload_n (pc := 948) (i := 3) 3 dL_law_948 rfl rfl ?_
                                                    refine X_iconst (pc := 949) (1 : Int32) dL_law_949 (by decide) ?_
                                                    refine X_iadd (pc := 950) dL_law_950 ?_
                                                    obtain ⟨c246, hf⟩ := gd_some hf
                                                    refine X_scd2 (pc := 951) hsL hxs hs3 c246 dL_law_951 ?_
                                                    refine X_aload_n (pc := 952) (i := 0) 0 dL_law_952 rfl rfl ?_
                                                    refine X_iload_n (pc := 953) (i := 3) 3 dL_law_953 rfl rfl ?_
                                                    refine X_iconst (pc := 954) (2 : Int32) dL_law_954 (by decide) ?_
                                                    refine X_iadd (pc := 955) dL_law_955 ?_
                                                    obtain ⟨c247, hf⟩ := gd_some hf
                                                    refine X_scd2 (pc := 956) hsL hxs hs3 c247 dL_law_956 ?_
                                                    obtain ⟨q248, c249, hf⟩ := bd_some hf
                                                    refine X_invV_i (pc := 957) (c_Md_tick (KP.M KP.rf hM) c249) ok_Md_tick (ci := 11) (sh_34 (KP.M KP.rf hM)) k_1698 k_1699 k_1700 nd_21 (by decide) rfl (Nat.le_of_ble_eq_true rfl) dL_law_957 ?_
                                                    by_cases c250 : q244 = q248
                                                    · replace hf := (if_pos c250).symm.trans hf
                                                      refine X_icmp_eq_t (pc := 960) 1630 dL_law_960 (by decide) c250 ?_
                                                      refine X_iinc (pc := 1630) (i := 3) (q := 3) (v := (l3 + (6 : Int32))) [(3, .int (l3 + (6 : Int32))), (0, .ref (xsb G)), (1, .ref (xP G 0)), (2, .ref (xP G 34))] dL_law_1630 rfl rfl (by decide) rfl ?_
                                                      refine X_goto (pc := 1633) 18 dL_law_1633 (by decide) ?_
                                                      exact X_lvs [1, 2, 3, 0] rfl (ih (KP.H KP.rf hH) (KP.M KP.rf hM) hf)
                                                    · replace hf := (if_neg c250).symm.trans hf
                                                      refine X_icmp_eq_f (pc := 960) 1630 dL_law_960 (by decide) c250 ?_
                                                      refine X_iconst (pc := 963) (0 : Int32) dL_law_963 (by decide) ?_
                                                      cases hf
                                                      exact X_zreturn (pc := 964) rfl (nar_b (by decide)) dL_law_964
                                                  · replace hf := (if_neg c26).symm.trans hf
                                                    by_cases c27 : x3 = (23 : Int32)
                                                    · replace hf := (if_pos c27).symm.trans hf
                                                      refine X_tabIn (pc := 33) (off := 932) (23) 965 dL_law_33 (by rw [c27]; rfl) (by decide) ?_
                                                      refine X_aload_n (pc := 965) (i := 1) 1 dL_law_965 rfl rfl ?_
                                                      refine X_aload_n (pc := 966) (i := 0) 0 dL_law_966 rfl rfl ?_
                                                      refine X_iload_n (pc := 967) (i := 3) 3 dL_law_967 rfl rfl ?_
                                                      refine X_iconst (pc := 968) (1 : Int32) dL_law_968 (by decide) ?_
                                                      refine X_iadd (pc := 969) dL_law_969 ?_
                                                      obtain ⟨c251, hf⟩ := gd_some hf
                                                      refine X_scd2 (pc := 970) hsL hxs hs3 c251 dL_law_970 ?_
                                                      refine X_aload_n (pc := 971) (i := 0) 0 dL_law_971 rfl rfl ?_
                                                      refine X_iload_n (pc := 972) (i := 3) 3 dL_law_972 rfl rfl ?_
                                                      refine X_iconst (pc := 973) (2 : Int32) dL_law_973 (by decide) ?_
                                                      refine X_iadd (pc := 974) dL_law_974 ?_
                                                      obtain ⟨c252, hf⟩ := gd_some hf
                                                      refine X_scd2 (pc := 975) hsL hxs hs3 c252 dL_law_975 ?_
                                                      obtain ⟨q253, c254, hf⟩ := bd_some hf
                                                      refine X_invV_i (pc := 976) (c_H_shows (KP.H KP.rf hH) c254) ok_H_shows (ci := 10) (sh_0 (KP.H KP.rf hH)) k_966 k_967 k_968 nd_21 (by decide) rfl (Nat.le_of_ble_eq_true rfl) dL_law_976 ?_
                                                      refine X_aload_n (pc := 979) (i := 2) 2 dL_law_979 rfl rfl ?_
                                                      refine X_aload_n (pc := 980) (i := 0) 0 dL_law_980 rfl rfl ?_
                                                      refine X_iload_n (pc := 981) (i := 3) 3 dL_law_981 rfl rfl ?_
                                                      refine X_iconst (pc := 982) (1 : Int32) dL_law_982 (by decide) ?_
                                                      refine X_iadd (pc := 983) dL_law_983 ?_
                                                      obtain ⟨c255, hf⟩ := gd_some hf
                                                      refine X_scd2 (pc := 984) hsL hxs hs3 c255 dL_law_984 ?_
                                                      refine X_aload_n (pc := 985) (i := 0) 0 dL_law_985 rfl rfl ?_
                                                      refine X_iload_n (pc := 986) (i := 3) 3 dL_law_986 rfl rfl ?_
                                                      refine X_iconst (pc := 987) (2 : Int32) dL_law_987 (by decide) ?_
                                                      refine X_iadd (pc := 988) dL_law_988 ?_
                                                      obtain ⟨c256, hf⟩ := gd_some hf
                                                      refine X_scd2 (pc := 989) hsL hxs hs3 c256 dL_law_989 ?_
                                                      obtain ⟨q257, c258, hf⟩ := bd_some hf
                                                      refine X_invV_i (pc := 990) (c_Md_shows (KP.M KP.rf hM) c258) ok_Md_shows (ci := 11) (sh_34 (KP.M KP.rf hM)) k_1702 k_1703 k_1704 nd_21 (by decide) rfl (Nat.le_of_ble_eq_true rfl) dL_law_990 ?_
                                                      by_cases c259 : q253 = q257.1
                                                      · replace hf := (if_pos c259).symm.trans hf
                                                        refine X_icmp_eq_t (pc := 993) 1630 dL_law_993 (by decide) c259 ?_
                                                        refine X_iinc (pc := 1630) (i := 3) (q := 3) (v := (l3 + (6 : Int32))) [(3, .int (l3 + (6 : Int32))), (0, .ref (xsb G)), (1, .ref (xP G 0)), (2, .ref (xP G 34))] dL_law_1630 rfl rfl (by decide) rfl ?_
                                                        refine X_goto (pc := 1633) 18 dL_law_1633 (by decide) ?_
                                                        exact X_lvs [1, 2, 3, 0] rfl (ih (KP.H KP.rf hH) (KP.M KP.rf hM) hf)
                                                      · replace hf := (if_neg c259).symm.trans hf
                                                        refine X_icmp_eq_f (pc := 993) 1630 dL_law_993 (by decide) c259 ?_
                                                        refine X_iconst (pc := 996) (0 : Int32) dL_law_996 (by decide) ?_
                                                        cases hf
                                                        exact X_zreturn (pc := 997) rfl (nar_b (by decide)) dL_law_997
                                                    · replace hf := (if_neg c27).symm.trans hf
                                                      by_cases c28 : x3 = (24 : Int32)
                                                      · replace hf := (if_pos c28).symm.trans hf
                                                        refine X_tabIn (pc := 33) (off := 965) (24) 998 dL_law_33 (by rw [c28]; rfl) (by decide) ?_
                                                        refine X_aload_n (pc := 998) (i := 1) 1 dL_law_998 rfl rfl ?_
                                                        refine X_aload_n (pc := 999) (i := 0) 0 dL_law_999 rfl rfl ?_
                                                        refine X_iload_n (pc := 1000) (i := 3) 3 dL_law_1000 rfl rfl ?_
                                                        refine X_iconst (pc := 1001) (1 : Int32) dL_law_1001 (by decide) ?_
                                                        refine X_iadd (pc := 1002) dL_law_1002 ?_
                                                        obtain ⟨c260, hf⟩ := gd_some hf
                                                        refine X_scd2 (pc := 1003) hsL hxs hs3 c260 dL_law_1003 ?_
                                                        refine X_aload_n (pc := 1004) (i := 0) 0 dL_law_1004 rfl rfl ?_
                                                        refine X_iload_n (pc := 1005) (i := 3) 3 dL_law_1005 rfl rfl ?_
                                                        refine X_iconst (pc := 1006) (2 : Int32) dL_law_1006 (by decide) ?_
                                                        refine X_iadd (pc := 1007) dL_law_1007 ?_
                                                        obtain ⟨c261, hf⟩ := gd_some hf
                                                        refine X_scd2 (pc := 1008) hsL hxs hs3 c261 dL_law_1008 ?_
                                                        obtain ⟨q262, c263, hf⟩ := bd_some hf
                                                        refine X_invV_i (pc := 1009) (c_H_struck (KP.H KP.rf hH) c263) ok_H_struck (ci := 10) (sh_0 (KP.H KP.rf hH)) k_982 k_983 k_984 nd_21 (by decide) rfl (Nat.le_of_ble_eq_true rfl) dL_law_1009 ?_
                                                        refine X_aload_n (pc := 1012) (i := 2) 2 dL_law_1012 rfl rfl ?_
                                                        refine X_aload_n (pc := 1013) (i := 0) 0 dL_law_1013 rfl rfl ?_
                                                        refine X_iload_n (pc := 1014) (i := 3) 3 dL_law_1014 rfl rfl ?_
                                                        refine X_iconst (pc := 1015) (1 : Int32) dL_law_1015 (by decide) ?_
                                                        refine X_iadd (pc := 1016) dL_law_1016 ?_
                                                        obtain ⟨c264, hf⟩ := gd_some hf
                                                        refine X_scd2 (pc := 1017) hsL hxs hs3 c264 dL_law_1017 ?_
                                                        refine X_aload_n (pc := 1018) (i := 0) 0 dL_law_1018 rfl rfl ?_
                                                        refine X_iload_n (pc := 1019) (i := 3) 3 dL_law_1019 rfl rfl ?_
                                                        refine X_iconst (pc := 1020) (2 : Int32) dL_law_1020 (by decide) ?_
                                                        refine X_iadd (pc := 1021) dL_law_1021 ?_
                                                        obtain ⟨c265, hf⟩ := gd_some hf
                                                        refine X_scd2 (pc := 1022) hsL hxs hs3 c265 dL_law_1022 ?_
                                                        obtain ⟨q266, c267, hf⟩ := bd_some hf
                                                        refine X_invV_i (pc := 1023) (c_Md_struck (KP.M KP.rf hM) c267) ok_Md_struck (ci := 11) (sh_34 (KP.M KP.rf hM)) k_1706 k_1707 k_1708 nd_21 (by decide) rfl (Nat.le_of_ble_eq_true rfl) dL_law_1023 ?_
                                                        by_cases c268 : q262 = q266
                                                        · replace hf := (if_pos c268).symm.trans hf
                                                          refine X_icmp_eq_t (pc := 1026) 1630 dL_law_1026 (by decide) c268 ?_
                                                          refine X_iinc (pc := 1630) (i := 3) (q := 3) (v := (l3 + (6 : Int32))) [(3, .int (l3 + (6 : Int32))), (0, .ref (xsb G)), (1, .ref (xP G 0)), (2, .ref (xP G 34))] dL_law_1630 rfl rfl (by decide) rfl ?_
                                                          refine X_goto (pc := 1633) 18 dL_law_1633 (by decide) ?_
                                                          exact X_lvs [1, 2, 3, 0] rfl (ih (KP.H KP.rf hH) (KP.M KP.rf hM) hf)
                                                        · replace hf := (if_neg c268).symm.trans hf
                                                          refine X_icmp_eq_f (pc := 1026) 1630 dL_law_1026 (by decide) c268 ?_
                                                          refine X_iconst (pc := 1029) (0 : Int32) dL_law_1029 (by decide) ?_
                                                          cases hf
                                                          exact X_zreturn (pc := 1030) rfl (nar_b (by decide)) dL_law_1030
                                                      · replace hf := (if_neg c28).symm.trans hf
                                                        by_cases c29 : x3 = (25 : Int32)
                                                        · replace hf := (if_pos c29).symm.trans hf
                                                          refine X_tabIn (pc := 33) (off := 998) (25) 1031 dL_law_33 (by rw [c29]; rfl) (by decide) ?_
                                                          refine X_aload_n (pc := 1031) (i := 1) 1 dL_law_1031 rfl rfl ?_
                                                          refine X_aload_n (pc := 1032) (i := 0) 0 dL_law_1032 rfl rfl ?_
                                                          refine X_iload_n (pc := 1033) (i := 3) 3 dL_law_1033 rfl rfl ?_
                                                          refine X_iconst (pc := 1034) (1 : Int32) dL_law_1034 (by decide) ?_
                                                          refine X_iadd (pc := 1035) dL_law_1035 ?_
                                                          obtain ⟨c269, hf⟩ := gd_some hf
                                                          refine X_scd2 (pc := 1036) hsL hxs hs3 c269 dL_law_1036 ?_
                                                          refine X_aload_n (pc := 1037) (i := 0) 0 dL_law_1037 rfl rfl ?_
                                                          refine X_iload_n (pc := 1038) (i := 3) 3 dL_law_1038 rfl rfl ?_
                                                          refine X_iconst (pc := 1039) (2 : Int32) dL_law_1039 (by decide) ?_
                                                          refine X_iadd (pc := 1040) dL_law_1040 ?_
                                                          obtain ⟨c270, hf⟩ := gd_some hf
                                                          refine X_scd2 (pc := 1041) hsL hxs hs3 c270 dL_law_1041 ?_
                                                          obtain ⟨q271, c272, hf⟩ := bd_some hf
                                                          refine X_invV_i (pc := 1042) (c_H_hand (KP.H KP.rf hH) c272) ok_H_hand (ci := 10) (sh_0 (KP.H KP.rf hH)) k_986 k_987 k_988 nd_21 (by decide) rfl (Nat.le_of_ble_eq_true rfl) dL_law_1042 ?_
                                                          refine X_aload_n (pc := 1045) (i := 2) 2 dL_law_1045 rfl rfl ?_
                                                          refine X_aload_n (pc := 1046) (i := 0) 0 dL_law_1046 rfl rfl ?_
                                                          refine X_iload_n (pc := 1047) (i := 3) 3 dL_law_1047 rfl rfl ?_
                                                          refine X_iconst (pc := 1048) (1 : Int32) dL_law_1048 (by decide) ?_
                                                          refine X_iadd (pc := 1049) dL_law_1049 ?_
                                                          obtain ⟨c273, hf⟩ := gd_some hf
                                                          refine X_scd2 (pc := 1050) hsL hxs hs3 c273 dL_law_1050 ?_
                                                          refine X_aload_n (pc := 1051) (i := 0) 0 dL_law_1051 rfl rfl ?_
                                                          refine X_iload_n (pc := 1052) (i := 3) 3 dL_law_1052 rfl rfl ?_
                                                          refine X_iconst (pc := 1053) (2 : Int32) dL_law_1053 (by decide) ?_
                                                          refine X_iadd (pc := 1054) dL_law_1054 ?_
                                                          obtain ⟨c274, hf⟩ := gd_some hf
                                                          refine X_scd2 (pc := 1055) hsL hxs hs3 c274 dL_law_1055 ?_
                                                          obtain ⟨q275, c276, hf⟩ := bd_some hf
                                                          refine X_invV_i (pc := 1056) (c_Md_hand (KP.M KP.rf hM) c276) ok_Md_hand (ci := 11) (sh_34 (KP.M KP.rf hM)) k_1710 k_1711 k_1712 nd_21 (by decide) rfl (Nat.le_of_ble_eq_true rfl) dL_law_1056 ?_
                                                          by_cases c277 : q271 = q275
                                                          · replace hf := (if_pos c277).symm.trans hf
                                                            refine X_icmp_eq_t (pc := 1059) 1630 dL_law_1059 (by decide) c277 ?_
                                                            refine X_iinc (pc := 1630) (i := 3) (q := 3) (v := (l3 + (6 : Int32))) [(3, .int (l3 + (6 : Int32))), (0, .ref (xsb G)), (1, .ref (xP G 0)), (2, .ref (xP G 34))] dL_law_1630 rfl rfl (by decide) rfl ?_
                                                            refine X_goto (pc := 1633) 18 dL_law_1633 (by decide) ?_
                                                            exact X_lvs [1, 2, 3, 0] rfl (ih (KP.H KP.rf hH) (KP.M KP.rf hM) hf)
                                                          · replace hf := (if_neg c277).symm.trans hf
                                                            refine X_icmp_eq_f (pc := 1059) 1630 dL_law_1059 (by decide) c277 ?_
                                                            refine X_iconst (pc := 1062) (0 : Int32) dL_law_1062 (by decide) ?_
                                                            cases hf
                                                            exact X_zreturn (pc := 1063) rfl (nar_b (by decide)) dL_law_1063
                                                        · replace hf := (if_neg c29).symm.trans hf
                                                          by_cases c30 : x3 = (26 : Int32)
                                                          · replace hf := (if_pos c30).symm.trans hf
                                                            refine X_tabIn (pc := 33) (off := 1031) (26) 1064 dL_law_33 (by rw [c30]; rfl) (by decide) ?_
                                                            refine X_aload_n (pc := 1064) (i := 1) 1 dL_law_1064 rfl rfl ?_
                                                            refine X_aload_n (pc := 1065) (i := 0) 0 dL_law_1065 rfl rfl ?_
                                                            refine X_iload_n (pc := 1066) (i := 3) 3 dL_law_1066 rfl rfl ?_
                                                            refine X_iconst (pc := 1067) (1 : Int32) dL_law_1067 (by decide) ?_
                                                            refine X_iadd (pc := 1068) dL_law_1068 ?_
                                                            obtain ⟨c278, hf⟩ := gd_some hf
                                                            refine X_scd2 (pc := 1069) hsL hxs hs3 c278 dL_law_1069 ?_
                                                            refine X_invV_i (pc := 1070) (c_H_count (KP.H KP.rf hH) rfl) ok_H_count (ci := 10) (sh_0 (KP.H KP.rf hH)) k_990 k_991 k_992 nd_8 (by decide) rfl (Nat.le_of_ble_eq_true rfl) dL_law_1070 ?_
                                                            obtain ⟨x279, ex279, hf⟩ := bnd_e hf
                                                            refine X_tope ex279 ?_
                                                            refine X_aload_n (pc := 1073) (i := 2) 2 dL_law_1073 rfl rfl ?_
                                                            refine X_aload_n (pc := 1074) (i := 0) 0 dL_law_1074 rfl rfl ?_
                                                            refine X_iload_n (pc := 1075) (i := 3) 3 dL_law_1075 rfl rfl ?_
                                                            refine X_iconst (pc := 1076) (1 : Int32) dL_law_1076 (by decide) ?_
                                                            refine X_iadd (pc := 1077) dL_law_1077 ?_
                                                            obtain ⟨c280, hf⟩ := gd_some hf
                                                            refine X_scd2 (pc := 1078) hsL hxs hs3 c280 dL_law_1078 ?_
                                                            refine X_invV_i (pc := 1079) (c_Md_count (KP.M KP.rf hM) rfl) ok_Md_count (ci := 11) (sh_34 (KP.M KP.rf hM)) k_1714 k_1715 k_1716 nd_8 (by decide) rfl (Nat.le_of_ble_eq_true rfl) dL_law_1079 ?_
                                                            obtain ⟨x281, ex281, hf⟩ := bnd_e hf
                                                            refine X_tope ex281 ?_
                                                            by_cases c282 : x279 = x281
                                                            · replace hf := (if_pos c282).symm.trans hf
                                                              refine X_icmp_eq_t (pc := 1082) 1630 dL_law_1082 (by decide) c282 ?_
                                                              refine X_iinc (pc := 1630) (i := 3) (q := 3) (v := (l3 + (6 : Int32))) [(3, .int (l3 + (6 : Int32))), (0, .ref (xsb G)), (1, .ref (xP G 0)), (2, .ref (xP G 34))] dL_law_1630 rfl rfl (by decide) rfl ?_
                                                              refine X_goto (pc := 1633) 18 dL_law_1633 (by decide) ?_
                                                              exact X_lvs [1, 2, 3, 0] rfl (ih (KP.H KP.rf hH) (KP.M KP.rf hM) hf)
                                                            · replace hf := (if_neg c282).symm.trans hf
                                                              refine X_icmp_eq_f (pc := 1082) 1630 dL_law_1082 (by decide) c282 ?_
                                                              refine X_iconst (pc := 1085) (0 : Int32) dL_law_1085 (by decide) ?_
                                                              cases hf
                                                              exact X_zreturn (pc := 1086) rfl (nar_b (by decide)) dL_law_1086
                                                          · replace hf := (if_neg c30).symm.trans hf
                                                            by_cases c31 : x3 = (27 : Int32)
                                                            · replace hf := (if_pos c31).symm.trans hf
                                                              refine X_tabIn (pc := 33) (off := 1054) (27) 1087 dL_law_33 (by rw [c31]; rfl) (by decide) ?_
                                                              refine X_aload_n (pc := 1087) (i := 1) 1 dL_law_1087 rfl rfl ?_
                                                              refine X_aload_n (pc := 1088) (i := 0) 0 dL_law_1088 rfl rfl ?_
                                                              refine X_iload_n (pc := 1089) (i := 3) 3 dL_law_1089 rfl rfl ?_
                                                              refine X_iconst (pc := 1090) (1 : Int32) dL_law_1090 (by decide) ?_
                                                              refine X_iadd (pc := 1091) dL_law_1091 ?_
                                                              obtain ⟨c283, hf⟩ := gd_some hf
                                                              refine X_scd2 (pc := 1092) hsL hxs hs3 c283 dL_law_1092 ?_
                                                              refine X_aload_n (pc := 1093) (i := 0) 0 dL_law_1093 rfl rfl ?_
                                                              refine X_iload_n (pc := 1094) (i := 3) 3 dL_law_1094 rfl rfl ?_
                                                              refine X_iconst (pc := 1095) (2 : Int32) dL_law_1095 (by decide) ?_
                                                              refine X_iadd (pc := 1096) dL_law_1096 ?_
                                                              obtain ⟨c284, hf⟩ := gd_some hf
                                                              refine X_scd2 (pc := 1097) hsL hxs hs3 c284 dL_law_1097 ?_
                                                              refine X_aload_n (pc := 1098) (i := 0) 0 dL_law_1098 rfl rfl ?_
                                                              refine X_iload_n (pc := 1099) (i := 3) 3 dL_law_1099 rfl rfl ?_
                                                              refine X_iconst (pc := 1100) (3 : Int32) dL_law_1100 (by decide) ?_
                                                              refine X_iadd (pc := 1101) dL_law_1101 ?_
                                                              obtain ⟨c285, hf⟩ := gd_some hf
                                                              refine X_scd2 (pc := 1102) hsL hxs hs3 c285 dL_law_1102 ?_
                                                              obtain ⟨q286, c287, hf⟩ := bd_some hf
                                                              refine X_invV_i (pc := 1103) (c_H_teeth (KP.H KP.rf hH) c287) ok_H_teeth (ci := 10) (sh_0 (KP.H KP.rf hH)) k_994 k_995 k_996 nd_16 (by decide) rfl (Nat.le_of_ble_eq_true rfl) dL_law_1103 ?_
                                                              refine X_aload_n (pc := 1106) (i := 2) 2 dL_law_1106 rfl rfl ?_
                                                              refine X_aload_n (pc := 1107) (i := 0) 0 dL_law_1107 rfl rfl ?_
                                                              refine X_iload_n (pc := 1108) (i := 3) 3 dL_law_1108 rfl rfl ?_
                                                              refine X_iconst (pc := 1109) (1 : Int32) dL_law_1109 (by decide) ?_
                                                              refine X_iadd (pc := 1110) dL_law_1110 ?_
                                                              obtain ⟨c288, hf⟩ := gd_some hf
                                                              refine X_scd2 (pc := 1111) hsL hxs hs3 c288 dL_law_1111 ?_
                                                              refine X_aload_n (pc := 1112) (i := 0) 0 dL_law_1112 rfl rfl ?_
                                                              refine X_iload_n (pc := 1113) (i := 3) 3 dL_law_1113 rfl rfl ?_
                                                              refine X_iconst (pc := 1114) (2 : Int32) dL_law_1114 (by decide) ?_
                                                              refine X_iadd (pc := 1115) dL_law_1115 ?_
                                                              obtain ⟨c289, hf⟩ := gd_some hf
                                                              refine X_scd2 (pc := 1116) hsL hxs hs3 c289 dL_law_1116 ?_
                                                              refine X_aload_n (pc := 1117) (i := 0) 0 dL_law_1117 rfl rfl ?_
                                                              refine X_iload_n (pc := 1118) (i := 3) 3 dL_law_1118 rfl rfl ?_
                                                              refine X_iconst (pc := 1119) (3 : Int32) dL_law_1119 (by decide) ?_
                                                              refine X_iadd (pc := 1120) dL_law_1120 ?_
                                                              obtain ⟨c290, hf⟩ := gd_some hf
                                                              refine X_scd2 (pc := 1121) hsL hxs hs3 c290 dL_law_1121 ?_
                                                              obtain ⟨q291, c292, hf⟩ := bd_some hf
                                                              refine X_invV_i (pc := 1122) (c_Md_teeth (KP.M KP.rf hM) c292) ok_Md_teeth (ci := 11) (sh_34 (KP.M KP.rf hM)) k_1718 k_1719 k_1720 nd_16 (by decide) rfl (Nat.le_of_ble_eq_true rfl) dL_law_1122 ?_
                                                              by_cases c293 : q286.1 = q291.1
                                                              · replace hf := (if_pos c293).symm.trans hf
                                                                refine X_icmp_eq_t (pc := 1125) 1630 dL_law_1125 (by decide) c293 ?_
                                                                refine X_iinc (pc := 1630) (i := 3) (q := 3) (v := (l3 + (6 : Int32))) [(3, .int (l3 + (6 : Int32))), (0, .ref (xsb G)), (1, .ref (xP G 0)), (2, .ref (xP G 34))] dL_law_1630 rfl rfl (by decide) rfl ?_
                                                                refine X_goto (pc := 1633) 18 dL_law_1633 (by decide) ?_
                                                                exact X_lvs [1, 2, 3, 0] rfl (ih (KP.H KP.rf hH) (KP.M KP.rf hM) hf)
                                                              · replace hf := (if_neg c293).symm.trans hf
                                                                refine X_icmp_eq_f (pc := 1125) 1630 dL_law_1125 (by decide) c293 ?_
                                                                refine X_iconst (pc := 1128) (0 : Int32) dL_law_1128 (by decide) ?_
                                                                cases hf
                                                                exact X_zreturn (pc := 1129) rfl (nar_b (by decide)) dL_law_1129
                                                            · replace hf := (if_neg c31).symm.trans hf
                                                              by_cases c32 : x3 = (28 : Int32)
                                                              · replace hf := (if_pos c32).symm.trans hf
                                                                refine X_tabIn (pc := 33) (off := 1097) (28) 1130 dL_law_33 (by rw [c32]; rfl) (by decide) ?_
                                                                refine X_aload_n (pc := 1130) (i := 1) 1 dL_law_1130 rfl rfl ?_
                                                                refine X_aload_n (pc := 1131) (i := 0) 0 dL_law_1131 rfl rfl ?_
                                                                refine X_iload_n (pc := 1132) (i := 3) 3 dL_law_1132 rfl rfl ?_
                                                                refine X_iconst (pc := 1133) (1 : Int32) dL_law_1133 (by decide) ?_
                                                                refine X_iadd (pc := 1134) dL_law_1134 ?_
                                                                obtain ⟨c294, hf⟩ := gd_some hf
                                                                refine X_scd2 (pc := 1135) hsL hxs hs3 c294 dL_law_1135 ?_
                                                                refine X_aload_n (pc := 1136) (i := 0) 0 dL_law_1136 rfl rfl ?_
                                                                refine X_iload_n (pc := 1137) (i := 3) 3 dL_law_1137 rfl rfl ?_
                                                                refine X_iconst (pc := 1138) (2 : Int32) dL_law_1138 (by decide) ?_
                                                                refine X_iadd (pc := 1139) dL_law_1139 ?_
                                                                obtain ⟨c295, hf⟩ := gd_some hf
                                                                refine X_scd2 (pc := 1140) hsL hxs hs3 c295 dL_law_1140 ?_
                                                                refine X_aload_n (pc := 1141) (i := 0) 0 dL_law_1141 rfl rfl ?_
                                                                refine X_iload_n (pc := 1142) (i := 3) 3 dL_law_1142 rfl rfl ?_
                                                                refine X_iconst (pc := 1143) (3 : Int32) dL_law_1143 (by decide) ?_
                                                                refine X_iadd (pc := 1144) dL_law_1144 ?_
                                                                obtain ⟨c296, hf⟩ := gd_some hf
                                                                refine X_scd2 (pc := 1145) hsL hxs hs3 c296 dL_law_1145 ?_
                                                                obtain ⟨q297, c298, hf⟩ := bd_some hf
                                                                refine X_invV_i (pc := 1146) (c_H_search (KP.H KP.rf hH) c298) ok_H_search (ci := 10) (sh_0 (KP.H KP.rf hH)) k_1002 k_1003 k_1004 nd_16 (by decide) rfl (Nat.le_of_ble_eq_true rfl) dL_law_1146 ?_
                                                                refine X_aload_n (pc := 1149) (i := 2) 2 dL_law_1149 rfl rfl ?_
                                                                refine X_aload_n (pc := 1150) (i := 0) 0 dL_law_1150 rfl rfl ?_
                                                                refine X_iload_n (pc := 1151) (i := 3) 3 dL_law_1151 rfl rfl ?_
                                                                refine X_iconst (pc := 1152) (1 : Int32) dL_law_1152 (by decide) ?_
                                                                refine X_iadd (pc := 1153) dL_law_1153 ?_
                                                                obtain ⟨c299, hf⟩ := gd_some hf
                                                                refine X_scd2 (pc := 1154) hsL hxs hs3 c299 dL_law_1154 ?_
                                                                refine X_aload_n (pc := 1155) (i := 0) 0 dL_law_1155 rfl rfl ?_
                                                                refine X_iload_n (pc := 1156) (i := 3) 3 dL_law_1156 rfl rfl ?_
                                                                refine X_iconst (pc := 1157) (2 : Int32) dL_law_1157 (by decide) ?_
                                                                refine X_iadd (pc := 1158) dL_law_1158 ?_
                                                                obtain ⟨c300, hf⟩ := gd_some hf
                                                                refine X_scd2 (pc := 1159) hsL hxs hs3 c300 dL_law_1159 ?_
                                                                refine X_aload_n (pc := 1160) (i := 0) 0 dL_law_1160 rfl rfl ?_
                                                                refine X_iload_n (pc := 1161) (i := 3) 3 dL_law_1161 rfl rfl ?_
                                                                refine X_iconst (pc := 1162) (3 : Int32) dL_law_1162 (by decide) ?_
                                                                refine X_iadd (pc := 1163) dL_law_1163 ?_
                                                                obtain ⟨c301, hf⟩ := gd_some hf
                                                                refine X_scd2 (pc := 1164) hsL hxs hs3 c301 dL_law_1164 ?_
                                                                obtain ⟨q302, c303, hf⟩ := bd_some hf
                                                                refine X_invV_i (pc := 1165) (c_Md_search (KP.M KP.rf hM) c303) ok_Md_search (ci := 11) (sh_34 (KP.M KP.rf hM)) k_1722 k_1723 k_1724 nd_16 (by decide) rfl (Nat.le_of_ble_eq_true rfl) dL_law_1165 ?_
                                                                by_cases c304 : q297.1 = q302.1
                                                                · replace hf := (if_pos c304).symm.trans hf
                                                                  refine X_icmp_eq_t (pc := 1168) 1630 dL_law_1168 (by decide) c304 ?_
                                                                  refine X_iinc (pc := 1630) (i := 3) (q := 3) (v := (l3 + (6 : Int32))) [(3, .int (l3 + (6 : Int32))), (0, .ref (xsb G)), (1, .ref (xP G 0)), (2, .ref (xP G 34))] dL_law_1630 rfl rfl (by decide) rfl ?_
                                                                  refine X_goto (pc := 1633) 18 dL_law_1633 (by decide) ?_
                                                                  exact X_lvs [1, 2, 3, 0] rfl (ih (KP.H KP.rf hH) (KP.M KP.rf hM) hf)
                                                                · replace hf := (if_neg c304).symm.trans hf
                                                                  refine X_icmp_eq_f (pc := 1168) 1630 dL_law_1168 (by decide) c304 ?_
                                                                  refine X_iconst (pc := 1171) (0 : Int32) dL_law_1171 (by decide) ?_
                                                                  cases hf
                                                                  exact X_zreturn (pc := 1172) rfl (nar_b (by decide)) dL_law_1172
                                                              · replace hf := (if_neg c32).symm.trans hf
                                                                by_cases c33 : x3 = (29 : Int32)
                                                                · replace hf := (if_pos c33).symm.trans hf
                                                                  refine X_tabIn (pc := 33) (off := 1140) (29) 1173 dL_law_33 (by rw [c33]; rfl) (by decide) ?_
                                                                  refine X_aload_n (pc := 1173) (i := 1) 1 dL_law_1173 rfl rfl ?_
                                                                  refine X_aload_n (pc := 1174) (i := 0) 0 dL_law_1174 rfl rfl ?_
                                                                  refine X_iload_n (pc := 1175) (i := 3) 3 dL_law_1175 rfl rfl ?_
                                                                  refine X_iconst (pc := 1176) (1 : Int32) dL_law_1176 (by decide) ?_
                                                                  refine X_iadd (pc := 1177) dL_law_1177 ?_
                                                                  obtain ⟨c305, hf⟩ := gd_some hf
                                                                  refine X_scd2 (pc := 1178) hsL hxs hs3 c305 dL_law_1178 ?_
                                                                  refine X_aload_n (pc := 1179) (i := 0) 0 dL_law_1179 rfl rfl ?_
                                                                  refine X_iload_n (pc := 1180) (i := 3) 3 dL_law_1180 rfl rfl ?_
                                                                  refine X_iconst (pc := 1181) (2 : Int32) dL_law_1181 (by decide) ?_
                                                                  refine X_iadd (pc := 1182) dL_law_1182 ?_
                                                                  obtain ⟨c306, hf⟩ := gd_some hf
                                                                  refine X_scd2 (pc := 1183) hsL hxs hs3 c306 dL_law_1183 ?_
                                                                  obtain ⟨q307, c308, hf⟩ := bd_some hf
                                                                  refine X_invV_i (pc := 1184) (c_H_train (KP.H KP.rf hH) c308) ok_H_train (ci := 10) (sh_0 (KP.H KP.rf hH)) k_1047 k_1048 k_1049 nd_21 (by decide) rfl (Nat.le_of_ble_eq_true rfl) dL_law_1184 ?_
                                                                  refine X_aload_n (pc := 1187) (i := 2) 2 dL_law_1187 rfl rfl ?_
                                                                  refine X_aload_n (pc := 1188) (i := 0) 0 dL_law_1188 rfl rfl ?_
                                                                  refine X_iload_n (pc := 1189) (i := 3) 3 dL_law_1189 rfl rfl ?_
                                                                  refine X_iconst (pc := 1190) (1 : Int32) dL_law_1190 (by decide) ?_
                                                                  refine X_iadd (pc := 1191) dL_law_1191 ?_
                                                                  obtain ⟨c309, hf⟩ := gd_some hf
                                                                  refine X_scd2 (pc := 1192) hsL hxs hs3 c309 dL_law_1192 ?_
                                                                  refine X_aload_n (pc := 1193) (i := 0) 0 dL_law_1193 rfl rfl ?_
                                                                  refine X_iload_n (pc := 1194) (i := 3) 3 dL_law_1194 rfl rfl ?_
                                                                  refine X_iconst (pc := 1195) (2 : Int32) dL_law_1195 (by decide) ?_
                                                                  refine X_iadd (pc := 1196) dL_law_1196 ?_
                                                                  obtain ⟨c310, hf⟩ := gd_some hf
                                                                  refine X_scd2 (pc := 1197) hsL hxs hs3 c310 dL_law_1197 ?_
                                                                  obtain ⟨q311, c312, hf⟩ := bd_some hf
                                                                  refine X_invV_i (pc := 1198) (c_Md_train (KP.M KP.rf hM) c312) ok_Md_train (ci := 11) (sh_34 (KP.M KP.rf hM)) k_1739 k_1740 k_1741 nd_21 (by decide) rfl (Nat.le_of_ble_eq_true rfl) dL_law_1198 ?_
                                                                  by_cases c313 : q307 = q311
                                                                  · replace hf := (if_pos c313).symm.trans hf
                                                                    refine X_icmp_eq_t (pc := 1201) 1630 dL_law_1201 (by decide) c313 ?_
                                                                    refine X_iinc (pc := 1630) (i := 3) (q := 3) (v := (l3 + (6 : Int32))) [(3, .int (l3 + (6 : Int32))), (0, .ref (xsb G)), (1, .ref (xP G 0)), (2, .ref (xP G 34))] dL_law_1630 rfl rfl (by decide) rfl ?_
                                                                    refine X_goto (pc := 1633) 18 dL_law_1633 (by decide) ?_
                                                                    exact X_lvs [1, 2, 3, 0] rfl (ih (KP.H KP.rf hH) (KP.M KP.rf hM) hf)
                                                                  · replace hf := (if_neg c313).symm.trans hf
                                                                    refine X_icmp_eq_f (pc := 1201) 1630 dL_law_1201 (by decide) c313 ?_
                                                                    refine X_iconst (pc := 1204) (0 : Int32) dL_law_1204 (by decide) ?_
                                                                    cases hf
                                                                    exact X_zreturn (pc := 1205) rfl (nar_b (by decide)) dL_law_1205
                                                                · replace hf := (if_neg c33).symm.trans hf
                                                                  by_cases c34 : x3 = (30 : Int32)
                                                                  · replace hf := (if_pos c34).symm.trans hf
                                                                    refine X_tabIn (pc := 33) (off := 1173) (30) 1206 dL_law_33 (by rw [c34]; rfl) (by decide) ?_
                                                                    refine X_aload_n (pc := 1206) (i := 1) 1 dL_law_1206 rfl rfl ?_
                                                                    refine X_aload_n (pc := 1207) (i := 0) 0 dL_law_1207 rfl rfl ?_
                                                                    refine X_iload_n (pc := 1208) (i := 3) 3 dL_law_1208 rfl rfl ?_
                                                                    refine X_iconst (pc := 1209) (1 : Int32) dL_law_1209 (by decide) ?_
                                                                    refine X_iadd (pc := 1210) dL_law_1210 ?_
                                                                    obtain ⟨c314, hf⟩ := gd_some hf
                                                                    refine X_scd2 (pc := 1211) hsL hxs hs3 c314 dL_law_1211 ?_
                                                                    refine X_invV_l (pc := 1212) (c_H_error (KP.H KP.rf hH) rfl) ok_H_error (ci := 10) (sh_0 (KP.H KP.rf hH)) k_1051 k_1052 k_1053 nd_39 (by decide) rfl (Nat.le_of_ble_eq_true rfl) dL_law_1212 ?_
                                                                    obtain ⟨x315, ex315, hf⟩ := bnd_e hf
                                                                    refine X_tople ex315 ?_
                                                                    refine X_aload_n (pc := 1215) (i := 2) 2 dL_law_1215 rfl rfl ?_
                                                                    refine X_aload_n (pc := 1216) (i := 0) 0 dL_law_1216 rfl rfl ?_
                                                                    refine X_iload_n (pc := 1217) (i := 3) 3 dL_law_1217 rfl rfl ?_
                                                                    refine X_iconst (pc := 1218) (1 : Int32) dL_law_1218 (by decide) ?_
                                                                    refine X_iadd (pc := 1219) dL_law_1219 ?_
                                                                    obtain ⟨c316, hf⟩ := gd_some hf
                                                                    refine X_scd2 (pc := 1220) hsL hxs hs3 c316 dL_law_1220 ?_
                                                                    refine X_invV_l (pc := 1221) (c_Md_error (KP.M KP.rf hM) rfl) ok_Md_error (ci := 11) (sh_34 (KP.M KP.rf hM)) k_1743 k_1744 k_1745 nd_39 (by decide) rfl (Nat.le_of_ble_eq_true rfl) dL_law_1221 ?_
                                                                    obtain ⟨x317, ex317, hf⟩ := bnd_e hf
                                                                    refine X_tople ex317 ?_
                                                                    refine X_lcmp (pc := 1224) dL_law_1224 ?_
                                                                    by_cases c318 : x315 = x317
                                                                    · replace hf := (if_pos c318).symm.trans hf
                                                                      refine X_if_eq_t (pc := 1225) 1630 dL_law_1225 (by decide) ((lg_cmp_eq _ _).mpr c318) ?_
                                                                      refine X_iinc (pc := 1630) (i := 3) (q := 3) (v := (l3 + (6 : Int32))) [(3, .int (l3 + (6 : Int32))), (0, .ref (xsb G)), (1, .ref (xP G 0)), (2, .ref (xP G 34))] dL_law_1630 rfl rfl (by decide) rfl ?_
                                                                      refine X_goto (pc := 1633) 18 dL_law_1633 (by decide) ?_
                                                                      exact X_lvs [1, 2, 3, 0] rfl (ih (KP.H KP.rf hH) (KP.M KP.rf hM) hf)
                                                                    · replace hf := (if_neg c318).symm.trans hf
                                                                      refine X_if_eq_f (pc := 1225) 1630 dL_law_1225 (by decide) (fun h => c318 ((lg_cmp_eq _ _).mp h)) ?_
                                                                      refine X_iconst (pc := 1228) (0 : Int32) dL_law_1228 (by decide) ?_
                                                                      cases hf
                                                                      exact X_zreturn (pc := 1229) rfl (nar_b (by decide)) dL_law_1229
                                                                  · replace hf := (if_neg c34).symm.trans hf
                                                                    by_cases c35 : x3 = (31 : Int32)
                                                                    · replace hf := (if_pos c35).symm.trans hf
                                                                      refine X_tabIn (pc := 33) (off := 1197) (31) 1230 dL_law_33 (by rw [c35]; rfl) (by decide) ?_
                                                                      refine X_aload_n (pc := 1230) (i := 1) 1 dL_law_1230 rfl rfl ?_
                                                                      obtain ⟨q319, c320, hf⟩ := bd_some hf
                                                                      refine X_invV_i (pc := 1231) (c_H_chain (KP.H KP.rf hH) c320) ok_H_chain (ci := 10) (sh_0 (KP.H KP.rf hH)) k_1055 k_1056 k_1057 nd_4 (by decide) rfl (Nat.le_of_ble_eq_true rfl) dL_law_1231 ?_
                                                                      refine X_aload_n (pc := 1234) (i := 2) 2 dL_law_1234 rfl rfl ?_
                                                                      obtain ⟨q321, c322, hf⟩ := bd_some hf
                                                                      refine X_invV_i (pc := 1235) (c_Md_chain (KP.M KP.rf hM) c322) ok_Md_chain (ci := 11) (sh_34 (KP.M KP.rf hM)) k_1747 k_1748 k_1749 nd_4 (by decide) rfl (Nat.le_of_ble_eq_true rfl) dL_law_1235 ?_
                                                                      by_cases c323 : q319.1 = q321.1
                                                                      · replace hf := (if_pos c323).symm.trans hf
                                                                        refine X_icmp_eq_t (pc := 1238) 1630 dL_law_1238 (by decide) c323 ?_
                                                                        refine X_iinc (pc := 1630) (i := 3) (q := 3) (v := (l3 + (6 : Int32))) [(3, .int (l3 + (6 : Int32))), (0, .ref (xsb G)), (1, .ref (xP G 0)), (2, .ref (xP G 34))] dL_law_1630 rfl rfl (by decide) rfl ?_
                                                                        refine X_goto (pc := 1633) 18 dL_law_1633 (by decide) ?_
                                                                        exact X_lvs [1, 2, 3, 0] rfl (ih (KP.H KP.rf hH) (KP.M KP.rf hM) hf)
                                                                      · replace hf := (if_neg c323).symm.trans hf
                                                                        refine X_icmp_eq_f (pc := 1238) 1630 dL_law_1238 (by decide) c323 ?_
                                                                        refine X_iconst (pc := 1241) (0 : Int32) dL_law_1241 (by decide) ?_
                                                                        cases hf
                                                                        exact X_zreturn (pc := 1242) rfl (nar_b (by decide)) dL_law_1242
                                                                    · replace hf := (if_neg c35).symm.trans hf
                                                                      by_cases c36 : x3 = (32 : Int32)
                                                                      · replace hf := (if_pos c36).symm.trans hf
                                                                        refine X_tabIn (pc := 33) (off := 1210) (32) 1243 dL_law_33 (by rw [c36]; rfl) (by decide) ?_
                                                                        refine X_aload_n (pc := 1243) (i := 1) 1 dL_law_1243 rfl rfl ?_
                                                                        refine X_aload_n (pc := 1244) (i := 0) 0 dL_law_1244 rfl rfl ?_
                                                                        refine X_iload_n (pc := 1245) (i := 3) 3 dL_law_1245 rfl rfl ?_
                                                                        refine X_iconst (pc := 1246) (1 : Int32) dL_law_1246 (by decide) ?_
                                                                        refine X_iadd (pc := 1247) dL_law_1247 ?_
                                                                        obtain ⟨c324, hf⟩ := gd_some hf
                                                                        refine X_scd2 (pc := 1248) hsL hxs hs3 c324 dL_law_1248 ?_
                                                                        refine X_aload_n (pc := 1249) (i := 0) 0 dL_law_1249 rfl rfl ?_
                                                                        refine X_iload_n (pc := 1250) (i := 3) 3 dL_law_1250 rfl rfl ?_
                                                                        refine X_iconst (pc := 1251) (2 : Int32) dL_law_1251 (by decide) ?_
                                                                        refine X_iadd (pc := 1252) dL_law_1252 ?_
                                                                        obtain ⟨c325, hf⟩ := gd_some hf
                                                                        refine X_scd2 (pc := 1253) hsL hxs hs3 c325 dL_law_1253 ?_
                                                                        refine X_aload_n (pc := 1254) (i := 0) 0 dL_law_1254 rfl rfl ?_
                                                                        refine X_iload_n (pc := 1255) (i := 3) 3 dL_law_1255 rfl rfl ?_
                                                                        refine X_iconst (pc := 1256) (3 : Int32) dL_law_1256 (by decide) ?_
                                                                        refine X_iadd (pc := 1257) dL_law_1257 ?_
                                                                        obtain ⟨c326, hf⟩ := gd_some hf
                                                                        refine X_scd2 (pc := 1258) hsL hxs hs3 c326 dL_law_1258 ?_
                                                                        refine X_aload_n (pc := 1259) (i := 0) 0 dL_law_1259 rfl rfl ?_
                                                                        refine X_iload_n (pc := 1260) (i := 3) 3 dL_law_1260 rfl rfl ?_
                                                                        refine X_iconst (pc := 1261) (4 : Int32) dL_law_1261 (by decide) ?_
                                                                        refine X_iadd (pc := 1262) dL_law_1262 ?_
                                                                        obtain ⟨c327, hf⟩ := gd_some hf
                                                                        refine X_scd2 (pc := 1263) hsL hxs hs3 c327 dL_law_1263 ?_
                                                                        obtain ⟨q328, c329, hf⟩ := bd_some hf
                                                                        refine X_invV_i (pc := 1264) (c_H_size (KP.H KP.rf hH) c329) ok_H_size (ci := 10) (sh_0 (KP.H KP.rf hH)) k_1059 k_1060 k_1061 nd_31 (by decide) rfl (Nat.le_of_ble_eq_true rfl) dL_law_1264 ?_
                                                                        refine X_aload_n (pc := 1267) (i := 2) 2 dL_law_1267 rfl rfl ?_
                                                                        refine X_aload_n (pc := 1268) (i := 0) 0 dL_law_1268 rfl rfl ?_
                                                                        refine X_iload_n (pc := 1269) (i := 3) 3 dL_law_1269 rfl rfl ?_
                                                                        refine X_iconst (pc := 1270) (1 : Int32) dL_law_1270 (by decide) ?_
                                                                        refine X_iadd (pc := 1271) dL_law_1271 ?_
                                                                        obtain ⟨c330, hf⟩ := gd_some hf
                                                                        refine X_scd2 (pc := 1272) hsL hxs hs3 c330 dL_law_1272 ?_
                                                                        refine X_aload_n (pc := 1273) (i := 0) 0 dL_law_1273 rfl rfl ?_
                                                                        refine X_iload_n (pc := 1274) (i := 3) 3 dL_law_1274 rfl rfl ?_
                                                                        refine X_iconst (pc := 1275) (2 : Int32) dL_law_1275 (by decide) ?_
                                                                        refine X_iadd (pc := 1276) dL_law_1276 ?_
                                                                        obtain ⟨c331, hf⟩ := gd_some hf
                                                                        refine X_scd2 (pc := 1277) hsL hxs hs3 c331 dL_law_1277 ?_
                                                                        refine X_aload_n (pc := 1278) (i := 0) 0 dL_law_1278 rfl rfl ?_
                                                                        refine X_iload_n (pc := 1279) (i := 3) 3 dL_law_1279 rfl rfl ?_
                                                                        refine X_iconst (pc := 1280) (3 : Int32) dL_law_1280 (by decide) ?_
                                                                        refine X_iadd (pc := 1281) dL_law_1281 ?_
                                                                        obtain ⟨c332, hf⟩ := gd_some hf
                                                                        refine X_scd2 (pc := 1282) hsL hxs hs3 c332 dL_law_1282 ?_
                                                                        refine X_aload_n (pc := 1283) (i := 0) 0 dL_law_1283 rfl rfl ?_
                                                                        refine X_iload_n (pc := 1284) (i := 3) 3 dL_law_1284 rfl rfl ?_
                                                                        refine X_iconst (pc := 1285) (4 : Int32) dL_law_1285 (by decide) ?_
                                                                        refine X_iadd (pc := 1286) dL_law_1286 ?_
                                                                        obtain ⟨c333, hf⟩ := gd_some hf
                                                                        refine X_scd2 (pc := 1287) hsL hxs hs3 c333 dL_law_1287 ?_
                                                                        obtain ⟨q334, c335, hf⟩ := bd_some hf
                                                                        refine X_invV_i (pc := 1288) (c_Md_size (KP.M KP.rf hM) c335) ok_Md_size (ci := 11) (sh_34 (KP.M KP.rf hM)) k_1751 k_1752 k_1753 nd_31 (by decide) rfl (Nat.le_of_ble_eq_true rfl) dL_law_1288 ?_
                                                                        by_cases c336 : q328.1 = q334.1
                                                                        · replace hf := (if_pos c336).symm.trans hf
                                                                          refine X_icmp_eq_t (pc := 1291) 1630 dL_law_1291 (by decide) c336 ?_
                                                                          refine X_iinc (pc := 1630) (i := 3) (q := 3) (v := (l3 + (6 : Int32))) [(3, .int (l3 + (6 : Int32))), (0, .ref (xsb G)), (1, .ref (xP G 0)), (2, .ref (xP G 34))] dL_law_1630 rfl rfl (by decide) rfl ?_
                                                                          refine X_goto (pc := 1633) 18 dL_law_1633 (by decide) ?_
                                                                          exact X_lvs [1, 2, 3, 0] rfl (ih (KP.H KP.rf hH) (KP.M KP.rf hM) hf)
                                                                        · replace hf := (if_neg c336).symm.trans hf
                                                                          refine X_icmp_eq_f (pc := 1291) 1630 dL_law_1291 (by decide) c336 ?_
                                                                          refine X_iconst (pc := 1294) (0 : Int32) dL_law_1294 (by decide) ?_
                                                                          cases hf
                                                                          exact X_zreturn (pc := 1295) rfl (nar_b (by decide)) dL_law_1295
                                                                      · replace hf := (if_neg c36).symm.trans hf
                                                                        by_cases c37 : x3 = (33 : Int32)
                                                                        · replace hf := (if_pos c37).symm.trans hf
                                                                          refine X_tabIn (pc := 33) (off := 1263) (33) 1296 dL_law_33 (by rw [c37]; rfl) (by decide) ?_
                                                                          refine X_aload_n (pc := 1296) (i := 1) 1 dL_law_1296 rfl rfl ?_
                                                                          refine X_aload_n (pc := 1297) (i := 0) 0 dL_law_1297 rfl rfl ?_
                                                                          refine X_iload_n (pc := 1298) (i := 3) 3 dL_law_1298 rfl rfl ?_
                                                                          refine X_iconst (pc := 1299) (1 : Int32) dL_law_1299 (by decide) ?_
                                                                          refine X_iadd (pc := 1300) dL_law_1300 ?_
                                                                          obtain ⟨c337, hf⟩ := gd_some hf
                                                                          refine X_scd2 (pc := 1301) hsL hxs hs3 c337 dL_law_1301 ?_
                                                                          obtain ⟨q338, c339, hf⟩ := bd_some hf
                                                                          refine X_invV_i (pc := 1302) (c_H_limit (KP.H KP.rf hH) c339) ok_H_limit (ci := 10) (sh_0 (KP.H KP.rf hH)) k_1067 k_1068 k_1069 nd_8 (by decide) rfl (Nat.le_of_ble_eq_true rfl) dL_law_1302 ?_
                                                                          refine X_aload_n (pc := 1305) (i := 2) 2 dL_law_1305 rfl rfl ?_
                                                                          refine X_aload_n (pc := 1306) (i := 0) 0 dL_law_1306 rfl rfl ?_
                                                                          refine X_iload_n (pc := 1307) (i := 3) 3 dL_law_1307 rfl rfl ?_
                                                                          refine X_iconst (pc := 1308) (1 : Int32) dL_law_1308 (by decide) ?_
                                                                          refine X_iadd (pc := 1309) dL_law_1309 ?_
                                                                          obtain ⟨c340, hf⟩ := gd_some hf
                                                                          refine X_scd2 (pc := 1310) hsL hxs hs3 c340 dL_law_1310 ?_
                                                                          obtain ⟨q341, c342, hf⟩ := bd_some hf
                                                                          refine X_invV_i (pc := 1311) (c_Md_limit (KP.M KP.rf hM) c342) ok_Md_limit (ci := 11) (sh_34 (KP.M KP.rf hM)) k_1757 k_1758 k_1759 nd_8 (by decide) rfl (Nat.le_of_ble_eq_true rfl) dL_law_1311 ?_
                                                                          by_cases c343 : q338 = q341
                                                                          · replace hf := (if_pos c343).symm.trans hf
                                                                            refine X_icmp_eq_t (pc := 1314) 1630 dL_law_1314 (by decide) c343 ?_
                                                                            refine X_iinc (pc := 1630) (i := 3) (q := 3) (v := (l3 + (6 : Int32))) [(3, .int (l3 + (6 : Int32))), (0, .ref (xsb G)), (1, .ref (xP G 0)), (2, .ref (xP G 34))] dL_law_1630 rfl rfl (by decide) rfl ?_
                                                                            refine X_goto (pc := 1633) 18 dL_law_1633 (by decide) ?_
                                                                            exact X_lvs [1, 2, 3, 0] rfl (ih (KP.H KP.rf hH) (KP.M KP.rf hM) hf)
                                                                          · replace hf := (if_neg c343).symm.trans hf
                                                                            refine X_icmp_eq_f (pc := 1314) 1630 dL_law_1314 (by decide) c343 ?_
                                                                            refine X_iconst (pc := 1317) (0 : Int32) dL_law_1317 (by decide) ?_
                                                                            cases hf
                                                                            exact X_zreturn (pc := 1318) rfl (nar_b (by decide)) dL_law_1318
                                                                        · replace hf := (if_neg c37).symm.trans hf
                                                                          by_cases c38 : x3 = (34 : Int32)
                                                                          · replace hf := (if_pos c38).symm.trans hf
                                                                            refine X_tabIn (pc := 33) (off := 1286) (34) 1319 dL_law_33 (by rw [c38]; rfl) (by decide) ?_
                                                                            refine X_aload_n (pc := 1319) (i := 1) 1 dL_law_1319 rfl rfl ?_
                                                                            refine X_aload_n (pc := 1320) (i := 0) 0 dL_law_1320 rfl rfl ?_
                                                                            refine X_iload_n (pc := 1321) (i := 3) 3 dL_law_1321 rfl rfl ?_
                                                                            refine X_iconst (pc := 1322) (1 : Int32) dL_law_1322 (by decide) ?_
                                                                            refine X_iadd (pc := 1323) dL_law_1323 ?_
                                                                            obtain ⟨c344, hf⟩ := gd_some hf
                                                                            refine X_scd2 (pc := 1324) hsL hxs hs3 c344 dL_law_1324 ?_
                                                                            refine X_aload_n (pc := 1325) (i := 0) 0 dL_law_1325 rfl rfl ?_
                                                                            refine X_iload_n (pc := 1326) (i := 3) 3 dL_law_1326 rfl rfl ?_
                                                                            refine X_iconst (pc := 1327) (2 : Int32) dL_law_1327 (by decide) ?_
                                                                            refine X_iadd (pc := 1328) dL_law_1328 ?_
                                                                            obtain ⟨c345, hf⟩ := gd_some hf
                                                                            refine X_scd2 (pc := 1329) hsL hxs hs3 c345 dL_law_1329 ?_
                                                                            obtain ⟨q346, c347, hf⟩ := bd_some hf
                                                                            refine X_invV_l (pc := 1330) (c_H_ways (KP.H KP.rf hH) c347) ok_H_ways (ci := 10) (sh_0 (KP.H KP.rf hH)) k_1076 k_1077 k_1078 nd_32 (by decide) rfl (Nat.le_of_ble_eq_true rfl) dL_law_1330 ?_
                                                                            refine X_aload_n (pc := 1333) (i := 2) 2 dL_law_1333 rfl rfl ?_
                                                                            refine X_aload_n (pc := 1334) (i := 0) 0 dL_law_1334 rfl rfl ?_
                                                                            refine X_iload_n (pc := 1335) (i := 3) 3 dL_law_1335 rfl rfl ?_
                                                                            refine X_iconst (pc := 1336) (1 : Int32) dL_law_1336 (by decide) ?_
                                                                            refine X_iadd (pc := 1337) dL_law_1337 ?_
                                                                            obtain ⟨c348, hf⟩ := gd_some hf
                                                                            refine X_scd2 (pc := 1338) hsL hxs hs3 c348 dL_law_1338 ?_
                                                                            refine X_aload_n (pc := 1339) (i := 0) 0 dL_law_1339 rfl rfl ?_
                                                                            refine X_iload_n (pc := 1340) (i := 3) 3 dL_law_1340 rfl rfl ?_
                                                                            refine X_iconst (pc := 1341) (2 : Int32) dL_law_1341 (by decide) ?_
                                                                            refine X_iadd (pc := 1342) dL_law_1342 ?_
                                                                            obtain ⟨c349, hf⟩ := gd_some hf
                                                                            refine X_scd2 (pc := 1343) hsL hxs hs3 c349 dL_law_1343 ?_
                                                                            obtain ⟨q350, c351, hf⟩ := bd_some hf
                                                                            refine X_invV_l (pc := 1344) (c_Md_ways (KP.M KP.rf hM) c351) ok_Md_ways (ci := 11) (sh_34 (KP.M KP.rf hM)) k_1762 k_1763 k_1764 nd_32 (by decide) rfl (Nat.le_of_ble_eq_true rfl) dL_law_1344 ?_
                                                                            refine X_lcmp (pc := 1347) dL_law_1347 ?_
                                                                            by_cases c352 : q346.1 = q350.1
                                                                            · replace hf := (if_pos c352).symm.trans hf
                                                                              refine X_if_eq_t (pc := 1348) 1630 dL_law_1348 (by decide) ((lg_cmp_eq _ _).mpr c352) ?_
                                                                              refine X_iinc (pc := 1630) (i := 3) (q := 3) (v := (l3 + (6 : Int32))) [(3, .int (l3 + (6 : Int32))), (0, .ref (xsb G)), (1, .ref (xP G 0)), (2, .ref (xP G 34))] dL_law_1630 rfl rfl (by decide) rfl ?_
                                                                              refine X_goto (pc := 1633) 18 dL_law_1633 (by decide) ?_
                                                                              exact X_lvs [1, 2, 3, 0] rfl (ih (KP.H KP.rf hH) (KP.M KP.rf hM) hf)
                                                                            · replace hf := (if_neg c352).symm.trans hf
                                                                              refine X_if_eq_f (pc := 1348) 1630 dL_law_1348 (by decide) (fun h => c352 ((lg_cmp_eq _ _).mp h)) ?_
                                                                              refine X_iconst (pc := 1351) (0 : Int32) dL_law_1351 (by decide) ?_
                                                                              cases hf
                                                                              exact X_zreturn (pc := 1352) rfl (nar_b (by decide)) dL_law_1352
                                                                          · replace hf := (if_neg c38).symm.trans hf
                                                                            by_cases c39 : x3 = (35 : Int32)
                                                                            · replace hf := (if_pos c39).symm.trans hf
                                                                              refine X_tabIn (pc := 33) (off := 1320) (35) 1353 dL_law_33 (by rw [c39]; rfl) (by decide) ?_
                                                                              refine X_aload_n (pc := 1353) (i := 1) 1 dL_law_1353 rfl rfl ?_
                                                                              refine X_aload_n (pc := 1354) (i := 0) 0 dL_law_1354 rfl rfl ?_
                                                                              refine X_iload_n (pc := 1355) (i := 3) 3 dL_law_1355 rfl rfl ?_
                                                                              refine X_iconst (pc := 1356) (1 : Int32) dL_law_1356 (by decide) ?_
                                                                              refine X_iadd (pc := 1357) dL_law_1357 ?_
                                                                              obtain ⟨c353, hf⟩ := gd_some hf
                                                                              refine X_scd2 (pc := 1358) hsL hxs hs3 c353 dL_law_1358 ?_
                                                                              refine X_aload_n (pc := 1359) (i := 0) 0 dL_law_1359 rfl rfl ?_
                                                                              refine X_iload_n (pc := 1360) (i := 3) 3 dL_law_1360 rfl rfl ?_
                                                                              refine X_iconst (pc := 1361) (2 : Int32) dL_law_1361 (by decide) ?_
                                                                              refine X_iadd (pc := 1362) dL_law_1362 ?_
                                                                              obtain ⟨c354, hf⟩ := gd_some hf
                                                                              refine X_scd2 (pc := 1363) hsL hxs hs3 c354 dL_law_1363 ?_
                                                                              obtain ⟨q355, c356, hf⟩ := bd_some hf
                                                                              refine X_invV_i (pc := 1364) (c_H_rate (KP.H KP.rf hH) c356) ok_H_rate (ci := 10) (sh_0 (KP.H KP.rf hH)) k_1090 k_1091 k_1092 nd_21 (by decide) rfl (Nat.le_of_ble_eq_true rfl) dL_law_1364 ?_
                                                                              refine X_aload_n (pc := 1367) (i := 2) 2 dL_law_1367 rfl rfl ?_
                                                                              refine X_aload_n (pc := 1368) (i := 0) 0 dL_law_1368 rfl rfl ?_
                                                                              refine X_iload_n (pc := 1369) (i := 3) 3 dL_law_1369 rfl rfl ?_
                                                                              refine X_iconst (pc := 1370) (1 : Int32) dL_law_1370 (by decide) ?_
                                                                              refine X_iadd (pc := 1371) dL_law_1371 ?_
                                                                              obtain ⟨c357, hf⟩ := gd_some hf
                                                                              refine X_scd2 (pc := 1372) hsL hxs hs3 c357 dL_law_1372 ?_
                                                                              refine X_aload_n (pc := 1373) (i := 0) 0 dL_law_1373 rfl rfl ?_
                                                                              refine X_iload_n (pc := 1374) (i := 3) 3 dL_law_1374 rfl rfl ?_
                                                                              refine X_iconst (pc := 1375) (2 : Int32) dL_law_1375 (by decide) ?_
                                                                              refine X_iadd (pc := 1376) dL_law_1376 ?_
                                                                              obtain ⟨c358, hf⟩ := gd_some hf
                                                                              refine X_scd2 (pc := 1377) hsL hxs hs3 c358 dL_law_1377 ?_
                                                                              obtain ⟨q359, c360, hf⟩ := bd_some hf
                                                                              refine X_invV_i (pc := 1378) (c_Md_rate (KP.M KP.rf hM) c360) ok_Md_rate (ci := 11) (sh_34 (KP.M KP.rf hM)) k_1767 k_1768 k_1769 nd_21 (by decide) rfl (Nat.le_of_ble_eq_true rfl) dL_law_1378 ?_
                                                                              by_cases c361 : q355.1 = q359.1
                                                                              · replace hf := (if_pos c361).symm.trans hf
                                                                                refine X_icmp_eq_t (pc := 1381) 1630 dL_law_1381 (by decide) c361 ?_
                                                                                refine X_iinc (pc := 1630) (i := 3) (q := 3) (v := (l3 + (6 : Int32))) [(3, .int (l3 + (6 : Int32))), (0, .ref (xsb G)), (1, .ref (xP G 0)), (2, .ref (xP G 34))] dL_law_1630 rfl rfl (by decide) rfl ?_
                                                                                refine X_goto (pc := 1633) 18 dL_law_1633 (by decide) ?_
                                                                                exact X_lvs [1, 2, 3, 0] rfl (ih (KP.H KP.rf hH) (KP.M KP.rf hM) hf)
                                                                              · replace hf := (if_neg c361).symm.trans hf
                                                                                refine X_icmp_eq_f (pc := 1381) 1630 dL_law_1381 (by decide) c361 ?_
                                                                                refine X_iconst (pc := 1384) (0 : Int32) dL_law_1384 (by decide) ?_
                                                                                cases hf
                                                                                exact X_zreturn (pc := 1385) rfl (nar_b (by decide)) dL_law_1385
                                                                            · replace hf := (if_neg c39).symm.trans hf
                                                                              by_cases c40 : x3 = (36 : Int32)
                                                                              · replace hf := (if_pos c40).symm.trans hf
                                                                                refine X_tabIn (pc := 33) (off := 1353) (36) 1386 dL_law_33 (by rw [c40]; rfl) (by decide) ?_
                                                                                refine X_aload_n (pc := 1386) (i := 1) 1 dL_law_1386 rfl rfl ?_
                                                                                refine X_aload_n (pc := 1387) (i := 0) 0 dL_law_1387 rfl rfl ?_
                                                                                refine X_iload_n (pc := 1388) (i := 3) 3 dL_law_1388 rfl rfl ?_
                                                                                refine X_iconst (pc := 1389) (1 : Int32) dL_law_1389 (by decide) ?_
                                                                                refine X_iadd (pc := 1390) dL_law_1390 ?_
                                                                                obtain ⟨c362, hf⟩ := gd_some hf
                                                                                refine X_scd2 (pc := 1391) hsL hxs hs3 c362 dL_law_1391 ?_
                                                                                obtain ⟨q363, c364, hf⟩ := bd_some hf
                                                                                refine X_invV_i (pc := 1392) (c_H_verdict (KP.H KP.rf hH) c364) ok_H_verdict (ci := 10) (sh_0 (KP.H KP.rf hH)) k_1094 k_1095 k_1096 nd_8 (by decide) rfl (Nat.le_of_ble_eq_true rfl) dL_law_1392 ?_
                                                                                refine X_aload_n (pc := 1395) (i := 2) 2 dL_law_1395 rfl rfl ?_
                                                                                refine X_aload_n (pc := 1396) (i := 0) 0 dL_law_1396 rfl rfl ?_
                                                                                refine X_iload_n (pc := 1397) (i := 3) 3 dL_law_1397 rfl rfl ?_
                                                                                refine X_iconst (pc := 1398) (1 : Int32) dL_law_1398 (by decide) ?_
                                                                                refine X_iadd (pc := 1399) dL_law_1399 ?_
                                                                                obtain ⟨c365, hf⟩ := gd_some hf
                                                                                refine X_scd2 (pc := 1400) hsL hxs hs3 c365 dL_law_1400 ?_
                                                                                obtain ⟨q366, c367, hf⟩ := bd_some hf
                                                                                refine X_invV_i (pc := 1401) (c_Md_verdict (KP.M KP.rf hM) c367) ok_Md_verdict (ci := 11) (sh_34 (KP.M KP.rf hM)) k_1773 k_1774 k_1775 nd_8 (by decide) rfl (Nat.le_of_ble_eq_true rfl) dL_law_1401 ?_
                                                                                by_cases c368 : q363 = q366
                                                                                · replace hf := (if_pos c368).symm.trans hf
                                                                                  refine X_icmp_eq_t (pc := 1404) 1630 dL_law_1404 (by decide) c368 ?_
                                                                                  refine X_iinc (pc := 1630) (i := 3) (q := 3) (v := (l3 + (6 : Int32))) [(3, .int (l3 + (6 : Int32))), (0, .ref (xsb G)), (1, .ref (xP G 0)), (2, .ref (xP G 34))] dL_law_1630 rfl rfl (by decide) rfl ?_
                                                                                  refine X_goto (pc := 1633) 18 dL_law_1633 (by decide) ?_
                                                                                  exact X_lvs [1, 2, 3, 0] rfl (ih (KP.H KP.rf hH) (KP.M KP.rf hM) hf)
                                                                                · replace hf := (if_neg c368).symm.trans hf
                                                                                  refine X_icmp_eq_f (pc := 1404) 1630 dL_law_1404 (by decide) c368 ?_
                                                                                  refine X_iconst (pc := 1407) (0 : Int32) dL_law_1407 (by decide) ?_
                                                                                  cases hf
                                                                                  exact X_zreturn (pc := 1408) rfl (nar_b (by decide)) dL_law_1408
                                                                              · replace hf := (if_neg c40).symm.trans hf
                                                                                by_cases c41 : x3 = (37 : Int32)
                                                                                · replace hf := (if_pos c41).symm.trans hf
                                                                                  refine X_tabIn (pc := 33) (off := 1376) (37) 1409 dL_law_33 (by rw [c41]; rfl) (by decide) ?_
                                                                                  refine X_aload_n (pc := 1409) (i := 1) 1 dL_law_1409 rfl rfl ?_
                                                                                  refine X_aload_n (pc := 1410) (i := 0) 0 dL_law_1410 rfl rfl ?_
                                                                                  refine X_iload_n (pc := 1411) (i := 3) 3 dL_law_1411 rfl rfl ?_
                                                                                  refine X_iconst (pc := 1412) (1 : Int32) dL_law_1412 (by decide) ?_
                                                                                  refine X_iadd (pc := 1413) dL_law_1413 ?_
                                                                                  obtain ⟨c369, hf⟩ := gd_some hf
                                                                                  refine X_scd2 (pc := 1414) hsL hxs hs3 c369 dL_law_1414 ?_
                                                                                  refine X_aload_n (pc := 1415) (i := 0) 0 dL_law_1415 rfl rfl ?_
                                                                                  refine X_iload_n (pc := 1416) (i := 3) 3 dL_law_1416 rfl rfl ?_
                                                                                  refine X_iconst (pc := 1417) (2 : Int32) dL_law_1417 (by decide) ?_
                                                                                  refine X_iadd (pc := 1418) dL_law_1418 ?_
                                                                                  obtain ⟨c370, hf⟩ := gd_some hf
                                                                                  refine X_scd2 (pc := 1419) hsL hxs hs3 c370 dL_law_1419 ?_
                                                                                  refine X_aload_n (pc := 1420) (i := 0) 0 dL_law_1420 rfl rfl ?_
                                                                                  refine X_iload_n (pc := 1421) (i := 3) 3 dL_law_1421 rfl rfl ?_
                                                                                  refine X_iconst (pc := 1422) (3 : Int32) dL_law_1422 (by decide) ?_
                                                                                  refine X_iadd (pc := 1423) dL_law_1423 ?_
                                                                                  obtain ⟨c371, hf⟩ := gd_some hf
                                                                                  refine X_scd2 (pc := 1424) hsL hxs hs3 c371 dL_law_1424 ?_
                                                                                  obtain ⟨q372, c373, hf⟩ := bd_some hf
                                                                                  refine X_invV_i (pc := 1425) (c_H_change (KP.H KP.rf hH) c373) ok_H_change (ci := 10) (sh_0 (KP.H KP.rf hH)) k_1124 k_1125 k_1126 nd_16 (by decide) rfl (Nat.le_of_ble_eq_true rfl) dL_law_1425 ?_
                                                                                  refine X_aload_n (pc := 1428) (i := 2) 2 dL_law_1428 rfl rfl ?_
                                                                                  refine X_aload_n (pc := 1429) (i := 0) 0 dL_law_1429 rfl rfl ?_
                                                                                  refine X_iload_n (pc := 1430) (i := 3) 3 dL_law_1430 rfl rfl ?_
                                                                                  refine X_iconst (pc := 1431) (1 : Int32) dL_law_1431 (by decide) ?_
                                                                                  refine X_iadd (pc := 1432) dL_law_1432 ?_
                                                                                  obtain ⟨c374, hf⟩ := gd_some hf
                                                                                  refine X_scd2 (pc := 1433) hsL hxs hs3 c374 dL_law_1433 ?_
                                                                                  refine X_aload_n (pc := 1434) (i := 0) 0 dL_law_1434 rfl rfl ?_
                                                                                  refine X_iload_n (pc := 1435) (i := 3) 3 dL_law_1435 rfl rfl ?_
                                                                                  refine X_iconst (pc := 1436) (2 : Int32) dL_law_1436 (by decide) ?_
                                                                                  refine X_iadd (pc := 1437) dL_law_1437 ?_
                                                                                  obtain ⟨c375, hf⟩ := gd_some hf
                                                                                  refine X_scd2 (pc := 1438) hsL hxs hs3 c375 dL_law_1438 ?_
                                                                                  refine X_aload_n (pc := 1439) (i := 0) 0 dL_law_1439 rfl rfl ?_
                                                                                  refine X_iload_n (pc := 1440) (i := 3) 3 dL_law_1440 rfl rfl ?_
                                                                                  refine X_iconst (pc := 1441) (3 : Int32) dL_law_1441 (by decide) ?_
                                                                                  refine X_iadd (pc := 1442) dL_law_1442 ?_
                                                                                  obtain ⟨c376, hf⟩ := gd_some hf
                                                                                  refine X_scd2 (pc := 1443) hsL hxs hs3 c376 dL_law_1443 ?_
                                                                                  obtain ⟨q377, c378, hf⟩ := bd_some hf
                                                                                  refine X_invV_i (pc := 1444) (c_Md_change (KP.M KP.rf hM) c378) ok_Md_change (ci := 11) (sh_34 (KP.M KP.rf hM)) k_1785 k_1786 k_1787 nd_16 (by decide) rfl (Nat.le_of_ble_eq_true rfl) dL_law_1444 ?_
                                                                                  by_cases c379 : q372.1 = q377.1
                                                                                  · replace hf := (if_pos c379).symm.trans hf
                                                                                    refine X_icmp_eq_t (pc := 1447) 1630 dL_law_1447 (by decide) c379 ?_
                                                                                    refine X_iinc (pc := 1630) (i := 3) (q := 3) (v := (l3 + (6 : Int32))) [(3, .int (l3 + (6 : Int32))), (0, .ref (xsb G)), (1, .ref (xP G 0)), (2, .ref (xP G 34))] dL_law_1630 rfl rfl (by decide) rfl ?_
                                                                                    refine X_goto (pc := 1633) 18 dL_law_1633 (by decide) ?_
                                                                                    exact X_lvs [1, 2, 3, 0] rfl (ih (KP.H KP.rf hH) (KP.M KP.rf hM) hf)
                                                                                  · replace hf := (if_neg c379).symm.trans hf
                                                                                    refine X_icmp_eq_f (pc := 1447) 1630 dL_law_1447 (by decide) c379 ?_
                                                                                    refine X_iconst (pc := 1450) (0 : Int32) dL_law_1450 (by decide) ?_
                                                                                    cases hf
                                                                                    exact X_zreturn (pc := 1451) rfl (nar_b (by decide)) dL_law_1451
                                                                                · replace hf := (if_neg c41).symm.trans hf
                                                                                  by_cases c42 : x3 = (38 : Int32)
                                                                                  · replace hf := (if_pos c42).symm.trans hf
                                                                                    refine X_tabIn (pc := 33) (off := 1419) (38) 1452 dL_law_33 (by rw [c42]; rfl) (by decide) ?_
                                                                                    refine X_aload_n (pc := 1452) (i := 1) 1 dL_law_1452 rfl rfl ?_
                                                                                    refine X_aload_n (pc := 1453) (i := 0) 0 dL_law_1453 rfl rfl ?_
                                                                                    refine X_iload_n (pc := 1454) (i := 3) 3 dL_law_1454 rfl rfl ?_
                                                                                    refine X_iconst (pc := 1455) (1 : Int32) dL_law_1455 (by decide) ?_
                                                                                    refine X_iadd (pc := 1456) dL_law_1456 ?_
                                                                                    obtain ⟨c380, hf⟩ := gd_some hf
                                                                                    refine X_scd2 (pc := 1457) hsL hxs hs3 c380 dL_law_1457 ?_
                                                                                    obtain ⟨q381, c382, hf⟩ := bd_some hf
                                                                                    refine X_invV_i (pc := 1458) (c_H_merge (KP.H KP.rf hH) c382) ok_H_merge (ci := 10) (sh_0 (KP.H KP.rf hH)) k_1136 k_1137 k_1138 nd_8 (by decide) rfl (Nat.le_of_ble_eq_true rfl) dL_law_1458 ?_
                                                                                    refine X_aload_n (pc := 1461) (i := 2) 2 dL_law_1461 rfl rfl ?_
                                                                                    refine X_aload_n (pc := 1462) (i := 0) 0 dL_law_1462 rfl rfl ?_
                                                                                    refine X_iload_n (pc := 1463) (i := 3) 3 dL_law_1463 rfl rfl ?_
                                                                                    refine X_iconst (pc := 1464) (1 : Int32) dL_law_1464 (by decide) ?_
                                                                                    refine X_iadd (pc := 1465) dL_law_1465 ?_
                                                                                    obtain ⟨c383, hf⟩ := gd_some hf
                                                                                    refine X_scd2 (pc := 1466) hsL hxs hs3 c383 dL_law_1466 ?_
                                                                                    obtain ⟨q384, c385, hf⟩ := bd_some hf
                                                                                    refine X_invV_i (pc := 1467) (c_Md_merge (KP.M KP.rf hM) c385) ok_Md_merge (ci := 11) (sh_34 (KP.M KP.rf hM)) k_1792 k_1793 k_1794 nd_8 (by decide) rfl (Nat.le_of_ble_eq_true rfl) dL_law_1467 ?_
                                                                                    by_cases c386 : q381.1 = q384.1
                                                                                    · replace hf := (if_pos c386).symm.trans hf
                                                                                      refine X_icmp_eq_t (pc := 1470) 1630 dL_law_1470 (by decide) c386 ?_
                                                                                      refine X_iinc (pc := 1630) (i := 3) (q := 3) (v := (l3 + (6 : Int32))) [(3, .int (l3 + (6 : Int32))), (0, .ref (xsb G)), (1, .ref (xP G 0)), (2, .ref (xP G 34))] dL_law_1630 rfl rfl (by decide) rfl ?_
                                                                                      refine X_goto (pc := 1633) 18 dL_law_1633 (by decide) ?_
                                                                                      exact X_lvs [1, 2, 3, 0] rfl (ih (KP.H KP.rf hH) (KP.M KP.rf hM) hf)
                                                                                    · replace hf := (if_neg c386).symm.trans hf
                                                                                      refine X_icmp_eq_f (pc := 1470) 1630 dL_law_1470 (by decide) c386 ?_
                                                                                      refine X_iconst (pc := 1473) (0 : Int32) dL_law_1473 (by decide) ?_
                                                                                      cases hf
                                                                                      exact X_zreturn (pc := 1474) rfl (nar_b (by decide)) dL_law_1474
                                                                                  · replace hf := (if_neg c42).symm.trans hf
                                                                                    by_cases c43 : x3 = (39 : Int32)
                                                                                    · replace hf := (if_pos c43).symm.trans hf
                                                                                      refine X_tabIn (pc := 33) (off := 1442) (39) 1475 dL_law_33 (by rw [c43]; rfl) (by decide) ?_
                                                                                      refine X_aload_n (pc := 1475) (i := 1) 1 dL_law_1475 rfl rfl ?_
                                                                                      refine X_aload_n (pc := 1476) (i := 0) 0 dL_law_1476 rfl rfl ?_
                                                                                      refine X_iload_n (pc := 1477) (i := 3) 3 dL_law_1477 rfl rfl ?_
                                                                                      refine X_iconst (pc := 1478) (1 : Int32) dL_law_1478 (by decide) ?_
                                                                                      refine X_iadd (pc := 1479) dL_law_1479 ?_
                                                                                      obtain ⟨c387, hf⟩ := gd_some hf
                                                                                      refine X_scd2 (pc := 1480) hsL hxs hs3 c387 dL_law_1480 ?_
                                                                                      refine X_aload_n (pc := 1481) (i := 0) 0 dL_law_1481 rfl rfl ?_
                                                                                      refine X_iload_n (pc := 1482) (i := 3) 3 dL_law_1482 rfl rfl ?_
                                                                                      refine X_iconst (pc := 1483) (2 : Int32) dL_law_1483 (by decide) ?_
                                                                                      refine X_iadd (pc := 1484) dL_law_1484 ?_
                                                                                      obtain ⟨c388, hf⟩ := gd_some hf
                                                                                      refine X_scd2 (pc := 1485) hsL hxs hs3 c388 dL_law_1485 ?_
                                                                                      obtain ⟨q389, c390, hf⟩ := bd_some hf
                                                                                      refine X_invV_i (pc := 1486) (c_H_conflict (KP.H KP.rf hH) c390) ok_H_conflict (ci := 10) (sh_0 (KP.H KP.rf hH)) k_1169 k_1170 k_1171 nd_21 (by decide) rfl (Nat.le_of_ble_eq_true rfl) dL_law_1486 ?_
                                                                                      refine X_aload_n (pc := 1489) (i := 2) 2 dL_law_1489 rfl rfl ?_
                                                                                      refine X_aload_n (pc := 1490) (i := 0) 0 dL_law_1490 rfl rfl ?_
                                                                                      refine X_iload_n (pc := 1491) (i := 3) 3 dL_law_1491 rfl rfl ?_
                                                                                      refine X_iconst (pc := 1492) (1 : Int32) dL_law_1492 (by decide) ?_
                                                                                      refine X_iadd (pc := 1493) dL_law_1493 ?_
                                                                                      obtain ⟨c391, hf⟩ := gd_some hf
                                                                                      refine X_scd2 (pc := 1494) hsL hxs hs3 c391 dL_law_1494 ?_
                                                                                      refine X_aload_n (pc := 1495) (i := 0) 0 dL_law_1495 rfl rfl ?_
                                                                                      refine X_iload_n (pc := 1496) (i := 3) 3 dL_law_1496 rfl rfl ?_
                                                                                      refine X_iconst (pc := 1497) (2 : Int32) dL_law_1497 (by decide) ?_
                                                                                      refine X_iadd (pc := 1498) dL_law_1498 ?_
                                                                                      obtain ⟨c392, hf⟩ := gd_some hf
                                                                                      refine X_scd2 (pc := 1499) hsL hxs hs3 c392 dL_law_1499 ?_
                                                                                      obtain ⟨q393, c394, hf⟩ := bd_some hf
                                                                                      refine X_invV_i (pc := 1500) (c_Md_conflict (KP.M KP.rf hM) c394) ok_Md_conflict (ci := 11) (sh_34 (KP.M KP.rf hM)) k_1800 k_1801 k_1802 nd_21 (by decide) rfl (Nat.le_of_ble_eq_true rfl) dL_law_1500 ?_
                                                                                      by_cases c395 : q389 = q393
                                                                                      · replace hf := (if_pos c395).symm.trans hf
                                                                                        refine X_icmp_eq_t (pc := 1503) 1630 dL_law_1503 (by decide) c395 ?_
                                                                                        refine X_iinc (pc := 1630) (i := 3) (q := 3) (v := (l3 + (6 : Int32))) [(3, .int (l3 + (6 : Int32))), (0, .ref (xsb G)), (1, .ref (xP G 0)), (2, .ref (xP G 34))] dL_law_1630 rfl rfl (by decide) rfl ?_
                                                                                        refine X_goto (pc := 1633) 18 dL_law_1633 (by decide) ?_
                                                                                        exact X_lvs [1, 2, 3, 0] rfl (ih (KP.H KP.rf hH) (KP.M KP.rf hM) hf)
                                                                                      · replace hf := (if_neg c395).symm.trans hf
                                                                                        refine X_icmp_eq_f (pc := 1503) 1630 dL_law_1503 (by decide) c395 ?_
                                                                                        refine X_iconst (pc := 1506) (0 : Int32) dL_law_1506 (by decide) ?_
                                                                                        cases hf
                                                                                        exact X_zreturn (pc := 1507) rfl (nar_b (by decide)) dL_law_1507
                                                                                    · replace hf := (if_neg c43).symm.trans hf
                                                                                      by_cases c44 : x3 = (40 : Int32)
                                                                                      · replace hf := (if_pos c44).symm.trans hf
                                                                                        refine X_tabIn (pc := 33) (off := 1475) (40) 1508 dL_law_33 (by rw [c44]; rfl) (by decide) ?_
                                                                                        refine X_aload_n (pc := 1508) (i := 1) 1 dL_law_1508 rfl rfl ?_
                                                                                        refine X_aload_n (pc := 1509) (i := 0) 0 dL_law_1509 rfl rfl ?_
                                                                                        refine X_iload_n (pc := 1510) (i := 3) 3 dL_law_1510 rfl rfl ?_
                                                                                        refine X_iconst (pc := 1511) (1 : Int32) dL_law_1511 (by decide) ?_
                                                                                        refine X_iadd (pc := 1512) dL_law_1512 ?_
                                                                                        obtain ⟨c396, hf⟩ := gd_some hf
                                                                                        refine X_scd2 (pc := 1513) hsL hxs hs3 c396 dL_law_1513 ?_
                                                                                        refine X_aload_n (pc := 1514) (i := 0) 0 dL_law_1514 rfl rfl ?_
                                                                                        refine X_iload_n (pc := 1515) (i := 3) 3 dL_law_1515 rfl rfl ?_
                                                                                        refine X_iconst (pc := 1516) (2 : Int32) dL_law_1516 (by decide) ?_
                                                                                        refine X_iadd (pc := 1517) dL_law_1517 ?_
                                                                                        obtain ⟨c397, hf⟩ := gd_some hf
                                                                                        refine X_scd2 (pc := 1518) hsL hxs hs3 c397 dL_law_1518 ?_
                                                                                        refine X_aload_n (pc := 1519) (i := 0) 0 dL_law_1519 rfl rfl ?_
                                                                                        refine X_iload_n (pc := 1520) (i := 3) 3 dL_law_1520 rfl rfl ?_
                                                                                        refine X_iconst (pc := 1521) (3 : Int32) dL_law_1521 (by decide) ?_
                                                                                        refine X_iadd (pc := 1522) dL_law_1522 ?_
                                                                                        obtain ⟨c398, hf⟩ := gd_some hf
                                                                                        refine X_scd2 (pc := 1523) hsL hxs hs3 c398 dL_law_1523 ?_
                                                                                        obtain ⟨q399, c400, hf⟩ := bd_some hf
                                                                                        refine X_invV_i (pc := 1524) (c_H_settle (KP.H KP.rf hH) c400) ok_H_settle (ci := 10) (sh_0 (KP.H KP.rf hH)) k_1174 k_1175 k_1176 nd_16 (by decide) rfl (Nat.le_of_ble_eq_true rfl) dL_law_1524 ?_
                                                                                        refine X_aload_n (pc := 1527) (i := 2) 2 dL_law_1527 rfl rfl ?_
                                                                                        refine X_aload_n (pc := 1528) (i := 0) 0 dL_law_1528 rfl rfl ?_
                                                                                        refine X_iload_n (pc := 1529) (i := 3) 3 dL_law_1529 rfl rfl ?_
                                                                                        refine X_iconst (pc := 1530) (1 : Int32) dL_law_1530 (by decide) ?_
                                                                                        refine X_iadd (pc := 1531) dL_law_1531 ?_
                                                                                        obtain ⟨c401, hf⟩ := gd_some hf
                                                                                        refine X_scd2 (pc := 1532) hsL hxs hs3 c401 dL_law_1532 ?_
                                                                                        refine X_aload_n (pc := 1533) (i := 0) 0 dL_law_1533 rfl rfl ?_
                                                                                        refine X_iload_n (pc := 1534) (i := 3) 3 dL_law_1534 rfl rfl ?_
                                                                                        refine X_iconst (pc := 1535) (2 : Int32) dL_law_1535 (by decide) ?_
                                                                                        refine X_iadd (pc := 1536) dL_law_1536 ?_
                                                                                        obtain ⟨c402, hf⟩ := gd_some hf
                                                                                        refine X_scd2 (pc := 1537) hsL hxs hs3 c402 dL_law_1537 ?_
                                                                                        refine X_aload_n (pc := 1538) (i := 0) 0 dL_law_1538 rfl rfl ?_
                                                                                        refine X_iload_n (pc := 1539) (i := 3) 3 dL_law_1539 rfl rfl ?_
                                                                                        refine X_iconst (pc := 1540) (3 : Int32) dL_law_1540 (by decide) ?_
                                                                                        refine X_iadd (pc := 1541) dL_law_1541 ?_
                                                                                        obtain ⟨c403, hf⟩ := gd_some hf
                                                                                        refine X_scd2 (pc := 1542) hsL hxs hs3 c403 dL_law_1542 ?_
                                                                                        obtain ⟨q404, c405, hf⟩ := bd_some hf
                                                                                        refine X_invV_i (pc := 1543) (c_Md_settle (KP.M KP.rf hM) c405) ok_Md_settle (ci := 11) (sh_34 (KP.M KP.rf hM)) k_1804 k_1805 k_1806 nd_16 (by decide) rfl (Nat.le_of_ble_eq_true rfl) dL_law_1543 ?_
                                                                                        by_cases c406 : q399.1 = q404.1
                                                                                        · replace hf := (if_pos c406).symm.trans hf
                                                                                          refine X_icmp_eq_t (pc := 1546) 1630 dL_law_1546 (by decide) c406 ?_
                                                                                          refine X_iinc (pc := 1630) (i := 3) (q := 3) (v := (l3 + (6 : Int32))) [(3, .int (l3 + (6 : Int32))), (0, .ref (xsb G)), (1, .ref (xP G 0)), (2, .ref (xP G 34))] dL_law_1630 rfl rfl (by decide) rfl ?_
                                                                                          refine X_goto (pc := 1633) 18 dL_law_1633 (by decide) ?_
                                                                                          exact X_lvs [1, 2, 3, 0] rfl (ih (KP.H KP.rf hH) (KP.M KP.rf hM) hf)
                                                                                        · replace hf := (if_neg c406).symm.trans hf
                                                                                          refine X_icmp_eq_f (pc := 1546) 1630 dL_law_1546 (by decide) c406 ?_
                                                                                          refine X_iconst (pc := 1549) (0 : Int32) dL_law_1549 (by decide) ?_
                                                                                          cases hf
                                                                                          exact X_zreturn (pc := 1550) rfl (nar_b (by decide)) dL_law_1550
                                                                                      · replace hf := (if_neg c44).symm.trans hf
                                                                                        by_cases c45 : x3 = (41 : Int32)
                                                                                        · replace hf := (if_pos c45).symm.trans hf
                                                                                          refine X_tabIn (pc := 33) (off := 1518) (41) 1551 dL_law_33 (by rw [c45]; rfl) (by decide) ?_
                                                                                          refine X_aload_n (pc := 1551) (i := 1) 1 dL_law_1551 rfl rfl ?_
                                                                                          refine X_aload_n (pc := 1552) (i := 0) 0 dL_law_1552 rfl rfl ?_
                                                                                          refine X_iload_n (pc := 1553) (i := 3) 3 dL_law_1553 rfl rfl ?_
                                                                                          refine X_iconst (pc := 1554) (1 : Int32) dL_law_1554 (by decide) ?_
                                                                                          refine X_iadd (pc := 1555) dL_law_1555 ?_
                                                                                          obtain ⟨c407, hf⟩ := gd_some hf
                                                                                          refine X_scd2 (pc := 1556) hsL hxs hs3 c407 dL_law_1556 ?_
                                                                                          refine X_aload_n (pc := 1557) (i := 0) 0 dL_law_1557 rfl rfl ?_
                                                                                          refine X_iload_n (pc := 1558) (i := 3) 3 dL_law_1558 rfl rfl ?_
                                                                                          refine X_iconst (pc := 1559) (2 : Int32) dL_law_1559 (by decide) ?_
                                                                                          refine X_iadd (pc := 1560) dL_law_1560 ?_
                                                                                          obtain ⟨c408, hf⟩ := gd_some hf
                                                                                          refine X_scd2 (pc := 1561) hsL hxs hs3 c408 dL_law_1561 ?_
                                                                                          obtain ⟨q409, c410, hf⟩ := bd_some hf
                                                                                          refine X_invV_i (pc := 1562) (c_H_setting (KP.H KP.rf hH) c410) ok_H_setting (ci := 10) (sh_0 (KP.H KP.rf hH)) k_1182 k_1183 k_1184 nd_21 (by decide) rfl (Nat.le_of_ble_eq_true rfl) dL_law_1562 ?_
                                                                                          refine X_aload_n (pc := 1565) (i := 2) 2 dL_law_1565 rfl rfl ?_
                                                                                          refine X_aload_n (pc := 1566) (i := 0) 0 dL_law_1566 rfl rfl ?_
                                                                                          refine X_iload_n (pc := 1567) (i := 3) 3 dL_law_1567 rfl rfl ?_
                                                                                          refine X_iconst (pc := 1568) (1 : Int32) dL_law_1568 (by decide) ?_
                                                                                          refine X_iadd (pc := 1569) dL_law_1569 ?_
                                                                                          obtain ⟨c411, hf⟩ := gd_some hf
                                                                                          refine X_scd2 (pc := 1570) hsL hxs hs3 c411 dL_law_1570 ?_
                                                                                          refine X_aload_n (pc := 1571) (i := 0) 0 dL_law_1571 rfl rfl ?_
                                                                                          refine X_iload_n (pc := 1572) (i := 3) 3 dL_law_1572 rfl rfl ?_
                                                                                          refine X_iconst (pc := 1573) (2 : Int32) dL_law_1573 (by decide) ?_
                                                                                          refine X_iadd (pc := 1574) dL_law_1574 ?_
                                                                                          obtain ⟨c412, hf⟩ := gd_some hf
                                                                                          refine X_scd2 (pc := 1575) hsL hxs hs3 c412 dL_law_1575 ?_
                                                                                          obtain ⟨q413, c414, hf⟩ := bd_some hf
                                                                                          refine X_invV_i (pc := 1576) (c_Md_setting (KP.M KP.rf hM) c414) ok_Md_setting (ci := 11) (sh_34 (KP.M KP.rf hM)) k_1808 k_1809 k_1810 nd_21 (by decide) rfl (Nat.le_of_ble_eq_true rfl) dL_law_1576 ?_
                                                                                          by_cases c415 : q409 = q413
                                                                                          · replace hf := (if_pos c415).symm.trans hf
                                                                                            refine X_icmp_eq_t (pc := 1579) 1630 dL_law_1579 (by decide) c415 ?_
                                                                                            refine X_iinc (pc := 1630) (i := 3) (q := 3) (v := (l3 + (6 : Int32))) [(3, .int (l3 + (6 : Int32))), (0, .ref (xsb G)), (1, .ref (xP G 0)), (2, .ref (xP G 34))] dL_law_1630 rfl rfl (by decide) rfl ?_
                                                                                            refine X_goto (pc := 1633) 18 dL_law_1633 (by decide) ?_
                                                                                            exact X_lvs [1, 2, 3, 0] rfl (ih (KP.H KP.rf hH) (KP.M KP.rf hM) hf)
                                                                                          · replace hf := (if_neg c415).symm.trans hf
                                                                                            refine X_icmp_eq_f (pc := 1579) 1630 dL_law_1579 (by decide) c415 ?_
                                                                                            refine X_iconst (pc := 1582) (0 : Int32) dL_law_1582 (by decide) ?_
                                                                                            cases hf
                                                                                            exact X_zreturn (pc := 1583) rfl (nar_b (by decide)) dL_law_1583
                                                                                        · replace hf := (if_neg c45).symm.trans hf
                                                                                          by_cases c46 : x3 = (42 : Int32)
                                                                                          · replace hf := (if_pos c46).symm.trans hf
                                                                                            refine X_tabIn (pc := 33) (off := 1551) (42) 1584 dL_law_33 (by rw [c46]; rfl) (by decide) ?_
                                                                                            refine X_aload_n (pc := 1584) (i := 1) 1 dL_law_1584 rfl rfl ?_
                                                                                            refine X_aload_n (pc := 1585) (i := 0) 0 dL_law_1585 rfl rfl ?_
                                                                                            refine X_iload_n (pc := 1586) (i := 3) 3 dL_law_1586 rfl rfl ?_
                                                                                            refine X_iconst (pc := 1587) (1 : Int32) dL_law_1587 (by decide) ?_
                                                                                            refine X_iadd (pc := 1588) dL_law_1588 ?_
                                                                                            obtain ⟨c416, hf⟩ := gd_some hf
                                                                                            refine X_scd2 (pc := 1589) hsL hxs hs3 c416 dL_law_1589 ?_
                                                                                            obtain ⟨q417, c418, hf⟩ := bd_some hf
                                                                                            refine X_invV_i (pc := 1590) (c_H_version (KP.H KP.rf hH) c418) ok_H_version (ci := 10) (sh_0 (KP.H KP.rf hH)) k_1188 k_1189 k_1190 nd_8 (by decide) rfl (Nat.le_of_ble_eq_true rfl) dL_law_1590 ?_
                                                                                            refine X_aload_n (pc := 1593) (i := 2) 2 dL_law_1593 rfl rfl ?_
                                                                                            refine X_aload_n (pc := 1594) (i := 0) 0 dL_law_1594 rfl rfl ?_
                                                                                            refine X_iload_n (pc := 1595) (i := 3) 3 dL_law_1595 rfl rfl ?_
                                                                                            refine X_iconst (pc := 1596) (1 : Int32) dL_law_1596 (by decide) ?_
                                                                                            refine X_iadd (pc := 1597) dL_law_1597 ?_
                                                                                            obtain ⟨c419, hf⟩ := gd_some hf
                                                                                            refine X_scd2 (pc := 1598) hsL hxs hs3 c419 dL_law_1598 ?_
                                                                                            obtain ⟨q420, c421, hf⟩ := bd_some hf
                                                                                            refine X_invV_i (pc := 1599) (c_Md_version (KP.M KP.rf hM) c421) ok_Md_version (ci := 11) (sh_34 (KP.M KP.rf hM)) k_1813 k_1814 k_1815 nd_8 (by decide) rfl (Nat.le_of_ble_eq_true rfl) dL_law_1599 ?_
                                                                                            by_cases c422 : q417 = q420
                                                                                            · replace hf := (if_pos c422).symm.trans hf
                                                                                              refine X_icmp_eq_t (pc := 1602) 1630 dL_law_1602 (by decide) c422 ?_
                                                                                              refine X_iinc (pc := 1630) (i := 3) (q := 3) (v := (l3 + (6 : Int32))) [(3, .int (l3 + (6 : Int32))), (0, .ref (xsb G)), (1, .ref (xP G 0)), (2, .ref (xP G 34))] dL_law_1630 rfl rfl (by decide) rfl ?_
                                                                                              refine X_goto (pc := 1633) 18 dL_law_1633 (by decide) ?_
                                                                                              exact X_lvs [1, 2, 3, 0] rfl (ih (KP.H KP.rf hH) (KP.M KP.rf hM) hf)
                                                                                            · replace hf := (if_neg c422).symm.trans hf
                                                                                              refine X_icmp_eq_f (pc := 1602) 1630 dL_law_1602 (by decide) c422 ?_
                                                                                              refine X_iconst (pc := 1605) (0 : Int32) dL_law_1605 (by decide) ?_
                                                                                              cases hf
                                                                                              exact X_zreturn (pc := 1606) rfl (nar_b (by decide)) dL_law_1606
                                                                                          · replace hf := (if_neg c46).symm.trans hf
                                                                                            by_cases c47 : x3 = (43 : Int32)
                                                                                            · replace hf := (if_pos c47).symm.trans hf
                                                                                              refine X_tabIn (pc := 33) (off := 1574) (43) 1607 dL_law_33 (by rw [c47]; rfl) (by decide) ?_
                                                                                              refine X_aload_n (pc := 1607) (i := 1) 1 dL_law_1607 rfl rfl ?_
                                                                                              refine X_aload_n (pc := 1608) (i := 0) 0 dL_law_1608 rfl rfl ?_
                                                                                              refine X_iload_n (pc := 1609) (i := 3) 3 dL_law_1609 rfl rfl ?_
                                                                                              refine X_iconst (pc := 1610) (1 : Int32) dL_law_1610 (by decide) ?_
                                                                                              refine X_iadd (pc := 1611) dL_law_1611 ?_
                                                                                              obtain ⟨c423, hf⟩ := gd_some hf
                                                                                              refine X_scd2 (pc := 1612) hsL hxs hs3 c423 dL_law_1612 ?_
                                                                                              refine X_invV_i (pc := 1613) (c_H_never (KP.H KP.rf hH) rfl) ok_H_never (ci := 10) (sh_0 (KP.H KP.rf hH)) k_1192 k_1193 k_1194 nd_8 (by decide) rfl (Nat.le_of_ble_eq_true rfl) dL_law_1613 ?_
                                                                                              obtain ⟨x424, ex424, hf⟩ := bnd_e hf
                                                                                              refine X_tope ex424 ?_
                                                                                              refine X_aload_n (pc := 1616) (i := 2) 2 dL_law_1616 rfl rfl ?_
                                                                                              refine X_aload_n (pc := 1617) (i := 0) 0 dL_law_1617 rfl rfl ?_
                                                                                              refine X_iload_n (pc := 1618) (i := 3) 3 dL_law_1618 rfl rfl ?_
                                                                                              refine X_iconst (pc := 1619) (1 : Int32) dL_law_1619 (by decide) ?_
                                                                                              refine X_iadd (pc := 1620) dL_law_1620 ?_
                                                                                              obtain ⟨c425, hf⟩ := gd_some hf
                                                                                              refine X_scd2 (pc := 1621) hsL hxs hs3 c425 dL_law_1621 ?_
                                                                                              obtain ⟨q426, c427, hf⟩ := bd_some hf
                                                                                              refine X_invV_i (pc := 1622) (c_Md_never (KP.M KP.rf hM) c427) ok_Md_never (ci := 11) (sh_34 (KP.M KP.rf hM)) k_1817 k_1818 k_1819 nd_8 (by decide) rfl (Nat.le_of_ble_eq_true rfl) dL_law_1622 ?_
                                                                                              by_cases c428 : x424 = q426
                                                                                              · replace hf := (if_pos c428).symm.trans hf
                                                                                                refine X_icmp_eq_t (pc := 1625) 1630 dL_law_1625 (by decide) c428 ?_
                                                                                                refine X_iinc (pc := 1630) (i := 3) (q := 3) (v := (l3 + (6 : Int32))) [(3, .int (l3 + (6 : Int32))), (0, .ref (xsb G)), (1, .ref (xP G 0)), (2, .ref (xP G 34))] dL_law_1630 rfl rfl (by decide) rfl ?_
                                                                                                refine X_goto (pc := 1633) 18 dL_law_1633 (by decide) ?_
                                                                                                exact X_lvs [1, 2, 3, 0] rfl (ih (KP.H KP.rf hH) (KP.M KP.rf hM) hf)
                                                                                              · replace hf := (if_neg c428).symm.trans hf
                                                                                                refine X_icmp_eq_f (pc := 1625) 1630 dL_law_1625 (by decide) c428 ?_
                                                                                                refine X_iconst (pc := 1628) (0 : Int32) dL_law_1628 (by decide) ?_
                                                                                                cases hf
                                                                                                exact X_zreturn (pc := 1629) rfl (nar_b (by decide)) dL_law_1629
                                                                                            · replace hf := (if_neg c47).symm.trans hf
                                                                                              refine X_tabOut (pc := 33) 1630 dL_law_33 (by have zc4 := lv_neT (a := 0) c4 rfl; have zc5 := lv_neT (a := 1) c5 rfl; have zc6 := lv_neT (a := 2) c6 rfl; have zc7 := lv_neT (a := 3) c7 rfl; have zc8 := lv_neT (a := 4) c8 rfl; have zc9 := lv_neT (a := 5) c9 rfl; have zc10 := lv_neT (a := 6) c10 rfl; have zc11 := lv_neT (a := 7) c11 rfl; have zc12 := lv_neT (a := 8) c12 rfl; have zc13 := lv_neT (a := 9) c13 rfl; have zc14 := lv_neT (a := 10) c14 rfl; have zc15 := lv_neT (a := 11) c15 rfl; have zc16 := lv_neT (a := 12) c16 rfl; have zc17 := lv_neT (a := 13) c17 rfl; have zc18 := lv_neT (a := 14) c18 rfl; have zc19 := lv_neT (a := 15) c19 rfl; have zc20 := lv_neT (a := 16) c20 rfl; have zc21 := lv_neT (a := 17) c21 rfl; have zc22 := lv_neT (a := 18) c22 rfl; have zc23 := lv_neT (a := 19) c23 rfl; have zc24 := lv_neT (a := 20) c24 rfl; have zc25 := lv_neT (a := 21) c25 rfl; have zc26 := lv_neT (a := 22) c26 rfl; have zc27 := lv_neT (a := 23) c27 rfl; have zc28 := lv_neT (a := 24) c28 rfl; have zc29 := lv_neT (a := 25) c29 rfl; have zc30 := lv_neT (a := 26) c30 rfl; have zc31 := lv_neT (a := 27) c31 rfl; have zc32 := lv_neT (a := 28) c32 rfl; have zc33 := lv_neT (a := 29) c33 rfl; have zc34 := lv_neT (a := 30) c34 rfl; have zc35 := lv_neT (a := 31) c35 rfl; have zc36 := lv_neT (a := 32) c36 rfl; have zc37 := lv_neT (a := 33) c37 rfl; have zc38 := lv_neT (a := 34) c38 rfl; have zc39 := lv_neT (a := 35) c39 rfl; have zc40 := lv_neT (a := 36) c40 rfl; have zc41 := lv_neT (a := 37) c41 rfl; have zc42 := lv_neT (a := 38) c42 rfl; have zc43 := lv_neT (a := 39) c43 rfl; have zc44 := lv_neT (a := 40) c44 rfl; have zc45 := lv_neT (a := 41) c45 rfl; have zc46 := lv_neT (a := 42) c46 rfl; have zc47 := lv_neT (a := 43) c47 rfl; omega) (by decide) ?_
                                                                                              refine X_iinc (pc := 1630) (i := 3) (q := 3) (v := (l3 + (6 : Int32))) [(3, .int (l3 + (6 : Int32))), (0, .ref (xsb G)), (1, .ref (xP G 0)), (2, .ref (xP G 34))] dL_law_1630 rfl rfl (by decide) rfl ?_
                                                                                              refine X_goto (pc := 1633) 18 dL_law_1633 (by decide) ?_
                                                                                              exact X_lvs [1, 2, 3, 0] rfl (ih (KP.H KP.rf hH) (KP.M KP.rf hM) hf)
