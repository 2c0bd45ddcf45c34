theorem dL_law_0 : decode cL_law 0 = .ok (.new 7, 3) := by decide +kernel
theorem dL_law_3 : decode cL_law 3 = .ok (.dup, 1) := by decide +kernel
theorem dL_law_4 : decode cL_law 4 = .ok (.invokespecial 9, 3) := by decide +kernel
theorem dL_law_7 : decode cL_law 7 = .ok (.astore_n 1, 1) := by decide +kernel
theorem dL_law_8 : decode cL_law 8 = .ok (.new 10, 3) := by decide +kernel
theorem dL_law_11 : decode cL_law 11 = .ok (.dup, 1) := by decide +kernel
theorem dL_law_12 : decode cL_law 12 = .ok (.invokespecial 12, 3) := by decide +kernel
theorem dL_law_15 : decode cL_law 15 = .ok (.astore_n 2, 1) := by decide +kernel
theorem dL_law_16 : decode cL_law 16 = .ok (.iconst 0, 1) := by decide +kernel
theorem dL_law_17 : decode cL_law 17 = .ok (.istore_n 3, 1) := by decide +kernel
theorem dL_law_18 : decode cL_law 18 = .ok (.iload_n 3, 1) := by decide +kernel
theorem dL_law_19 : decode cL_law 19 = .ok (.aload_n 0, 1) := by decide +kernel
theorem dL_law_20 : decode cL_law 20 = .ok (.arraylength, 1) := by decide +kernel
theorem dL_law_21 : decode cL_law 21 = .ok (.bipush 6, 2) := by decide +kernel
theorem dL_law_23 : decode cL_law 23 = .ok (.isub, 1) := by decide +kernel
theorem dL_law_24 : decode cL_law 24 = .ok (.if_icmp .gt 1911, 3) := by decide +kernel
theorem dL_law_27 : decode cL_law 27 = .ok (.aload_n 0, 1) := by decide +kernel
theorem dL_law_28 : decode cL_law 28 = .ok (.iload_n 3, 1) := by decide +kernel
theorem dL_law_29 : decode cL_law 29 = .ok (.iaload, 1) := by decide +kernel
theorem dL_law_30 : decode cL_law 30 = .ok (.bipush 63, 2) := by decide +kernel
theorem dL_law_32 : decode cL_law 32 = .ok (.iand, 1) := by decide +kernel
theorem dL_law_33 : decode cL_law 33 = .ok (.tableswitch 1896 0 52 #[227, 260, 303, 326, 389, 412, 445, 488, 511, 544, 577, 610, 653, 686, 719, 742, 765, 798, 841, 884, 927, 980, 1023, 1066, 1109, 1142, 1175, 1208, 1221, 1244, 1277, 1310, 1359, 1372, 1405, 1428, 1461, 1494, 1537, 1570, 1603, 1636, 1679, 1722, 1755, 1768, 1782, 1795, 1809, 1823, 1846, 1859, 1882], 227) := by decide +kernel
theorem dL_law_260 : decode cL_law 260 = .ok (.aload_n 1, 1) := by decide +kernel
theorem dL_law_261 : decode cL_law 261 = .ok (.aload_n 0, 1) := by decide +kernel
theorem dL_law_262 : decode cL_law 262 = .ok (.iload_n 3, 1) := by decide +kernel
theorem dL_law_263 : decode cL_law 263 = .ok (.iconst 1, 1) := by decide +kernel
theorem dL_law_264 : decode cL_law 264 = .ok (.iadd, 1) := by decide +kernel
theorem dL_law_265 : decode cL_law 265 = .ok (.iaload, 1) := by decide +kernel
theorem dL_law_266 : decode cL_law 266 = .ok (.aload_n 0, 1) := by decide +kernel
theorem dL_law_267 : decode cL_law 267 = .ok (.iload_n 3, 1) := by decide +kernel
theorem dL_law_268 : decode cL_law 268 = .ok (.iconst 2, 1) := by decide +kernel
theorem dL_law_269 : decode cL_law 269 = .ok (.iadd, 1) := by decide +kernel
theorem dL_law_270 : decode cL_law 270 = .ok (.iaload, 1) := by decide +kernel
theorem dL_law_271 : decode cL_law 271 = .ok (.invokevirtual 13, 3) := by decide +kernel
theorem dL_law_274 : decode cL_law 274 = .ok (.aload_n 2, 1) := by decide +kernel
theorem dL_law_275 : decode cL_law 275 = .ok (.aload_n 0, 1) := by decide +kernel
theorem dL_law_276 : decode cL_law 276 = .ok (.iload_n 3, 1) := by decide +kernel
theorem dL_law_277 : decode cL_law 277 = .ok (.iconst 1, 1) := by decide +kernel
theorem dL_law_278 : decode cL_law 278 = .ok (.iadd, 1) := by decide +kernel
theorem dL_law_279 : decode cL_law 279 = .ok (.iaload, 1) := by decide +kernel
theorem dL_law_280 : decode cL_law 280 = .ok (.aload_n 0, 1) := by decide +kernel
theorem dL_law_281 : decode cL_law 281 = .ok (.iload_n 3, 1) := by decide +kernel
theorem dL_law_282 : decode cL_law 282 = .ok (.iconst 2, 1) := by decide +kernel
theorem dL_law_283 : decode cL_law 283 = .ok (.iadd, 1) := by decide +kernel
theorem dL_law_284 : decode cL_law 284 = .ok (.iaload, 1) := by decide +kernel
theorem dL_law_285 : decode cL_law 285 = .ok (.invokevirtual 17, 3) := by decide +kernel
theorem dL_law_288 : decode cL_law 288 = .ok (.if_icmp .eq 1641, 3) := by decide +kernel
theorem dL_law_291 : decode cL_law 291 = .ok (.iconst 0, 1) := by decide +kernel
theorem dL_law_292 : decode cL_law 292 = .ok (.ireturn, 1) := by decide +kernel
theorem dL_law_293 : decode cL_law 293 = .ok (.aload_n 1, 1) := by decide +kernel
theorem dL_law_294 : decode cL_law 294 = .ok (.aload_n 0, 1) := by decide +kernel
theorem dL_law_295 : decode cL_law 295 = .ok (.iload_n 3, 1) := by decide +kernel
theorem dL_law_296 : decode cL_law 296 = .ok (.iconst 1, 1) := by decide +kernel
theorem dL_law_297 : decode cL_law 297 = .ok (.iadd, 1) := by decide +kernel
theorem dL_law_298 : decode cL_law 298 = .ok (.iaload, 1) := by decide +kernel
theorem dL_law_299 : decode cL_law 299 = .ok (.aload_n 0, 1) := by decide +kernel
theorem dL_law_300 : decode cL_law 300 = .ok (.iload_n 3, 1) := by decide +kernel
theorem dL_law_301 : decode cL_law 301 = .ok (.iconst 2, 1) := by decide +kernel
theorem dL_law_302 : decode cL_law 302 = .ok (.iadd, 1) := by decide +kernel
theorem dL_law_303 : decode cL_law 303 = .ok (.iaload, 1) := by decide +kernel
theorem dL_law_304 : decode cL_law 304 = .ok (.aload_n 0, 1) := by decide +kernel
theorem dL_law_305 : decode cL_law 305 = .ok (.iload_n 3, 1) := by decide +kernel
theorem dL_law_306 : decode cL_law 306 = .ok (.iconst 3, 1) := by decide +kernel
theorem dL_law_307 : decode cL_law 307 = .ok (.iadd, 1) := by decide +kernel
theorem dL_law_308 : decode cL_law 308 = .ok (.iaload, 1) := by decide +kernel
theorem dL_law_309 : decode cL_law 309 = .ok (.invokevirtual 18, 3) := by decide +kernel
theorem dL_law_312 : decode cL_law 312 = .ok (.aload_n 2, 1) := by decide +kernel
theorem dL_law_313 : decode cL_law 313 = .ok (.aload_n 0, 1) := by decide +kernel
theorem dL_law_314 : decode cL_law 314 = .ok (.iload_n 3, 1) := by decide +kernel
theorem dL_law_315 : decode cL_law 315 = .ok (.iconst 1, 1) := by decide +kernel
theorem dL_law_316 : decode cL_law 316 = .ok (.iadd, 1) := by decide +kernel
theorem dL_law_317 : decode cL_law 317 = .ok (.iaload, 1) := by decide +kernel
theorem dL_law_318 : decode cL_law 318 = .ok (.aload_n 0, 1) := by decide +kernel
theorem dL_law_319 : decode cL_law 319 = .ok (.iload_n 3, 1) := by decide +kernel
theorem dL_law_320 : decode cL_law 320 = .ok (.iconst 2, 1) := by decide +kernel
theorem dL_law_321 : decode cL_law 321 = .ok (.iadd, 1) := by decide +kernel
theorem dL_law_322 : decode cL_law 322 = .ok (.iaload, 1) := by decide +kernel
theorem dL_law_323 : decode cL_law 323 = .ok (.aload_n 0, 1) := by decide +kernel
theorem dL_law_324 : decode cL_law 324 = .ok (.iload_n 3, 1) := by decide +kernel
theorem dL_law_325 : decode cL_law 325 = .ok (.iconst 3, 1) := by decide +kernel
theorem dL_law_326 : decode cL_law 326 = .ok (.iadd, 1) := by decide +kernel
theorem dL_law_327 : decode cL_law 327 = .ok (.iaload, 1) := by decide +kernel
theorem dL_law_328 : decode cL_law 328 = .ok (.invokevirtual 22, 3) := by decide +kernel
theorem dL_law_331 : decode cL_law 331 = .ok (.if_icmp .eq 1598, 3) := by decide +kernel
theorem dL_law_334 : decode cL_law 334 = .ok (.iconst 0, 1) := by decide +kernel
theorem dL_law_335 : decode cL_law 335 = .ok (.ireturn, 1) := by decide +kernel
theorem dL_law_336 : decode cL_law 336 = .ok (.aload_n 1, 1) := by decide +kernel
theorem dL_law_337 : decode cL_law 337 = .ok (.aload_n 0, 1) := by decide +kernel
theorem dL_law_338 : decode cL_law 338 = .ok (.iload_n 3, 1) := by decide +kernel
theorem dL_law_339 : decode cL_law 339 = .ok (.iconst 1, 1) := by decide +kernel
theorem dL_law_340 : decode cL_law 340 = .ok (.iadd, 1) := by decide +kernel
theorem dL_law_341 : decode cL_law 341 = .ok (.iaload, 1) := by decide +kernel
theorem dL_law_342 : decode cL_law 342 = .ok (.invokevirtual 23, 3) := by decide +kernel
theorem dL_law_345 : decode cL_law 345 = .ok (.aload_n 2, 1) := by decide +kernel
theorem dL_law_346 : decode cL_law 346 = .ok (.aload_n 0, 1) := by decide +kernel
theorem dL_law_347 : decode cL_law 347 = .ok (.iload_n 3, 1) := by decide +kernel
theorem dL_law_348 : decode cL_law 348 = .ok (.iconst 1, 1) := by decide +kernel
theorem dL_law_349 : decode cL_law 349 = .ok (.iadd, 1) := by decide +kernel
theorem dL_law_350 : decode cL_law 350 = .ok (.iaload, 1) := by decide +kernel
theorem dL_law_351 : decode cL_law 351 = .ok (.invokevirtual 27, 3) := by decide +kernel
theorem dL_law_354 : decode cL_law 354 = .ok (.if_icmp .eq 1575, 3) := by decide +kernel
theorem dL_law_357 : decode cL_law 357 = .ok (.iconst 0, 1) := by decide +kernel
theorem dL_law_358 : decode cL_law 358 = .ok (.ireturn, 1) := by decide +kernel
theorem dL_law_359 : decode cL_law 359 = .ok (.aload_n 1, 1) := by decide +kernel
theorem dL_law_360 : decode cL_law 360 = .ok (.aload_n 0, 1) := by decide +kernel
theorem dL_law_361 : decode cL_law 361 = .ok (.iload_n 3, 1) := by decide +kernel
theorem dL_law_362 : decode cL_law 362 = .ok (.iconst 1, 1) := by decide +kernel
theorem dL_law_363 : decode cL_law 363 = .ok (.iadd, 1) := by decide +kernel
theorem dL_law_364 : decode cL_law 364 = .ok (.iaload, 1) := by decide +kernel
theorem dL_law_365 : decode cL_law 365 = .ok (.aload_n 0, 1) := by decide +kernel
theorem dL_law_366 : decode cL_law 366 = .ok (.iload_n 3, 1) := by decide +kernel
theorem dL_law_367 : decode cL_law 367 = .ok (.iconst 2, 1) := by decide +kernel
theorem dL_law_368 : decode cL_law 368 = .ok (.iadd, 1) := by decide +kernel
theorem dL_law_369 : decode cL_law 369 = .ok (.iaload, 1) := by decide +kernel
theorem dL_law_370 : decode cL_law 370 = .ok (.aload_n 0, 1) := by decide +kernel
theorem dL_law_371 : decode cL_law 371 = .ok (.iload_n 3, 1) := by decide +kernel
theorem dL_law_372 : decode cL_law 372 = .ok (.iconst 3, 1) := by decide +kernel
theorem dL_law_373 : decode cL_law 373 = .ok (.iadd, 1) := by decide +kernel
theorem dL_law_374 : decode cL_law 374 = .ok (.iaload, 1) := by decide +kernel
theorem dL_law_375 : decode cL_law 375 = .ok (.aload_n 0, 1) := by decide +kernel
theorem dL_law_376 : decode cL_law 376 = .ok (.iload_n 3, 1) := by decide +kernel
theorem dL_law_377 : decode cL_law 377 = .ok (.iconst 4, 1) := by decide +kernel
theorem dL_law_378 : decode cL_law 378 = .ok (.iadd, 1) := by decide +kernel
theorem dL_law_379 : decode cL_law 379 = .ok (.iaload, 1) := by decide +kernel
theorem dL_law_380 : decode cL_law 380 = .ok (.aload_n 0, 1) := by decide +kernel
theorem dL_law_381 : decode cL_law 381 = .ok (.iload_n 3, 1) := by decide +kernel
theorem dL_law_382 : decode cL_law 382 = .ok (.iconst 5, 1) := by decide +kernel
theorem dL_law_383 : decode cL_law 383 = .ok (.iadd, 1) := by decide +kernel
theorem dL_law_384 : decode cL_law 384 = .ok (.iaload, 1) := by decide +kernel
theorem dL_law_385 : decode cL_law 385 = .ok (.invokevirtual 28, 3) := by decide +kernel
theorem dL_law_388 : decode cL_law 388 = .ok (.aload_n 2, 1) := by decide +kernel
theorem dL_law_389 : decode cL_law 389 = .ok (.aload_n 0, 1) := by decide +kernel
theorem dL_law_390 : decode cL_law 390 = .ok (.iload_n 3, 1) := by decide +kernel
theorem dL_law_391 : decode cL_law 391 = .ok (.iconst 1, 1) := by decide +kernel
theorem dL_law_392 : decode cL_law 392 = .ok (.iadd, 1) := by decide +kernel
theorem dL_law_393 : decode cL_law 393 = .ok (.iaload, 1) := by decide +kernel
theorem dL_law_394 : decode cL_law 394 = .ok (.aload_n 0, 1) := by decide +kernel
theorem dL_law_395 : decode cL_law 395 = .ok (.iload_n 3, 1) := by decide +kernel
theorem dL_law_396 : decode cL_law 396 = .ok (.iconst 2, 1) := by decide +kernel
theorem dL_law_397 : decode cL_law 397 = .ok (.iadd, 1) := by decide +kernel
theorem dL_law_398 : decode cL_law 398 = .ok (.iaload, 1) := by decide +kernel
theorem dL_law_399 : decode cL_law 399 = .ok (.aload_n 0, 1) := by decide +kernel
theorem dL_law_400 : decode cL_law 400 = .ok (.iload_n 3, 1) := by decide +kernel
theorem dL_law_401 : decode cL_law 401 = .ok (.iconst 3, 1) := by decide +kernel
theorem dL_law_402 : decode cL_law 402 = .ok (.iadd, 1) := by decide +kernel
theorem dL_law_403 : decode cL_law 403 = .ok (.iaload, 1) := by decide +kernel
theorem dL_law_404 : decode cL_law 404 = .ok (.aload_n 0, 1) := by decide +kernel
theorem dL_law_405 : decode cL_law 405 = .ok (.iload_n 3, 1) := by decide +kernel
theorem dL_law_406 : decode cL_law 406 = .ok (.iconst 4, 1) := by decide +kernel
theorem dL_law_407 : decode cL_law 407 = .ok (.iadd, 1) := by decide +kernel
theorem dL_law_408 : decode cL_law 408 = .ok (.iaload, 1) := by decide +kernel
theorem dL_law_409 : decode cL_law 409 = .ok (.aload_n 0, 1) := by decide +kernel
theorem dL_law_410 : decode cL_law 410 = .ok (.iload_n 3, 1) := by decide +kernel
theorem dL_law_411 : decode cL_law 411 = .ok (.iconst 5, 1) := by decide +kernel
theorem dL_law_412 : decode cL_law 412 = .ok (.iadd, 1) := by decide +kernel
theorem dL_law_413 : decode cL_law 413 = .ok (.iaload, 1) := by decide +kernel
theorem dL_law_414 : decode cL_law 414 = .ok (.invokevirtual 32, 3) := by decide +kernel
theorem dL_law_417 : decode cL_law 417 = .ok (.if_icmp .eq 1512, 3) := by decide +kernel
theorem dL_law_420 : decode cL_law 420 = .ok (.iconst 0, 1) := by decide +kernel
theorem dL_law_421 : decode cL_law 421 = .ok (.ireturn, 1) := by decide +kernel
theorem dL_law_422 : decode cL_law 422 = .ok (.aload_n 1, 1) := by decide +kernel
theorem dL_law_423 : decode cL_law 423 = .ok (.aload_n 0, 1) := by decide +kernel
theorem dL_law_424 : decode cL_law 424 = .ok (.iload_n 3, 1) := by decide +kernel
theorem dL_law_425 : decode cL_law 425 = .ok (.iconst 1, 1) := by decide +kernel
theorem dL_law_426 : decode cL_law 426 = .ok (.iadd, 1) := by decide +kernel
theorem dL_law_427 : decode cL_law 427 = .ok (.iaload, 1) := by decide +kernel
theorem dL_law_428 : decode cL_law 428 = .ok (.invokevirtual 33, 3) := by decide +kernel
theorem dL_law_431 : decode cL_law 431 = .ok (.aload_n 2, 1) := by decide +kernel
theorem dL_law_432 : decode cL_law 432 = .ok (.aload_n 0, 1) := by decide +kernel
theorem dL_law_433 : decode cL_law 433 = .ok (.iload_n 3, 1) := by decide +kernel
theorem dL_law_434 : decode cL_law 434 = .ok (.iconst 1, 1) := by decide +kernel
theorem dL_law_435 : decode cL_law 435 = .ok (.iadd, 1) := by decide +kernel
theorem dL_law_436 : decode cL_law 436 = .ok (.iaload, 1) := by decide +kernel
theorem dL_law_437 : decode cL_law 437 = .ok (.invokevirtual 36, 3) := by decide +kernel
theorem dL_law_440 : decode cL_law 440 = .ok (.if_icmp .eq 1489, 3) := by decide +kernel
theorem dL_law_443 : decode cL_law 443 = .ok (.iconst 0, 1) := by decide +kernel
theorem dL_law_444 : decode cL_law 444 = .ok (.ireturn, 1) := by decide +kernel
theorem dL_law_445 : decode cL_law 445 = .ok (.aload_n 1, 1) := by decide +kernel
theorem dL_law_446 : decode cL_law 446 = .ok (.aload_n 0, 1) := by decide +kernel
theorem dL_law_447 : decode cL_law 447 = .ok (.iload_n 3, 1) := by decide +kernel
theorem dL_law_448 : decode cL_law 448 = .ok (.iconst 1, 1) := by decide +kernel
theorem dL_law_449 : decode cL_law 449 = .ok (.iadd, 1) := by decide +kernel
theorem dL_law_450 : decode cL_law 450 = .ok (.iaload, 1) := by decide +kernel
theorem dL_law_451 : decode cL_law 451 = .ok (.aload_n 0, 1) := by decide +kernel
theorem dL_law_452 : decode cL_law 452 = .ok (.iload_n 3, 1) := by decide +kernel
theorem dL_law_453 : decode cL_law 453 = .ok (.iconst 2, 1) := by decide +kernel
theorem dL_law_454 : decode cL_law 454 = .ok (.iadd, 1) := by decide +kernel
theorem dL_law_455 : decode cL_law 455 = .ok (.iaload, 1) := by decide +kernel
theorem dL_law_456 : decode cL_law 456 = .ok (.invokevirtual 37, 3) := by decide +kernel
theorem dL_law_459 : decode cL_law 459 = .ok (.aload_n 2, 1) := by decide +kernel
theorem dL_law_460 : decode cL_law 460 = .ok (.aload_n 0, 1) := by decide +kernel
theorem dL_law_461 : decode cL_law 461 = .ok (.iload_n 3, 1) := by decide +kernel
theorem dL_law_462 : decode cL_law 462 = .ok (.iconst 1, 1) := by decide +kernel
theorem dL_law_463 : decode cL_law 463 = .ok (.iadd, 1) := by decide +kernel
theorem dL_law_464 : decode cL_law 464 = .ok (.iaload, 1) := by decide +kernel
theorem dL_law_465 : decode cL_law 465 = .ok (.aload_n 0, 1) := by decide +kernel
theorem dL_law_466 : decode cL_law 466 = .ok (.iload_n 3, 1) := by decide +kernel
theorem dL_law_467 : decode cL_law 467 = .ok (.iconst 2, 1) := by decide +kernel
theorem dL_law_468 : decode cL_law 468 = .ok (.iadd, 1) := by decide +kernel
theorem dL_law_469 : decode cL_law 469 = .ok (.iaload, 1) := by decide +kernel
theorem dL_law_470 : decode cL_law 470 = .ok (.invokevirtual 40, 3) := by decide +kernel
theorem dL_law_473 : decode cL_law 473 = .ok (.if_icmp .eq 1456, 3) := by decide +kernel
theorem dL_law_476 : decode cL_law 476 = .ok (.iconst 0, 1) := by decide +kernel
theorem dL_law_477 : decode cL_law 477 = .ok (.ireturn, 1) := by decide +kernel
theorem dL_law_478 : decode cL_law 478 = .ok (.aload_n 1, 1) := by decide +kernel
theorem dL_law_479 : decode cL_law 479 = .ok (.aload_n 0, 1) := by decide +kernel
theorem dL_law_480 : decode cL_law 480 = .ok (.iload_n 3, 1) := by decide +kernel
theorem dL_law_481 : decode cL_law 481 = .ok (.iconst 1, 1) := by decide +kernel
theorem dL_law_482 : decode cL_law 482 = .ok (.iadd, 1) := by decide +kernel
theorem dL_law_483 : decode cL_law 483 = .ok (.iaload, 1) := by decide +kernel
theorem dL_law_484 : decode cL_law 484 = .ok (.aload_n 0, 1) := by decide +kernel
theorem dL_law_485 : decode cL_law 485 = .ok (.iload_n 3, 1) := by decide +kernel
theorem dL_law_486 : decode cL_law 486 = .ok (.iconst 2, 1) := by decide +kernel
theorem dL_law_487 : decode cL_law 487 = .ok (.iadd, 1) := by decide +kernel
theorem dL_law_488 : decode cL_law 488 = .ok (.iaload, 1) := by decide +kernel
theorem dL_law_489 : decode cL_law 489 = .ok (.aload_n 0, 1) := by decide +kernel
theorem dL_law_490 : decode cL_law 490 = .ok (.iload_n 3, 1) := by decide +kernel
theorem dL_law_491 : decode cL_law 491 = .ok (.iconst 3, 1) := by decide +kernel
theorem dL_law_492 : decode cL_law 492 = .ok (.iadd, 1) := by decide +kernel
theorem dL_law_493 : decode cL_law 493 = .ok (.iaload, 1) := by decide +kernel
theorem dL_law_494 : decode cL_law 494 = .ok (.invokevirtual 41, 3) := by decide +kernel
theorem dL_law_497 : decode cL_law 497 = .ok (.aload_n 2, 1) := by decide +kernel
theorem dL_law_498 : decode cL_law 498 = .ok (.aload_n 0, 1) := by decide +kernel
theorem dL_law_499 : decode cL_law 499 = .ok (.iload_n 3, 1) := by decide +kernel
theorem dL_law_500 : decode cL_law 500 = .ok (.iconst 1, 1) := by decide +kernel
theorem dL_law_501 : decode cL_law 501 = .ok (.iadd, 1) := by decide +kernel
theorem dL_law_502 : decode cL_law 502 = .ok (.iaload, 1) := by decide +kernel
theorem dL_law_503 : decode cL_law 503 = .ok (.aload_n 0, 1) := by decide +kernel
theorem dL_law_504 : decode cL_law 504 = .ok (.iload_n 3, 1) := by decide +kernel
theorem dL_law_505 : decode cL_law 505 = .ok (.iconst 2, 1) := by decide +kernel
theorem dL_law_506 : decode cL_law 506 = .ok (.iadd, 1) := by decide +kernel
theorem dL_law_507 : decode cL_law 507 = .ok (.iaload, 1) := by decide +kernel
theorem dL_law_508 : decode cL_law 508 = .ok (.aload_n 0, 1) := by decide +kernel
theorem dL_law_509 : decode cL_law 509 = .ok (.iload_n 3, 1) := by decide +kernel
theorem dL_law_510 : decode cL_law 510 = .ok (.iconst 3, 1) := by decide +kernel
theorem dL_law_511 : decode cL_law 511 = .ok (.iadd, 1) := by decide +kernel
theorem dL_law_512 : decode cL_law 512 = .ok (.iaload, 1) := by decide +kernel
theorem dL_law_513 : decode cL_law 513 = .ok (.invokevirtual 44, 3) := by decide +kernel
theorem dL_law_516 : decode cL_law 516 = .ok (.if_icmp .eq 1413, 3) := by decide +kernel
theorem dL_law_519 : decode cL_law 519 = .ok (.iconst 0, 1) := by decide +kernel
theorem dL_law_520 : decode cL_law 520 = .ok (.ireturn, 1) := by decide +kernel
theorem dL_law_521 : decode cL_law 521 = .ok (.aload_n 1, 1) := by decide +kernel
theorem dL_law_522 : decode cL_law 522 = .ok (.aload_n 0, 1) := by decide +kernel
theorem dL_law_523 : decode cL_law 523 = .ok (.iload_n 3, 1) := by decide +kernel
theorem dL_law_524 : decode cL_law 524 = .ok (.iconst 1, 1) := by decide +kernel
theorem dL_law_525 : decode cL_law 525 = .ok (.iadd, 1) := by decide +kernel
theorem dL_law_526 : decode cL_law 526 = .ok (.iaload, 1) := by decide +kernel
theorem dL_law_527 : decode cL_law 527 = .ok (.invokevirtual 45, 3) := by decide +kernel
theorem dL_law_530 : decode cL_law 530 = .ok (.aload_n 2, 1) := by decide +kernel
theorem dL_law_531 : decode cL_law 531 = .ok (.aload_n 0, 1) := by decide +kernel
theorem dL_law_532 : decode cL_law 532 = .ok (.iload_n 3, 1) := by decide +kernel
theorem dL_law_533 : decode cL_law 533 = .ok (.iconst 1, 1) := by decide +kernel
theorem dL_law_534 : decode cL_law 534 = .ok (.iadd, 1) := by decide +kernel
theorem dL_law_535 : decode cL_law 535 = .ok (.iaload, 1) := by decide +kernel
theorem dL_law_536 : decode cL_law 536 = .ok (.invokevirtual 48, 3) := by decide +kernel
theorem dL_law_539 : decode cL_law 539 = .ok (.if_icmp .eq 1390, 3) := by decide +kernel
theorem dL_law_542 : decode cL_law 542 = .ok (.iconst 0, 1) := by decide +kernel
theorem dL_law_543 : decode cL_law 543 = .ok (.ireturn, 1) := by decide +kernel
theorem dL_law_544 : decode cL_law 544 = .ok (.aload_n 1, 1) := by decide +kernel
theorem dL_law_545 : decode cL_law 545 = .ok (.aload_n 0, 1) := by decide +kernel
theorem dL_law_546 : decode cL_law 546 = .ok (.iload_n 3, 1) := by decide +kernel
theorem dL_law_547 : decode cL_law 547 = .ok (.iconst 1, 1) := by decide +kernel
theorem dL_law_548 : decode cL_law 548 = .ok (.iadd, 1) := by decide +kernel
theorem dL_law_549 : decode cL_law 549 = .ok (.iaload, 1) := by decide +kernel
theorem dL_law_550 : decode cL_law 550 = .ok (.aload_n 0, 1) := by decide +kernel
theorem dL_law_551 : decode cL_law 551 = .ok (.iload_n 3, 1) := by decide +kernel
theorem dL_law_552 : decode cL_law 552 = .ok (.iconst 2, 1) := by decide +kernel
theorem dL_law_553 : decode cL_law 553 = .ok (.iadd, 1) := by decide +kernel
theorem dL_law_554 : decode cL_law 554 = .ok (.iaload, 1) := by decide +kernel
theorem dL_law_555 : decode cL_law 555 = .ok (.invokevirtual 49, 3) := by decide +kernel
theorem dL_law_558 : decode cL_law 558 = .ok (.aload_n 2, 1) := by decide +kernel
theorem dL_law_559 : decode cL_law 559 = .ok (.aload_n 0, 1) := by decide +kernel
theorem dL_law_560 : decode cL_law 560 = .ok (.iload_n 3, 1) := by decide +kernel
theorem dL_law_561 : decode cL_law 561 = .ok (.iconst 1, 1) := by decide +kernel
theorem dL_law_562 : decode cL_law 562 = .ok (.iadd, 1) := by decide +kernel
theorem dL_law_563 : decode cL_law 563 = .ok (.iaload, 1) := by decide +kernel
theorem dL_law_564 : decode cL_law 564 = .ok (.aload_n 0, 1) := by decide +kernel
theorem dL_law_565 : decode cL_law 565 = .ok (.iload_n 3, 1) := by decide +kernel
theorem dL_law_566 : decode cL_law 566 = .ok (.iconst 2, 1) := by decide +kernel
theorem dL_law_567 : decode cL_law 567 = .ok (.iadd, 1) := by decide +kernel
theorem dL_law_568 : decode cL_law 568 = .ok (.iaload, 1) := by decide +kernel
theorem dL_law_569 : decode cL_law 569 = .ok (.invokevirtual 52, 3) := by decide +kernel
theorem dL_law_572 : decode cL_law 572 = .ok (.if_icmp .eq 1357, 3) := by decide +kernel
theorem dL_law_575 : decode cL_law 575 = .ok (.iconst 0, 1) := by decide +kernel
theorem dL_law_576 : decode cL_law 576 = .ok (.ireturn, 1) := by decide +kernel
theorem dL_law_577 : decode cL_law 577 = .ok (.aload_n 1, 1) := by decide +kernel
theorem dL_law_578 : decode cL_law 578 = .ok (.aload_n 0, 1) := by decide +kernel
theorem dL_law_579 : decode cL_law 579 = .ok (.iload_n 3, 1) := by decide +kernel
theorem dL_law_580 : decode cL_law 580 = .ok (.iconst 1, 1) := by decide +kernel
theorem dL_law_581 : decode cL_law 581 = .ok (.iadd, 1) := by decide +kernel
theorem dL_law_582 : decode cL_law 582 = .ok (.iaload, 1) := by decide +kernel
theorem dL_law_583 : decode cL_law 583 = .ok (.aload_n 0, 1) := by decide +kernel
theorem dL_law_584 : decode cL_law 584 = .ok (.iload_n 3, 1) := by decide +kernel
theorem dL_law_585 : decode cL_law 585 = .ok (.iconst 2, 1) := by decide +kernel
theorem dL_law_586 : decode cL_law 586 = .ok (.iadd, 1) := by decide +kernel
theorem dL_law_587 : decode cL_law 587 = .ok (.iaload, 1) := by decide +kernel
theorem dL_law_588 : decode cL_law 588 = .ok (.invokevirtual 53, 3) := by decide +kernel
theorem dL_law_591 : decode cL_law 591 = .ok (.aload_n 2, 1) := by decide +kernel
theorem dL_law_592 : decode cL_law 592 = .ok (.aload_n 0, 1) := by decide +kernel
theorem dL_law_593 : decode cL_law 593 = .ok (.iload_n 3, 1) := by decide +kernel
theorem dL_law_594 : decode cL_law 594 = .ok (.iconst 1, 1) := by decide +kernel
theorem dL_law_595 : decode cL_law 595 = .ok (.iadd, 1) := by decide +kernel
theorem dL_law_596 : decode cL_law 596 = .ok (.iaload, 1) := by decide +kernel
theorem dL_law_597 : decode cL_law 597 = .ok (.aload_n 0, 1) := by decide +kernel
theorem dL_law_598 : decode cL_law 598 = .ok (.iload_n 3, 1) := by decide +kernel
theorem dL_law_599 : decode cL_law 599 = .ok (.iconst 2, 1) := by decide +kernel
theorem dL_law_600 : decode cL_law 600 = .ok (.iadd, 1) := by decide +kernel
theorem dL_law_601 : decode cL_law 601 = .ok (.iaload, 1) := by decide +kernel
theorem dL_law_602 : decode cL_law 602 = .ok (.invokevirtual 56, 3) := by decide +kernel
theorem dL_law_605 : decode cL_law 605 = .ok (.if_icmp .eq 1324, 3) := by decide +kernel
theorem dL_law_608 : decode cL_law 608 = .ok (.iconst 0, 1) := by decide +kernel
theorem dL_law_609 : decode cL_law 609 = .ok (.ireturn, 1) := by decide +kernel
theorem dL_law_610 : decode cL_law 610 = .ok (.aload_n 1, 1) := by decide +kernel
theorem dL_law_611 : decode cL_law 611 = .ok (.aload_n 0, 1) := by decide +kernel
theorem dL_law_612 : decode cL_law 612 = .ok (.iload_n 3, 1) := by decide +kernel
theorem dL_law_613 : decode cL_law 613 = .ok (.iconst 1, 1) := by decide +kernel
theorem dL_law_614 : decode cL_law 614 = .ok (.iadd, 1) := by decide +kernel
theorem dL_law_615 : decode cL_law 615 = .ok (.iaload, 1) := by decide +kernel
theorem dL_law_616 : decode cL_law 616 = .ok (.aload_n 0, 1) := by decide +kernel
theorem dL_law_617 : decode cL_law 617 = .ok (.iload_n 3, 1) := by decide +kernel
theorem dL_law_618 : decode cL_law 618 = .ok (.iconst 2, 1) := by decide +kernel
theorem dL_law_619 : decode cL_law 619 = .ok (.iadd, 1) := by decide +kernel
theorem dL_law_620 : decode cL_law 620 = .ok (.iaload, 1) := by decide +kernel
theorem dL_law_621 : decode cL_law 621 = .ok (.invokevirtual 57, 3) := by decide +kernel
theorem dL_law_624 : decode cL_law 624 = .ok (.aload_n 2, 1) := by decide +kernel
theorem dL_law_625 : decode cL_law 625 = .ok (.aload_n 0, 1) := by decide +kernel
theorem dL_law_626 : decode cL_law 626 = .ok (.iload_n 3, 1) := by decide +kernel
theorem dL_law_627 : decode cL_law 627 = .ok (.iconst 1, 1) := by decide +kernel
theorem dL_law_628 : decode cL_law 628 = .ok (.iadd, 1) := by decide +kernel
theorem dL_law_629 : decode cL_law 629 = .ok (.iaload, 1) := by decide +kernel
theorem dL_law_630 : decode cL_law 630 = .ok (.aload_n 0, 1) := by decide +kernel
theorem dL_law_631 : decode cL_law 631 = .ok (.iload_n 3, 1) := by decide +kernel
theorem dL_law_632 : decode cL_law 632 = .ok (.iconst 2, 1) := by decide +kernel
theorem dL_law_633 : decode cL_law 633 = .ok (.iadd, 1) := by decide +kernel
theorem dL_law_634 : decode cL_law 634 = .ok (.iaload, 1) := by decide +kernel
theorem dL_law_635 : decode cL_law 635 = .ok (.invokevirtual 60, 3) := by decide +kernel
theorem dL_law_638 : decode cL_law 638 = .ok (.if_icmp .eq 1291, 3) := by decide +kernel
theorem dL_law_641 : decode cL_law 641 = .ok (.iconst 0, 1) := by decide +kernel
theorem dL_law_642 : decode cL_law 642 = .ok (.ireturn, 1) := by decide +kernel
theorem dL_law_643 : decode cL_law 643 = .ok (.aload_n 1, 1) := by decide +kernel
theorem dL_law_644 : decode cL_law 644 = .ok (.aload_n 0, 1) := by decide +kernel
theorem dL_law_645 : decode cL_law 645 = .ok (.iload_n 3, 1) := by decide +kernel
theorem dL_law_646 : decode cL_law 646 = .ok (.iconst 1, 1) := by decide +kernel
theorem dL_law_647 : decode cL_law 647 = .ok (.iadd, 1) := by decide +kernel
theorem dL_law_648 : decode cL_law 648 = .ok (.iaload, 1) := by decide +kernel
theorem dL_law_649 : decode cL_law 649 = .ok (.aload_n 0, 1) := by decide +kernel
theorem dL_law_650 : decode cL_law 650 = .ok (.iload_n 3, 1) := by decide +kernel
theorem dL_law_651 : decode cL_law 651 = .ok (.iconst 2, 1) := by decide +kernel
theorem dL_law_652 : decode cL_law 652 = .ok (.iadd, 1) := by decide +kernel
theorem dL_law_653 : decode cL_law 653 = .ok (.iaload, 1) := by decide +kernel
theorem dL_law_654 : decode cL_law 654 = .ok (.aload_n 0, 1) := by decide +kernel
theorem dL_law_655 : decode cL_law 655 = .ok (.iload_n 3, 1) := by decide +kernel
theorem dL_law_656 : decode cL_law 656 = .ok (.iconst 3, 1) := by decide +kernel
theorem dL_law_657 : decode cL_law 657 = .ok (.iadd, 1) := by decide +kernel
theorem dL_law_658 : decode cL_law 658 = .ok (.iaload, 1) := by decide +kernel
theorem dL_law_659 : decode cL_law 659 = .ok (.invokevirtual 61, 3) := by decide +kernel
theorem dL_law_662 : decode cL_law 662 = .ok (.aload_n 2, 1) := by decide +kernel
theorem dL_law_663 : decode cL_law 663 = .ok (.aload_n 0, 1) := by decide +kernel
theorem dL_law_664 : decode cL_law 664 = .ok (.iload_n 3, 1) := by decide +kernel
theorem dL_law_665 : decode cL_law 665 = .ok (.iconst 1, 1) := by decide +kernel
theorem dL_law_666 : decode cL_law 666 = .ok (.iadd, 1) := by decide +kernel
theorem dL_law_667 : decode cL_law 667 = .ok (.iaload, 1) := by decide +kernel
theorem dL_law_668 : decode cL_law 668 = .ok (.aload_n 0, 1) := by decide +kernel
theorem dL_law_669 : decode cL_law 669 = .ok (.iload_n 3, 1) := by decide +kernel
theorem dL_law_670 : decode cL_law 670 = .ok (.iconst 2, 1) := by decide +kernel
theorem dL_law_671 : decode cL_law 671 = .ok (.iadd, 1) := by decide +kernel
theorem dL_law_672 : decode cL_law 672 = .ok (.iaload, 1) := by decide +kernel
theorem dL_law_673 : decode cL_law 673 = .ok (.aload_n 0, 1) := by decide +kernel
theorem dL_law_674 : decode cL_law 674 = .ok (.iload_n 3, 1) := by decide +kernel
theorem dL_law_675 : decode cL_law 675 = .ok (.iconst 3, 1) := by decide +kernel
theorem dL_law_676 : decode cL_law 676 = .ok (.iadd, 1) := by decide +kernel
theorem dL_law_677 : decode cL_law 677 = .ok (.iaload, 1) := by decide +kernel
theorem dL_law_678 : decode cL_law 678 = .ok (.invokevirtual 64, 3) := by decide +kernel
theorem dL_law_681 : decode cL_law 681 = .ok (.if_icmp .eq 1248, 3) := by decide +kernel
theorem dL_law_684 : decode cL_law 684 = .ok (.iconst 0, 1) := by decide +kernel
theorem dL_law_685 : decode cL_law 685 = .ok (.ireturn, 1) := by decide +kernel
theorem dL_law_686 : decode cL_law 686 = .ok (.aload_n 1, 1) := by decide +kernel
theorem dL_law_687 : decode cL_law 687 = .ok (.aload_n 0, 1) := by decide +kernel
theorem dL_law_688 : decode cL_law 688 = .ok (.iload_n 3, 1) := by decide +kernel
theorem dL_law_689 : decode cL_law 689 = .ok (.iconst 1, 1) := by decide +kernel
theorem dL_law_690 : decode cL_law 690 = .ok (.iadd, 1) := by decide +kernel
theorem dL_law_691 : decode cL_law 691 = .ok (.iaload, 1) := by decide +kernel
theorem dL_law_692 : decode cL_law 692 = .ok (.aload_n 0, 1) := by decide +kernel
theorem dL_law_693 : decode cL_law 693 = .ok (.iload_n 3, 1) := by decide +kernel
theorem dL_law_694 : decode cL_law 694 = .ok (.iconst 2, 1) := by decide +kernel
theorem dL_law_695 : decode cL_law 695 = .ok (.iadd, 1) := by decide +kernel
theorem dL_law_696 : decode cL_law 696 = .ok (.iaload, 1) := by decide +kernel
theorem dL_law_697 : decode cL_law 697 = .ok (.invokevirtual 65, 3) := by decide +kernel
theorem dL_law_700 : decode cL_law 700 = .ok (.aload_n 2, 1) := by decide +kernel
theorem dL_law_701 : decode cL_law 701 = .ok (.aload_n 0, 1) := by decide +kernel
theorem dL_law_702 : decode cL_law 702 = .ok (.iload_n 3, 1) := by decide +kernel
theorem dL_law_703 : decode cL_law 703 = .ok (.iconst 1, 1) := by decide +kernel
theorem dL_law_704 : decode cL_law 704 = .ok (.iadd, 1) := by decide +kernel
theorem dL_law_705 : decode cL_law 705 = .ok (.iaload, 1) := by decide +kernel
theorem dL_law_706 : decode cL_law 706 = .ok (.aload_n 0, 1) := by decide +kernel
theorem dL_law_707 : decode cL_law 707 = .ok (.iload_n 3, 1) := by decide +kernel
theorem dL_law_708 : decode cL_law 708 = .ok (.iconst 2, 1) := by decide +kernel
theorem dL_law_709 : decode cL_law 709 = .ok (.iadd, 1) := by decide +kernel
theorem dL_law_710 : decode cL_law 710 = .ok (.iaload, 1) := by decide +kernel
theorem dL_law_711 : decode cL_law 711 = .ok (.invokevirtual 68, 3) := by decide +kernel
theorem dL_law_714 : decode cL_law 714 = .ok (.if_icmp .eq 1215, 3) := by decide +kernel
theorem dL_law_717 : decode cL_law 717 = .ok (.iconst 0, 1) := by decide +kernel
theorem dL_law_718 : decode cL_law 718 = .ok (.ireturn, 1) := by decide +kernel
theorem dL_law_719 : decode cL_law 719 = .ok (.aload_n 1, 1) := by decide +kernel
theorem dL_law_720 : decode cL_law 720 = .ok (.aload_n 0, 1) := by decide +kernel
theorem dL_law_721 : decode cL_law 721 = .ok (.iload_n 3, 1) := by decide +kernel
theorem dL_law_722 : decode cL_law 722 = .ok (.iconst 1, 1) := by decide +kernel
theorem dL_law_723 : decode cL_law 723 = .ok (.iadd, 1) := by decide +kernel
theorem dL_law_724 : decode cL_law 724 = .ok (.iaload, 1) := by decide +kernel
theorem dL_law_725 : decode cL_law 725 = .ok (.aload_n 0, 1) := by decide +kernel
theorem dL_law_726 : decode cL_law 726 = .ok (.iload_n 3, 1) := by decide +kernel
theorem dL_law_727 : decode cL_law 727 = .ok (.iconst 2, 1) := by decide +kernel
theorem dL_law_728 : decode cL_law 728 = .ok (.iadd, 1) := by decide +kernel
theorem dL_law_729 : decode cL_law 729 = .ok (.iaload, 1) := by decide +kernel
theorem dL_law_730 : decode cL_law 730 = .ok (.invokevirtual 69, 3) := by decide +kernel
theorem dL_law_733 : decode cL_law 733 = .ok (.aload_n 2, 1) := by decide +kernel
theorem dL_law_734 : decode cL_law 734 = .ok (.aload_n 0, 1) := by decide +kernel
theorem dL_law_735 : decode cL_law 735 = .ok (.iload_n 3, 1) := by decide +kernel
theorem dL_law_736 : decode cL_law 736 = .ok (.iconst 1, 1) := by decide +kernel
theorem dL_law_737 : decode cL_law 737 = .ok (.iadd, 1) := by decide +kernel
theorem dL_law_738 : decode cL_law 738 = .ok (.iaload, 1) := by decide +kernel
theorem dL_law_739 : decode cL_law 739 = .ok (.aload_n 0, 1) := by decide +kernel
theorem dL_law_740 : decode cL_law 740 = .ok (.iload_n 3, 1) := by decide +kernel
theorem dL_law_741 : decode cL_law 741 = .ok (.iconst 2, 1) := by decide +kernel
theorem dL_law_742 : decode cL_law 742 = .ok (.iadd, 1) := by decide +kernel
theorem dL_law_743 : decode cL_law 743 = .ok (.iaload, 1) := by decide +kernel
theorem dL_law_744 : decode cL_law 744 = .ok (.invokevirtual 72, 3) := by decide +kernel
theorem dL_law_747 : decode cL_law 747 = .ok (.if_icmp .eq 1182, 3) := by decide +kernel
theorem dL_law_750 : decode cL_law 750 = .ok (.iconst 0, 1) := by decide +kernel
theorem dL_law_751 : decode cL_law 751 = .ok (.ireturn, 1) := by decide +kernel
theorem dL_law_752 : decode cL_law 752 = .ok (.aload_n 1, 1) := by decide +kernel
theorem dL_law_753 : decode cL_law 753 = .ok (.aload_n 0, 1) := by decide +kernel
theorem dL_law_754 : decode cL_law 754 = .ok (.iload_n 3, 1) := by decide +kernel
theorem dL_law_755 : decode cL_law 755 = .ok (.iconst 1, 1) := by decide +kernel
theorem dL_law_756 : decode cL_law 756 = .ok (.iadd, 1) := by decide +kernel
theorem dL_law_757 : decode cL_law 757 = .ok (.iaload, 1) := by decide +kernel
theorem dL_law_758 : decode cL_law 758 = .ok (.invokevirtual 73, 3) := by decide +kernel
theorem dL_law_761 : decode cL_law 761 = .ok (.aload_n 2, 1) := by decide +kernel
theorem dL_law_762 : decode cL_law 762 = .ok (.aload_n 0, 1) := by decide +kernel
theorem dL_law_763 : decode cL_law 763 = .ok (.iload_n 3, 1) := by decide +kernel
theorem dL_law_764 : decode cL_law 764 = .ok (.iconst 1, 1) := by decide +kernel
theorem dL_law_765 : decode cL_law 765 = .ok (.iadd, 1) := by decide +kernel
theorem dL_law_766 : decode cL_law 766 = .ok (.iaload, 1) := by decide +kernel
theorem dL_law_767 : decode cL_law 767 = .ok (.invokevirtual 76, 3) := by decide +kernel
theorem dL_law_770 : decode cL_law 770 = .ok (.if_icmp .eq 1159, 3) := by decide +kernel
theorem dL_law_773 : decode cL_law 773 = .ok (.iconst 0, 1) := by decide +kernel
theorem dL_law_774 : decode cL_law 774 = .ok (.ireturn, 1) := by decide +kernel
theorem dL_law_775 : decode cL_law 775 = .ok (.aload_n 1, 1) := by decide +kernel
theorem dL_law_776 : decode cL_law 776 = .ok (.aload_n 0, 1) := by decide +kernel
theorem dL_law_777 : decode cL_law 777 = .ok (.iload_n 3, 1) := by decide +kernel
theorem dL_law_778 : decode cL_law 778 = .ok (.iconst 1, 1) := by decide +kernel
theorem dL_law_779 : decode cL_law 779 = .ok (.iadd, 1) := by decide +kernel
theorem dL_law_780 : decode cL_law 780 = .ok (.iaload, 1) := by decide +kernel
theorem dL_law_781 : decode cL_law 781 = .ok (.invokevirtual 77, 3) := by decide +kernel
theorem dL_law_784 : decode cL_law 784 = .ok (.aload_n 2, 1) := by decide +kernel
theorem dL_law_785 : decode cL_law 785 = .ok (.aload_n 0, 1) := by decide +kernel
theorem dL_law_786 : decode cL_law 786 = .ok (.iload_n 3, 1) := by decide +kernel
theorem dL_law_787 : decode cL_law 787 = .ok (.iconst 1, 1) := by decide +kernel
theorem dL_law_788 : decode cL_law 788 = .ok (.iadd, 1) := by decide +kernel
theorem dL_law_789 : decode cL_law 789 = .ok (.iaload, 1) := by decide +kernel
theorem dL_law_790 : decode cL_law 790 = .ok (.invokevirtual 80, 3) := by decide +kernel
theorem dL_law_793 : decode cL_law 793 = .ok (.if_icmp .eq 1136, 3) := by decide +kernel
theorem dL_law_796 : decode cL_law 796 = .ok (.iconst 0, 1) := by decide +kernel
theorem dL_law_797 : decode cL_law 797 = .ok (.ireturn, 1) := by decide +kernel
theorem dL_law_798 : decode cL_law 798 = .ok (.aload_n 1, 1) := by decide +kernel
theorem dL_law_799 : decode cL_law 799 = .ok (.aload_n 0, 1) := by decide +kernel
theorem dL_law_800 : decode cL_law 800 = .ok (.iload_n 3, 1) := by decide +kernel
theorem dL_law_801 : decode cL_law 801 = .ok (.iconst 1, 1) := by decide +kernel
theorem dL_law_802 : decode cL_law 802 = .ok (.iadd, 1) := by decide +kernel
theorem dL_law_803 : decode cL_law 803 = .ok (.iaload, 1) := by decide +kernel
theorem dL_law_804 : decode cL_law 804 = .ok (.aload_n 0, 1) := by decide +kernel
theorem dL_law_805 : decode cL_law 805 = .ok (.iload_n 3, 1) := by decide +kernel
theorem dL_law_806 : decode cL_law 806 = .ok (.iconst 2, 1) := by decide +kernel
theorem dL_law_807 : decode cL_law 807 = .ok (.iadd, 1) := by decide +kernel
theorem dL_law_808 : decode cL_law 808 = .ok (.iaload, 1) := by decide +kernel
theorem dL_law_809 : decode cL_law 809 = .ok (.invokevirtual 81, 3) := by decide +kernel
theorem dL_law_812 : decode cL_law 812 = .ok (.aload_n 2, 1) := by decide +kernel
theorem dL_law_813 : decode cL_law 813 = .ok (.aload_n 0, 1) := by decide +kernel
theorem dL_law_814 : decode cL_law 814 = .ok (.iload_n 3, 1) := by decide +kernel
theorem dL_law_815 : decode cL_law 815 = .ok (.iconst 1, 1) := by decide +kernel
theorem dL_law_816 : decode cL_law 816 = .ok (.iadd, 1) := by decide +kernel
theorem dL_law_817 : decode cL_law 817 = .ok (.iaload, 1) := by decide +kernel
theorem dL_law_818 : decode cL_law 818 = .ok (.aload_n 0, 1) := by decide +kernel
theorem dL_law_819 : decode cL_law 819 = .ok (.iload_n 3, 1) := by decide +kernel
theorem dL_law_820 : decode cL_law 820 = .ok (.iconst 2, 1) := by decide +kernel
theorem dL_law_821 : decode cL_law 821 = .ok (.iadd, 1) := by decide +kernel
theorem dL_law_822 : decode cL_law 822 = .ok (.iaload, 1) := by decide +kernel
theorem dL_law_823 : decode cL_law 823 = .ok (.invokevirtual 84, 3) := by decide +kernel
theorem dL_law_826 : decode cL_law 826 = .ok (.if_icmp .eq 1103, 3) := by decide +kernel
theorem dL_law_829 : decode cL_law 829 = .ok (.iconst 0, 1) := by decide +kernel
theorem dL_law_830 : decode cL_law 830 = .ok (.ireturn, 1) := by decide +kernel
theorem dL_law_831 : decode cL_law 831 = .ok (.aload_n 1, 1) := by decide +kernel
theorem dL_law_832 : decode cL_law 832 = .ok (.aload_n 0, 1) := by decide +kernel
theorem dL_law_833 : decode cL_law 833 = .ok (.iload_n 3, 1) := by decide +kernel
theorem dL_law_834 : decode cL_law 834 = .ok (.iconst 1, 1) := by decide +kernel
theorem dL_law_835 : decode cL_law 835 = .ok (.iadd, 1) := by decide +kernel
theorem dL_law_836 : decode cL_law 836 = .ok (.iaload, 1) := by decide +kernel
theorem dL_law_837 : decode cL_law 837 = .ok (.aload_n 0, 1) := by decide +kernel
theorem dL_law_838 : decode cL_law 838 = .ok (.iload_n 3, 1) := by decide +kernel
theorem dL_law_839 : decode cL_law 839 = .ok (.iconst 2, 1) := by decide +kernel
theorem dL_law_840 : decode cL_law 840 = .ok (.iadd, 1) := by decide +kernel
theorem dL_law_841 : decode cL_law 841 = .ok (.iaload, 1) := by decide +kernel
theorem dL_law_842 : decode cL_law 842 = .ok (.aload_n 0, 1) := by decide +kernel
theorem dL_law_843 : decode cL_law 843 = .ok (.iload_n 3, 1) := by decide +kernel
theorem dL_law_844 : decode cL_law 844 = .ok (.iconst 3, 1) := by decide +kernel
theorem dL_law_845 : decode cL_law 845 = .ok (.iadd, 1) := by decide +kernel
theorem dL_law_846 : decode cL_law 846 = .ok (.iaload, 1) := by decide +kernel
theorem dL_law_847 : decode cL_law 847 = .ok (.invokevirtual 85, 3) := by decide +kernel
theorem dL_law_850 : decode cL_law 850 = .ok (.aload_n 2, 1) := by decide +kernel
theorem dL_law_851 : decode cL_law 851 = .ok (.aload_n 0, 1) := by decide +kernel
theorem dL_law_852 : decode cL_law 852 = .ok (.iload_n 3, 1) := by decide +kernel
theorem dL_law_853 : decode cL_law 853 = .ok (.iconst 1, 1) := by decide +kernel
theorem dL_law_854 : decode cL_law 854 = .ok (.iadd, 1) := by decide +kernel
theorem dL_law_855 : decode cL_law 855 = .ok (.iaload, 1) := by decide +kernel
theorem dL_law_856 : decode cL_law 856 = .ok (.aload_n 0, 1) := by decide +kernel
theorem dL_law_857 : decode cL_law 857 = .ok (.iload_n 3, 1) := by decide +kernel
theorem dL_law_858 : decode cL_law 858 = .ok (.iconst 2, 1) := by decide +kernel
theorem dL_law_859 : decode cL_law 859 = .ok (.iadd, 1) := by decide +kernel
theorem dL_law_860 : decode cL_law 860 = .ok (.iaload, 1) := by decide +kernel
theorem dL_law_861 : decode cL_law 861 = .ok (.aload_n 0, 1) := by decide +kernel
theorem dL_law_862 : decode cL_law 862 = .ok (.iload_n 3, 1) := by decide +kernel
theorem dL_law_863 : decode cL_law 863 = .ok (.iconst 3, 1) := by decide +kernel
theorem dL_law_864 : decode cL_law 864 = .ok (.iadd, 1) := by decide +kernel
theorem dL_law_865 : decode cL_law 865 = .ok (.iaload, 1) := by decide +kernel
theorem dL_law_866 : decode cL_law 866 = .ok (.invokevirtual 88, 3) := by decide +kernel
theorem dL_law_869 : decode cL_law 869 = .ok (.if_icmp .eq 1060, 3) := by decide +kernel
theorem dL_law_872 : decode cL_law 872 = .ok (.iconst 0, 1) := by decide +kernel
theorem dL_law_873 : decode cL_law 873 = .ok (.ireturn, 1) := by decide +kernel
theorem dL_law_874 : decode cL_law 874 = .ok (.aload_n 1, 1) := by decide +kernel
theorem dL_law_875 : decode cL_law 875 = .ok (.aload_n 0, 1) := by decide +kernel
theorem dL_law_876 : decode cL_law 876 = .ok (.iload_n 3, 1) := by decide +kernel
theorem dL_law_877 : decode cL_law 877 = .ok (.iconst 1, 1) := by decide +kernel
theorem dL_law_878 : decode cL_law 878 = .ok (.iadd, 1) := by decide +kernel
theorem dL_law_879 : decode cL_law 879 = .ok (.iaload, 1) := by decide +kernel
theorem dL_law_880 : decode cL_law 880 = .ok (.aload_n 0, 1) := by decide +kernel
theorem dL_law_881 : decode cL_law 881 = .ok (.iload_n 3, 1) := by decide +kernel
theorem dL_law_882 : decode cL_law 882 = .ok (.iconst 2, 1) := by decide +kernel
theorem dL_law_883 : decode cL_law 883 = .ok (.iadd, 1) := by decide +kernel
theorem dL_law_884 : decode cL_law 884 = .ok (.iaload, 1) := by decide +kernel
theorem dL_law_885 : decode cL_law 885 = .ok (.aload_n 0, 1) := by decide +kernel
theorem dL_law_886 : decode cL_law 886 = .ok (.iload_n 3, 1) := by decide +kernel
theorem dL_law_887 : decode cL_law 887 = .ok (.iconst 3, 1) := by decide +kernel
theorem dL_law_888 : decode cL_law 888 = .ok (.iadd, 1) := by decide +kernel
theorem dL_law_889 : decode cL_law 889 = .ok (.iaload, 1) := by decide +kernel
theorem dL_law_890 : decode cL_law 890 = .ok (.invokevirtual 89, 3) := by decide +kernel
theorem dL_law_893 : decode cL_law 893 = .ok (.aload_n 2, 1) := by decide +kernel
theorem dL_law_894 : decode cL_law 894 = .ok (.aload_n 0, 1) := by decide +kernel
theorem dL_law_895 : decode cL_law 895 = .ok (.iload_n 3, 1) := by decide +kernel
theorem dL_law_896 : decode cL_law 896 = .ok (.iconst 1, 1) := by decide +kernel
theorem dL_law_897 : decode cL_law 897 = .ok (.iadd, 1) := by decide +kernel
theorem dL_law_898 : decode cL_law 898 = .ok (.iaload, 1) := by decide +kernel
theorem dL_law_899 : decode cL_law 899 = .ok (.aload_n 0, 1) := by decide +kernel
theorem dL_law_900 : decode cL_law 900 = .ok (.iload_n 3, 1) := by decide +kernel
theorem dL_law_901 : decode cL_law 901 = .ok (.iconst 2, 1) := by decide +kernel
theorem dL_law_902 : decode cL_law 902 = .ok (.iadd, 1) := by decide +kernel
theorem dL_law_903 : decode cL_law 903 = .ok (.iaload, 1) := by decide +kernel
theorem dL_law_904 : decode cL_law 904 = .ok (.aload_n 0, 1) := by decide +kernel
theorem dL_law_905 : decode cL_law 905 = .ok (.iload_n 3, 1) := by decide +kernel
theorem dL_law_906 : decode cL_law 906 = .ok (.iconst 3, 1) := by decide +kernel
theorem dL_law_907 : decode cL_law 907 = .ok (.iadd, 1) := by decide +kernel
theorem dL_law_908 : decode cL_law 908 = .ok (.iaload, 1) := by decide +kernel
theorem dL_law_909 : decode cL_law 909 = .ok (.invokevirtual 92, 3) := by decide +kernel
theorem dL_law_912 : decode cL_law 912 = .ok (.if_icmp .eq 1017, 3) := by decide +kernel
theorem dL_law_915 : decode cL_law 915 = .ok (.iconst 0, 1) := by decide +kernel
theorem dL_law_916 : decode cL_law 916 = .ok (.ireturn, 1) := by decide +kernel
theorem dL_law_917 : decode cL_law 917 = .ok (.aload_n 1, 1) := by decide +kernel
theorem dL_law_918 : decode cL_law 918 = .ok (.aload_n 0, 1) := by decide +kernel
theorem dL_law_919 : decode cL_law 919 = .ok (.iload_n 3, 1) := by decide +kernel
theorem dL_law_920 : decode cL_law 920 = .ok (.iconst 1, 1) := by decide +kernel
theorem dL_law_921 : decode cL_law 921 = .ok (.iadd, 1) := by decide +kernel
theorem dL_law_922 : decode cL_law 922 = .ok (.iaload, 1) := by decide +kernel
theorem dL_law_923 : decode cL_law 923 = .ok (.aload_n 0, 1) := by decide +kernel
theorem dL_law_924 : decode cL_law 924 = .ok (.iload_n 3, 1) := by decide +kernel
theorem dL_law_925 : decode cL_law 925 = .ok (.iconst 2, 1) := by decide +kernel
theorem dL_law_926 : decode cL_law 926 = .ok (.iadd, 1) := by decide +kernel
theorem dL_law_927 : decode cL_law 927 = .ok (.iaload, 1) := by decide +kernel
theorem dL_law_928 : decode cL_law 928 = .ok (.aload_n 0, 1) := by decide +kernel
theorem dL_law_929 : decode cL_law 929 = .ok (.iload_n 3, 1) := by decide +kernel
theorem dL_law_930 : decode cL_law 930 = .ok (.iconst 3, 1) := by decide +kernel
theorem dL_law_931 : decode cL_law 931 = .ok (.iadd, 1) := by decide +kernel
theorem dL_law_932 : decode cL_law 932 = .ok (.iaload, 1) := by decide +kernel
theorem dL_law_933 : decode cL_law 933 = .ok (.invokevirtual 93, 3) := by decide +kernel
theorem dL_law_936 : decode cL_law 936 = .ok (.aload_n 2, 1) := by decide +kernel
theorem dL_law_937 : decode cL_law 937 = .ok (.aload_n 0, 1) := by decide +kernel
theorem dL_law_938 : decode cL_law 938 = .ok (.iload_n 3, 1) := by decide +kernel
theorem dL_law_939 : decode cL_law 939 = .ok (.iconst 1, 1) := by decide +kernel
theorem dL_law_940 : decode cL_law 940 = .ok (.iadd, 1) := by decide +kernel
theorem dL_law_941 : decode cL_law 941 = .ok (.iaload, 1) := by decide +kernel
theorem dL_law_942 : decode cL_law 942 = .ok (.aload_n 0, 1) := by decide +kernel
theorem dL_law_943 : decode cL_law 943 = .ok (.iload_n 3, 1) := by decide +kernel
theorem dL_law_944 : decode cL_law 944 = .ok (.iconst 2, 1) := by decide +kernel
theorem dL_law_945 : decode cL_law 945 = .ok (.iadd, 1) := by decide +kernel
theorem dL_law_946 : decode cL_law 946 = .ok (.iaload, 1) := by decide +kernel
theorem dL_law_947 : decode cL_law 947 = .ok (.aload_n 0, 1) := by decide +kernel
theorem dL_law_948 : decode cL_law 948 = .ok (.iload_n 3, 1) := by decide +kernel
theorem dL_law_949 : decode cL_law 949 = .ok (.iconst 3, 1) := by decide +kernel
theorem dL_law_950 : decode cL_law 950 = .ok (.iadd, 1) := by decide +kernel
theorem dL_law_951 : decode cL_law 951 = .ok (.iaload, 1) := by decide +kernel
theorem dL_law_952 : decode cL_law 952 = .ok (.invokevirtual 96, 3) := by decide +kernel
theorem dL_law_955 : decode cL_law 955 = .ok (.if_icmp .eq 974, 3) := by decide +kernel
theorem dL_law_958 : decode cL_law 958 = .ok (.iconst 0, 1) := by decide +kernel
theorem dL_law_959 : decode cL_law 959 = .ok (.ireturn, 1) := by decide +kernel
theorem dL_law_960 : decode cL_law 960 = .ok (.aload_n 1, 1) := by decide +kernel
theorem dL_law_961 : decode cL_law 961 = .ok (.aload_n 0, 1) := by decide +kernel
theorem dL_law_962 : decode cL_law 962 = .ok (.iload_n 3, 1) := by decide +kernel
theorem dL_law_963 : decode cL_law 963 = .ok (.iconst 1, 1) := by decide +kernel
theorem dL_law_964 : decode cL_law 964 = .ok (.iadd, 1) := by decide +kernel
theorem dL_law_965 : decode cL_law 965 = .ok (.iaload, 1) := by decide +kernel
theorem dL_law_966 : decode cL_law 966 = .ok (.aload_n 0, 1) := by decide +kernel
theorem dL_law_967 : decode cL_law 967 = .ok (.iload_n 3, 1) := by decide +kernel
theorem dL_law_968 : decode cL_law 968 = .ok (.iconst 2, 1) := by decide +kernel
theorem dL_law_969 : decode cL_law 969 = .ok (.iadd, 1) := by decide +kernel
theorem dL_law_970 : decode cL_law 970 = .ok (.iaload, 1) := by decide +kernel
theorem dL_law_971 : decode cL_law 971 = .ok (.aload_n 0, 1) := by decide +kernel
theorem dL_law_972 : decode cL_law 972 = .ok (.iload_n 3, 1) := by decide +kernel
theorem dL_law_973 : decode cL_law 973 = .ok (.iconst 3, 1) := by decide +kernel
theorem dL_law_974 : decode cL_law 974 = .ok (.iadd, 1) := by decide +kernel
theorem dL_law_975 : decode cL_law 975 = .ok (.iaload, 1) := by decide +kernel
theorem dL_law_976 : decode cL_law 976 = .ok (.aload_n 0, 1) := by decide +kernel
theorem dL_law_977 : decode cL_law 977 = .ok (.iload_n 3, 1) := by decide +kernel
theorem dL_law_978 : decode cL_law 978 = .ok (.iconst 4, 1) := by decide +kernel
theorem dL_law_979 : decode cL_law 979 = .ok (.iadd, 1) := by decide +kernel
theorem dL_law_980 : decode cL_law 980 = .ok (.iaload, 1) := by decide +kernel
theorem dL_law_981 : decode cL_law 981 = .ok (.invokevirtual 97, 3) := by decide +kernel
theorem dL_law_984 : decode cL_law 984 = .ok (.aload_n 2, 1) := by decide +kernel
theorem dL_law_985 : decode cL_law 985 = .ok (.aload_n 0, 1) := by decide +kernel
theorem dL_law_986 : decode cL_law 986 = .ok (.iload_n 3, 1) := by decide +kernel
theorem dL_law_987 : decode cL_law 987 = .ok (.iconst 1, 1) := by decide +kernel
theorem dL_law_988 : decode cL_law 988 = .ok (.iadd, 1) := by decide +kernel
theorem dL_law_989 : decode cL_law 989 = .ok (.iaload, 1) := by decide +kernel
theorem dL_law_990 : decode cL_law 990 = .ok (.aload_n 0, 1) := by decide +kernel
theorem dL_law_991 : decode cL_law 991 = .ok (.iload_n 3, 1) := by decide +kernel
theorem dL_law_992 : decode cL_law 992 = .ok (.iconst 2, 1) := by decide +kernel
theorem dL_law_993 : decode cL_law 993 = .ok (.iadd, 1) := by decide +kernel
theorem dL_law_994 : decode cL_law 994 = .ok (.iaload, 1) := by decide +kernel
theorem dL_law_995 : decode cL_law 995 = .ok (.aload_n 0, 1) := by decide +kernel
theorem dL_law_996 : decode cL_law 996 = .ok (.iload_n 3, 1) := by decide +kernel
theorem dL_law_997 : decode cL_law 997 = .ok (.iconst 3, 1) := by decide +kernel
theorem dL_law_998 : decode cL_law 998 = .ok (.iadd, 1) := by decide +kernel
theorem dL_law_999 : decode cL_law 999 = .ok (.iaload, 1) := by decide +kernel
theorem dL_law_1000 : decode cL_law 1000 = .ok (.aload_n 0, 1) := by decide +kernel
theorem dL_law_1001 : decode cL_law 1001 = .ok (.iload_n 3, 1) := by decide +kernel
theorem dL_law_1002 : decode cL_law 1002 = .ok (.iconst 4, 1) := by decide +kernel
theorem dL_law_1003 : decode cL_law 1003 = .ok (.iadd, 1) := by decide +kernel
theorem dL_law_1004 : decode cL_law 1004 = .ok (.iaload, 1) := by decide +kernel
theorem dL_law_1005 : decode cL_law 1005 = .ok (.invokevirtual 101, 3) := by decide +kernel
theorem dL_law_1008 : decode cL_law 1008 = .ok (.if_icmp .eq 921, 3) := by decide +kernel
theorem dL_law_1011 : decode cL_law 1011 = .ok (.iconst 0, 1) := by decide +kernel
theorem dL_law_1012 : decode cL_law 1012 = .ok (.ireturn, 1) := by decide +kernel
theorem dL_law_1013 : decode cL_law 1013 = .ok (.aload_n 1, 1) := by decide +kernel
theorem dL_law_1014 : decode cL_law 1014 = .ok (.aload_n 0, 1) := by decide +kernel
theorem dL_law_1015 : decode cL_law 1015 = .ok (.iload_n 3, 1) := by decide +kernel
theorem dL_law_1016 : decode cL_law 1016 = .ok (.iconst 1, 1) := by decide +kernel
theorem dL_law_1017 : decode cL_law 1017 = .ok (.iadd, 1) := by decide +kernel
theorem dL_law_1018 : decode cL_law 1018 = .ok (.iaload, 1) := by decide +kernel
theorem dL_law_1019 : decode cL_law 1019 = .ok (.aload_n 0, 1) := by decide +kernel
theorem dL_law_1020 : decode cL_law 1020 = .ok (.iload_n 3, 1) := by decide +kernel
theorem dL_law_1021 : decode cL_law 1021 = .ok (.iconst 2, 1) := by decide +kernel
theorem dL_law_1022 : decode cL_law 1022 = .ok (.iadd, 1) := by decide +kernel
theorem dL_law_1023 : decode cL_law 1023 = .ok (.iaload, 1) := by decide +kernel
theorem dL_law_1024 : decode cL_law 1024 = .ok (.aload_n 0, 1) := by decide +kernel
theorem dL_law_1025 : decode cL_law 1025 = .ok (.iload_n 3, 1) := by decide +kernel
theorem dL_law_1026 : decode cL_law 1026 = .ok (.iconst 3, 1) := by decide +kernel
theorem dL_law_1027 : decode cL_law 1027 = .ok (.iadd, 1) := by decide +kernel
theorem dL_law_1028 : decode cL_law 1028 = .ok (.iaload, 1) := by decide +kernel
theorem dL_law_1029 : decode cL_law 1029 = .ok (.invokevirtual 102, 3) := by decide +kernel
theorem dL_law_1032 : decode cL_law 1032 = .ok (.aload_n 2, 1) := by decide +kernel
theorem dL_law_1033 : decode cL_law 1033 = .ok (.aload_n 0, 1) := by decide +kernel
theorem dL_law_1034 : decode cL_law 1034 = .ok (.iload_n 3, 1) := by decide +kernel
theorem dL_law_1035 : decode cL_law 1035 = .ok (.iconst 1, 1) := by decide +kernel
theorem dL_law_1036 : decode cL_law 1036 = .ok (.iadd, 1) := by decide +kernel
theorem dL_law_1037 : decode cL_law 1037 = .ok (.iaload, 1) := by decide +kernel
theorem dL_law_1038 : decode cL_law 1038 = .ok (.aload_n 0, 1) := by decide +kernel
theorem dL_law_1039 : decode cL_law 1039 = .ok (.iload_n 3, 1) := by decide +kernel
theorem dL_law_1040 : decode cL_law 1040 = .ok (.iconst 2, 1) := by decide +kernel
theorem dL_law_1041 : decode cL_law 1041 = .ok (.iadd, 1) := by decide +kernel
theorem dL_law_1042 : decode cL_law 1042 = .ok (.iaload, 1) := by decide +kernel
theorem dL_law_1043 : decode cL_law 1043 = .ok (.aload_n 0, 1) := by decide +kernel
theorem dL_law_1044 : decode cL_law 1044 = .ok (.iload_n 3, 1) := by decide +kernel
theorem dL_law_1045 : decode cL_law 1045 = .ok (.iconst 3, 1) := by decide +kernel
theorem dL_law_1046 : decode cL_law 1046 = .ok (.iadd, 1) := by decide +kernel
theorem dL_law_1047 : decode cL_law 1047 = .ok (.iaload, 1) := by decide +kernel
theorem dL_law_1048 : decode cL_law 1048 = .ok (.invokevirtual 105, 3) := by decide +kernel
theorem dL_law_1051 : decode cL_law 1051 = .ok (.if_icmp .eq 878, 3) := by decide +kernel
theorem dL_law_1054 : decode cL_law 1054 = .ok (.iconst 0, 1) := by decide +kernel
theorem dL_law_1055 : decode cL_law 1055 = .ok (.ireturn, 1) := by decide +kernel
theorem dL_law_1056 : decode cL_law 1056 = .ok (.aload_n 1, 1) := by decide +kernel
theorem dL_law_1057 : decode cL_law 1057 = .ok (.aload_n 0, 1) := by decide +kernel
theorem dL_law_1058 : decode cL_law 1058 = .ok (.iload_n 3, 1) := by decide +kernel
theorem dL_law_1059 : decode cL_law 1059 = .ok (.iconst 1, 1) := by decide +kernel
theorem dL_law_1060 : decode cL_law 1060 = .ok (.iadd, 1) := by decide +kernel
theorem dL_law_1061 : decode cL_law 1061 = .ok (.iaload, 1) := by decide +kernel
theorem dL_law_1062 : decode cL_law 1062 = .ok (.aload_n 0, 1) := by decide +kernel
theorem dL_law_1063 : decode cL_law 1063 = .ok (.iload_n 3, 1) := by decide +kernel
theorem dL_law_1064 : decode cL_law 1064 = .ok (.iconst 2, 1) := by decide +kernel
theorem dL_law_1065 : decode cL_law 1065 = .ok (.iadd, 1) := by decide +kernel
theorem dL_law_1066 : decode cL_law 1066 = .ok (.iaload, 1) := by decide +kernel
theorem dL_law_1067 : decode cL_law 1067 = .ok (.aload_n 0, 1) := by decide +kernel
theorem dL_law_1068 : decode cL_law 1068 = .ok (.iload_n 3, 1) := by decide +kernel
theorem dL_law_1069 : decode cL_law 1069 = .ok (.iconst 3, 1) := by decide +kernel
theorem dL_law_1070 : decode cL_law 1070 = .ok (.iadd, 1) := by decide +kernel
theorem dL_law_1071 : decode cL_law 1071 = .ok (.iaload, 1) := by decide +kernel
theorem dL_law_1072 : decode cL_law 1072 = .ok (.invokevirtual 106, 3) := by decide +kernel
theorem dL_law_1075 : decode cL_law 1075 = .ok (.aload_n 2, 1) := by decide +kernel
theorem dL_law_1076 : decode cL_law 1076 = .ok (.aload_n 0, 1) := by decide +kernel
theorem dL_law_1077 : decode cL_law 1077 = .ok (.iload_n 3, 1) := by decide +kernel
theorem dL_law_1078 : decode cL_law 1078 = .ok (.iconst 1, 1) := by decide +kernel
theorem dL_law_1079 : decode cL_law 1079 = .ok (.iadd, 1) := by decide +kernel
theorem dL_law_1080 : decode cL_law 1080 = .ok (.iaload, 1) := by decide +kernel
theorem dL_law_1081 : decode cL_law 1081 = .ok (.aload_n 0, 1) := by decide +kernel
theorem dL_law_1082 : decode cL_law 1082 = .ok (.iload_n 3, 1) := by decide +kernel
theorem dL_law_1083 : decode cL_law 1083 = .ok (.iconst 2, 1) := by decide +kernel
theorem dL_law_1084 : decode cL_law 1084 = .ok (.iadd, 1) := by decide +kernel
theorem dL_law_1085 : decode cL_law 1085 = .ok (.iaload, 1) := by decide +kernel
theorem dL_law_1086 : decode cL_law 1086 = .ok (.aload_n 0, 1) := by decide +kernel
theorem dL_law_1087 : decode cL_law 1087 = .ok (.iload_n 3, 1) := by decide +kernel
theorem dL_law_1088 : decode cL_law 1088 = .ok (.iconst 3, 1) := by decide +kernel
theorem dL_law_1089 : decode cL_law 1089 = .ok (.iadd, 1) := by decide +kernel
theorem dL_law_1090 : decode cL_law 1090 = .ok (.iaload, 1) := by decide +kernel
theorem dL_law_1091 : decode cL_law 1091 = .ok (.invokevirtual 109, 3) := by decide +kernel
theorem dL_law_1094 : decode cL_law 1094 = .ok (.if_icmp .eq 835, 3) := by decide +kernel
theorem dL_law_1097 : decode cL_law 1097 = .ok (.iconst 0, 1) := by decide +kernel
theorem dL_law_1098 : decode cL_law 1098 = .ok (.ireturn, 1) := by decide +kernel
theorem dL_law_1099 : decode cL_law 1099 = .ok (.aload_n 1, 1) := by decide +kernel
theorem dL_law_1100 : decode cL_law 1100 = .ok (.aload_n 0, 1) := by decide +kernel
theorem dL_law_1101 : decode cL_law 1101 = .ok (.iload_n 3, 1) := by decide +kernel
theorem dL_law_1102 : decode cL_law 1102 = .ok (.iconst 1, 1) := by decide +kernel
theorem dL_law_1103 : decode cL_law 1103 = .ok (.iadd, 1) := by decide +kernel
theorem dL_law_1104 : decode cL_law 1104 = .ok (.iaload, 1) := by decide +kernel
theorem dL_law_1105 : decode cL_law 1105 = .ok (.aload_n 0, 1) := by decide +kernel
theorem dL_law_1106 : decode cL_law 1106 = .ok (.iload_n 3, 1) := by decide +kernel
theorem dL_law_1107 : decode cL_law 1107 = .ok (.iconst 2, 1) := by decide +kernel
theorem dL_law_1108 : decode cL_law 1108 = .ok (.iadd, 1) := by decide +kernel
theorem dL_law_1109 : decode cL_law 1109 = .ok (.iaload, 1) := by decide +kernel
theorem dL_law_1110 : decode cL_law 1110 = .ok (.aload_n 0, 1) := by decide +kernel
theorem dL_law_1111 : decode cL_law 1111 = .ok (.iload_n 3, 1) := by decide +kernel
theorem dL_law_1112 : decode cL_law 1112 = .ok (.iconst 3, 1) := by decide +kernel
theorem dL_law_1113 : decode cL_law 1113 = .ok (.iadd, 1) := by decide +kernel
theorem dL_law_1114 : decode cL_law 1114 = .ok (.iaload, 1) := by decide +kernel
theorem dL_law_1115 : decode cL_law 1115 = .ok (.invokevirtual 110, 3) := by decide +kernel
theorem dL_law_1118 : decode cL_law 1118 = .ok (.aload_n 2, 1) := by decide +kernel
theorem dL_law_1119 : decode cL_law 1119 = .ok (.aload_n 0, 1) := by decide +kernel
theorem dL_law_1120 : decode cL_law 1120 = .ok (.iload_n 3, 1) := by decide +kernel
theorem dL_law_1121 : decode cL_law 1121 = .ok (.iconst 1, 1) := by decide +kernel
theorem dL_law_1122 : decode cL_law 1122 = .ok (.iadd, 1) := by decide +kernel
theorem dL_law_1123 : decode cL_law 1123 = .ok (.iaload, 1) := by decide +kernel
theorem dL_law_1124 : decode cL_law 1124 = .ok (.aload_n 0, 1) := by decide +kernel
theorem dL_law_1125 : decode cL_law 1125 = .ok (.iload_n 3, 1) := by decide +kernel
theorem dL_law_1126 : decode cL_law 1126 = .ok (.iconst 2, 1) := by decide +kernel
theorem dL_law_1127 : decode cL_law 1127 = .ok (.iadd, 1) := by decide +kernel
theorem dL_law_1128 : decode cL_law 1128 = .ok (.iaload, 1) := by decide +kernel
theorem dL_law_1129 : decode cL_law 1129 = .ok (.aload_n 0, 1) := by decide +kernel
theorem dL_law_1130 : decode cL_law 1130 = .ok (.iload_n 3, 1) := by decide +kernel
theorem dL_law_1131 : decode cL_law 1131 = .ok (.iconst 3, 1) := by decide +kernel
theorem dL_law_1132 : decode cL_law 1132 = .ok (.iadd, 1) := by decide +kernel
theorem dL_law_1133 : decode cL_law 1133 = .ok (.iaload, 1) := by decide +kernel
theorem dL_law_1134 : decode cL_law 1134 = .ok (.invokevirtual 113, 3) := by decide +kernel
theorem dL_law_1137 : decode cL_law 1137 = .ok (.if_icmp .eq 792, 3) := by decide +kernel
theorem dL_law_1140 : decode cL_law 1140 = .ok (.iconst 0, 1) := by decide +kernel
theorem dL_law_1141 : decode cL_law 1141 = .ok (.ireturn, 1) := by decide +kernel
theorem dL_law_1142 : decode cL_law 1142 = .ok (.aload_n 1, 1) := by decide +kernel
theorem dL_law_1143 : decode cL_law 1143 = .ok (.aload_n 0, 1) := by decide +kernel
theorem dL_law_1144 : decode cL_law 1144 = .ok (.iload_n 3, 1) := by decide +kernel
theorem dL_law_1145 : decode cL_law 1145 = .ok (.iconst 1, 1) := by decide +kernel
theorem dL_law_1146 : decode cL_law 1146 = .ok (.iadd, 1) := by decide +kernel
theorem dL_law_1147 : decode cL_law 1147 = .ok (.iaload, 1) := by decide +kernel
theorem dL_law_1148 : decode cL_law 1148 = .ok (.aload_n 0, 1) := by decide +kernel
theorem dL_law_1149 : decode cL_law 1149 = .ok (.iload_n 3, 1) := by decide +kernel
theorem dL_law_1150 : decode cL_law 1150 = .ok (.iconst 2, 1) := by decide +kernel
theorem dL_law_1151 : decode cL_law 1151 = .ok (.iadd, 1) := by decide +kernel
theorem dL_law_1152 : decode cL_law 1152 = .ok (.iaload, 1) := by decide +kernel
theorem dL_law_1153 : decode cL_law 1153 = .ok (.invokevirtual 114, 3) := by decide +kernel
theorem dL_law_1156 : decode cL_law 1156 = .ok (.aload_n 2, 1) := by decide +kernel
theorem dL_law_1157 : decode cL_law 1157 = .ok (.aload_n 0, 1) := by decide +kernel
theorem dL_law_1158 : decode cL_law 1158 = .ok (.iload_n 3, 1) := by decide +kernel
theorem dL_law_1159 : decode cL_law 1159 = .ok (.iconst 1, 1) := by decide +kernel
theorem dL_law_1160 : decode cL_law 1160 = .ok (.iadd, 1) := by decide +kernel
theorem dL_law_1161 : decode cL_law 1161 = .ok (.iaload, 1) := by decide +kernel
theorem dL_law_1162 : decode cL_law 1162 = .ok (.aload_n 0, 1) := by decide +kernel
theorem dL_law_1163 : decode cL_law 1163 = .ok (.iload_n 3, 1) := by decide +kernel
theorem dL_law_1164 : decode cL_law 1164 = .ok (.iconst 2, 1) := by decide +kernel
theorem dL_law_1165 : decode cL_law 1165 = .ok (.iadd, 1) := by decide +kernel
theorem dL_law_1166 : decode cL_law 1166 = .ok (.iaload, 1) := by decide +kernel
theorem dL_law_1167 : decode cL_law 1167 = .ok (.invokevirtual 117, 3) := by decide +kernel
theorem dL_law_1170 : decode cL_law 1170 = .ok (.if_icmp .eq 759, 3) := by decide +kernel
theorem dL_law_1173 : decode cL_law 1173 = .ok (.iconst 0, 1) := by decide +kernel
theorem dL_law_1174 : decode cL_law 1174 = .ok (.ireturn, 1) := by decide +kernel
theorem dL_law_1175 : decode cL_law 1175 = .ok (.aload_n 1, 1) := by decide +kernel
theorem dL_law_1176 : decode cL_law 1176 = .ok (.aload_n 0, 1) := by decide +kernel
theorem dL_law_1177 : decode cL_law 1177 = .ok (.iload_n 3, 1) := by decide +kernel
theorem dL_law_1178 : decode cL_law 1178 = .ok (.iconst 1, 1) := by decide +kernel
theorem dL_law_1179 : decode cL_law 1179 = .ok (.iadd, 1) := by decide +kernel
theorem dL_law_1180 : decode cL_law 1180 = .ok (.iaload, 1) := by decide +kernel
theorem dL_law_1181 : decode cL_law 1181 = .ok (.aload_n 0, 1) := by decide +kernel
theorem dL_law_1182 : decode cL_law 1182 = .ok (.iload_n 3, 1) := by decide +kernel
theorem dL_law_1183 : decode cL_law 1183 = .ok (.iconst 2, 1) := by decide +kernel
theorem dL_law_1184 : decode cL_law 1184 = .ok (.iadd, 1) := by decide +kernel
theorem dL_law_1185 : decode cL_law 1185 = .ok (.iaload, 1) := by decide +kernel
theorem dL_law_1186 : decode cL_law 1186 = .ok (.invokevirtual 118, 3) := by decide +kernel
theorem dL_law_1189 : decode cL_law 1189 = .ok (.aload_n 2, 1) := by decide +kernel
theorem dL_law_1190 : decode cL_law 1190 = .ok (.aload_n 0, 1) := by decide +kernel
theorem dL_law_1191 : decode cL_law 1191 = .ok (.iload_n 3, 1) := by decide +kernel
theorem dL_law_1192 : decode cL_law 1192 = .ok (.iconst 1, 1) := by decide +kernel
theorem dL_law_1193 : decode cL_law 1193 = .ok (.iadd, 1) := by decide +kernel
theorem dL_law_1194 : decode cL_law 1194 = .ok (.iaload, 1) := by decide +kernel
theorem dL_law_1195 : decode cL_law 1195 = .ok (.aload_n 0, 1) := by decide +kernel
theorem dL_law_1196 : decode cL_law 1196 = .ok (.iload_n 3, 1) := by decide +kernel
theorem dL_law_1197 : decode cL_law 1197 = .ok (.iconst 2, 1) := by decide +kernel
theorem dL_law_1198 : decode cL_law 1198 = .ok (.iadd, 1) := by decide +kernel
theorem dL_law_1199 : decode cL_law 1199 = .ok (.iaload, 1) := by decide +kernel
theorem dL_law_1200 : decode cL_law 1200 = .ok (.invokevirtual 121, 3) := by decide +kernel
theorem dL_law_1203 : decode cL_law 1203 = .ok (.if_icmp .eq 726, 3) := by decide +kernel
theorem dL_law_1206 : decode cL_law 1206 = .ok (.iconst 0, 1) := by decide +kernel
theorem dL_law_1207 : decode cL_law 1207 = .ok (.ireturn, 1) := by decide +kernel
theorem dL_law_1208 : decode cL_law 1208 = .ok (.aload_n 1, 1) := by decide +kernel
theorem dL_law_1209 : decode cL_law 1209 = .ok (.aload_n 0, 1) := by decide +kernel
theorem dL_law_1210 : decode cL_law 1210 = .ok (.iload_n 3, 1) := by decide +kernel
theorem dL_law_1211 : decode cL_law 1211 = .ok (.iconst 1, 1) := by decide +kernel
theorem dL_law_1212 : decode cL_law 1212 = .ok (.iadd, 1) := by decide +kernel
theorem dL_law_1213 : decode cL_law 1213 = .ok (.iaload, 1) := by decide +kernel
theorem dL_law_1214 : decode cL_law 1214 = .ok (.aload_n 0, 1) := by decide +kernel
theorem dL_law_1215 : decode cL_law 1215 = .ok (.iload_n 3, 1) := by decide +kernel
theorem dL_law_1216 : decode cL_law 1216 = .ok (.iconst 2, 1) := by decide +kernel
theorem dL_law_1217 : decode cL_law 1217 = .ok (.iadd, 1) := by decide +kernel
theorem dL_law_1218 : decode cL_law 1218 = .ok (.iaload, 1) := by decide +kernel
theorem dL_law_1219 : decode cL_law 1219 = .ok (.invokevirtual 122, 3) := by decide +kernel
theorem dL_law_1222 : decode cL_law 1222 = .ok (.aload_n 2, 1) := by decide +kernel
theorem dL_law_1223 : decode cL_law 1223 = .ok (.aload_n 0, 1) := by decide +kernel
theorem dL_law_1224 : decode cL_law 1224 = .ok (.iload_n 3, 1) := by decide +kernel
theorem dL_law_1225 : decode cL_law 1225 = .ok (.iconst 1, 1) := by decide +kernel
theorem dL_law_1226 : decode cL_law 1226 = .ok (.iadd, 1) := by decide +kernel
theorem dL_law_1227 : decode cL_law 1227 = .ok (.iaload, 1) := by decide +kernel
theorem dL_law_1228 : decode cL_law 1228 = .ok (.aload_n 0, 1) := by decide +kernel
theorem dL_law_1229 : decode cL_law 1229 = .ok (.iload_n 3, 1) := by decide +kernel
theorem dL_law_1230 : decode cL_law 1230 = .ok (.iconst 2, 1) := by decide +kernel
theorem dL_law_1231 : decode cL_law 1231 = .ok (.iadd, 1) := by decide +kernel
theorem dL_law_1232 : decode cL_law 1232 = .ok (.iaload, 1) := by decide +kernel
theorem dL_law_1233 : decode cL_law 1233 = .ok (.invokevirtual 125, 3) := by decide +kernel
theorem dL_law_1236 : decode cL_law 1236 = .ok (.if_icmp .eq 693, 3) := by decide +kernel
theorem dL_law_1239 : decode cL_law 1239 = .ok (.iconst 0, 1) := by decide +kernel
theorem dL_law_1240 : decode cL_law 1240 = .ok (.ireturn, 1) := by decide +kernel
theorem dL_law_1241 : decode cL_law 1241 = .ok (.aload_n 1, 1) := by decide +kernel
theorem dL_law_1242 : decode cL_law 1242 = .ok (.invokevirtual 126, 3) := by decide +kernel
theorem dL_law_1245 : decode cL_law 1245 = .ok (.aload_n 2, 1) := by decide +kernel
theorem dL_law_1246 : decode cL_law 1246 = .ok (.invokevirtual 130, 3) := by decide +kernel
theorem dL_law_1249 : decode cL_law 1249 = .ok (.if_icmp .eq 680, 3) := by decide +kernel
theorem dL_law_1252 : decode cL_law 1252 = .ok (.iconst 0, 1) := by decide +kernel
theorem dL_law_1253 : decode cL_law 1253 = .ok (.ireturn, 1) := by decide +kernel
theorem dL_law_1254 : decode cL_law 1254 = .ok (.aload_n 1, 1) := by decide +kernel
theorem dL_law_1255 : decode cL_law 1255 = .ok (.aload_n 0, 1) := by decide +kernel
theorem dL_law_1256 : decode cL_law 1256 = .ok (.iload_n 3, 1) := by decide +kernel
theorem dL_law_1257 : decode cL_law 1257 = .ok (.iconst 1, 1) := by decide +kernel
theorem dL_law_1258 : decode cL_law 1258 = .ok (.iadd, 1) := by decide +kernel
theorem dL_law_1259 : decode cL_law 1259 = .ok (.iaload, 1) := by decide +kernel
theorem dL_law_1260 : decode cL_law 1260 = .ok (.invokevirtual 131, 3) := by decide +kernel
theorem dL_law_1263 : decode cL_law 1263 = .ok (.aload_n 2, 1) := by decide +kernel
theorem dL_law_1264 : decode cL_law 1264 = .ok (.aload_n 0, 1) := by decide +kernel
theorem dL_law_1265 : decode cL_law 1265 = .ok (.iload_n 3, 1) := by decide +kernel
theorem dL_law_1266 : decode cL_law 1266 = .ok (.iconst 1, 1) := by decide +kernel
theorem dL_law_1267 : decode cL_law 1267 = .ok (.iadd, 1) := by decide +kernel
theorem dL_law_1268 : decode cL_law 1268 = .ok (.iaload, 1) := by decide +kernel
theorem dL_law_1269 : decode cL_law 1269 = .ok (.invokevirtual 134, 3) := by decide +kernel
theorem dL_law_1272 : decode cL_law 1272 = .ok (.if_icmp .eq 657, 3) := by decide +kernel
theorem dL_law_1275 : decode cL_law 1275 = .ok (.iconst 0, 1) := by decide +kernel
theorem dL_law_1276 : decode cL_law 1276 = .ok (.ireturn, 1) := by decide +kernel
theorem dL_law_1277 : decode cL_law 1277 = .ok (.aload_n 1, 1) := by decide +kernel
theorem dL_law_1278 : decode cL_law 1278 = .ok (.aload_n 0, 1) := by decide +kernel
theorem dL_law_1279 : decode cL_law 1279 = .ok (.iload_n 3, 1) := by decide +kernel
theorem dL_law_1280 : decode cL_law 1280 = .ok (.iconst 1, 1) := by decide +kernel
theorem dL_law_1281 : decode cL_law 1281 = .ok (.iadd, 1) := by decide +kernel
theorem dL_law_1282 : decode cL_law 1282 = .ok (.iaload, 1) := by decide +kernel
theorem dL_law_1283 : decode cL_law 1283 = .ok (.aload_n 0, 1) := by decide +kernel
theorem dL_law_1284 : decode cL_law 1284 = .ok (.iload_n 3, 1) := by decide +kernel
theorem dL_law_1285 : decode cL_law 1285 = .ok (.iconst 2, 1) := by decide +kernel
theorem dL_law_1286 : decode cL_law 1286 = .ok (.iadd, 1) := by decide +kernel
theorem dL_law_1287 : decode cL_law 1287 = .ok (.iaload, 1) := by decide +kernel
theorem dL_law_1288 : decode cL_law 1288 = .ok (.invokevirtual 135, 3) := by decide +kernel
theorem dL_law_1291 : decode cL_law 1291 = .ok (.aload_n 2, 1) := by decide +kernel
theorem dL_law_1292 : decode cL_law 1292 = .ok (.aload_n 0, 1) := by decide +kernel
theorem dL_law_1293 : decode cL_law 1293 = .ok (.iload_n 3, 1) := by decide +kernel
theorem dL_law_1294 : decode cL_law 1294 = .ok (.iconst 1, 1) := by decide +kernel
theorem dL_law_1295 : decode cL_law 1295 = .ok (.iadd, 1) := by decide +kernel
theorem dL_law_1296 : decode cL_law 1296 = .ok (.iaload, 1) := by decide +kernel
theorem dL_law_1297 : decode cL_law 1297 = .ok (.aload_n 0, 1) := by decide +kernel
theorem dL_law_1298 : decode cL_law 1298 = .ok (.iload_n 3, 1) := by decide +kernel
theorem dL_law_1299 : decode cL_law 1299 = .ok (.iconst 2, 1) := by decide +kernel
theorem dL_law_1300 : decode cL_law 1300 = .ok (.iadd, 1) := by decide +kernel
theorem dL_law_1301 : decode cL_law 1301 = .ok (.iaload, 1) := by decide +kernel
theorem dL_law_1302 : decode cL_law 1302 = .ok (.invokevirtual 138, 3) := by decide +kernel
theorem dL_law_1305 : decode cL_law 1305 = .ok (.if_icmp .eq 624, 3) := by decide +kernel
theorem dL_law_1308 : decode cL_law 1308 = .ok (.iconst 0, 1) := by decide +kernel
theorem dL_law_1309 : decode cL_law 1309 = .ok (.ireturn, 1) := by decide +kernel
theorem dL_law_1310 : decode cL_law 1310 = .ok (.aload_n 1, 1) := by decide +kernel
theorem dL_law_1311 : decode cL_law 1311 = .ok (.aload_n 0, 1) := by decide +kernel
theorem dL_law_1312 : decode cL_law 1312 = .ok (.iload_n 3, 1) := by decide +kernel
theorem dL_law_1313 : decode cL_law 1313 = .ok (.iconst 1, 1) := by decide +kernel
theorem dL_law_1314 : decode cL_law 1314 = .ok (.iadd, 1) := by decide +kernel
theorem dL_law_1315 : decode cL_law 1315 = .ok (.iaload, 1) := by decide +kernel
theorem dL_law_1316 : decode cL_law 1316 = .ok (.aload_n 0, 1) := by decide +kernel
theorem dL_law_1317 : decode cL_law 1317 = .ok (.iload_n 3, 1) := by decide +kernel
theorem dL_law_1318 : decode cL_law 1318 = .ok (.iconst 2, 1) := by decide +kernel
theorem dL_law_1319 : decode cL_law 1319 = .ok (.iadd, 1) := by decide +kernel
theorem dL_law_1320 : decode cL_law 1320 = .ok (.iaload, 1) := by decide +kernel
theorem dL_law_1321 : decode cL_law 1321 = .ok (.invokevirtual 139, 3) := by decide +kernel
theorem dL_law_1324 : decode cL_law 1324 = .ok (.aload_n 2, 1) := by decide +kernel
theorem dL_law_1325 : decode cL_law 1325 = .ok (.aload_n 0, 1) := by decide +kernel
theorem dL_law_1326 : decode cL_law 1326 = .ok (.iload_n 3, 1) := by decide +kernel
theorem dL_law_1327 : decode cL_law 1327 = .ok (.iconst 1, 1) := by decide +kernel
theorem dL_law_1328 : decode cL_law 1328 = .ok (.iadd, 1) := by decide +kernel
theorem dL_law_1329 : decode cL_law 1329 = .ok (.iaload, 1) := by decide +kernel
theorem dL_law_1330 : decode cL_law 1330 = .ok (.aload_n 0, 1) := by decide +kernel
theorem dL_law_1331 : decode cL_law 1331 = .ok (.iload_n 3, 1) := by decide +kernel
theorem dL_law_1332 : decode cL_law 1332 = .ok (.iconst 2, 1) := by decide +kernel
theorem dL_law_1333 : decode cL_law 1333 = .ok (.iadd, 1) := by decide +kernel
theorem dL_law_1334 : decode cL_law 1334 = .ok (.iaload, 1) := by decide +kernel
theorem dL_law_1335 : decode cL_law 1335 = .ok (.invokevirtual 142, 3) := by decide +kernel
theorem dL_law_1338 : decode cL_law 1338 = .ok (.if_icmp .eq 591, 3) := by decide +kernel
theorem dL_law_1341 : decode cL_law 1341 = .ok (.iconst 0, 1) := by decide +kernel
theorem dL_law_1342 : decode cL_law 1342 = .ok (.ireturn, 1) := by decide +kernel
theorem dL_law_1343 : decode cL_law 1343 = .ok (.aload_n 1, 1) := by decide +kernel
theorem dL_law_1344 : decode cL_law 1344 = .ok (.aload_n 0, 1) := by decide +kernel
theorem dL_law_1345 : decode cL_law 1345 = .ok (.iload_n 3, 1) := by decide +kernel
theorem dL_law_1346 : decode cL_law 1346 = .ok (.iconst 1, 1) := by decide +kernel
theorem dL_law_1347 : decode cL_law 1347 = .ok (.iadd, 1) := by decide +kernel
theorem dL_law_1348 : decode cL_law 1348 = .ok (.iaload, 1) := by decide +kernel
theorem dL_law_1349 : decode cL_law 1349 = .ok (.aload_n 0, 1) := by decide +kernel
theorem dL_law_1350 : decode cL_law 1350 = .ok (.iload_n 3, 1) := by decide +kernel
theorem dL_law_1351 : decode cL_law 1351 = .ok (.iconst 2, 1) := by decide +kernel
theorem dL_law_1352 : decode cL_law 1352 = .ok (.iadd, 1) := by decide +kernel
theorem dL_law_1353 : decode cL_law 1353 = .ok (.iaload, 1) := by decide +kernel
theorem dL_law_1354 : decode cL_law 1354 = .ok (.ifCond .eq 7, 3) := by decide +kernel
theorem dL_law_1357 : decode cL_law 1357 = .ok (.iconst 1, 1) := by decide +kernel
theorem dL_law_1358 : decode cL_law 1358 = .ok (.goto 4, 3) := by decide +kernel
theorem dL_law_1361 : decode cL_law 1361 = .ok (.iconst 0, 1) := by decide +kernel
theorem dL_law_1362 : decode cL_law 1362 = .ok (.invokevirtual 143, 3) := by decide +kernel
theorem dL_law_1365 : decode cL_law 1365 = .ok (.aload_n 2, 1) := by decide +kernel
theorem dL_law_1366 : decode cL_law 1366 = .ok (.aload_n 0, 1) := by decide +kernel
theorem dL_law_1367 : decode cL_law 1367 = .ok (.iload_n 3, 1) := by decide +kernel
theorem dL_law_1368 : decode cL_law 1368 = .ok (.iconst 1, 1) := by decide +kernel
theorem dL_law_1369 : decode cL_law 1369 = .ok (.iadd, 1) := by decide +kernel
theorem dL_law_1370 : decode cL_law 1370 = .ok (.iaload, 1) := by decide +kernel
theorem dL_law_1371 : decode cL_law 1371 = .ok (.aload_n 0, 1) := by decide +kernel
theorem dL_law_1372 : decode cL_law 1372 = .ok (.iload_n 3, 1) := by decide +kernel
theorem dL_law_1373 : decode cL_law 1373 = .ok (.iconst 2, 1) := by decide +kernel
theorem dL_law_1374 : decode cL_law 1374 = .ok (.iadd, 1) := by decide +kernel
theorem dL_law_1375 : decode cL_law 1375 = .ok (.iaload, 1) := by decide +kernel
theorem dL_law_1376 : decode cL_law 1376 = .ok (.ifCond .eq 7, 3) := by decide +kernel
theorem dL_law_1379 : decode cL_law 1379 = .ok (.iconst 1, 1) := by decide +kernel
theorem dL_law_1380 : decode cL_law 1380 = .ok (.goto 4, 3) := by decide +kernel
theorem dL_law_1383 : decode cL_law 1383 = .ok (.iconst 0, 1) := by decide +kernel
theorem dL_law_1384 : decode cL_law 1384 = .ok (.invokevirtual 147, 3) := by decide +kernel
theorem dL_law_1387 : decode cL_law 1387 = .ok (.if_icmp .eq 542, 3) := by decide +kernel
theorem dL_law_1390 : decode cL_law 1390 = .ok (.iconst 0, 1) := by decide +kernel
theorem dL_law_1391 : decode cL_law 1391 = .ok (.ireturn, 1) := by decide +kernel
theorem dL_law_1392 : decode cL_law 1392 = .ok (.aload_n 1, 1) := by decide +kernel
theorem dL_law_1393 : decode cL_law 1393 = .ok (.invokevirtual 148, 3) := by decide +kernel
theorem dL_law_1396 : decode cL_law 1396 = .ok (.aload_n 2, 1) := by decide +kernel
theorem dL_law_1397 : decode cL_law 1397 = .ok (.invokevirtual 151, 3) := by decide +kernel
theorem dL_law_1400 : decode cL_law 1400 = .ok (.if_icmp .eq 529, 3) := by decide +kernel
theorem dL_law_1403 : decode cL_law 1403 = .ok (.iconst 0, 1) := by decide +kernel
theorem dL_law_1404 : decode cL_law 1404 = .ok (.ireturn, 1) := by decide +kernel
theorem dL_law_1405 : decode cL_law 1405 = .ok (.aload_n 1, 1) := by decide +kernel
theorem dL_law_1406 : decode cL_law 1406 = .ok (.aload_n 0, 1) := by decide +kernel
theorem dL_law_1407 : decode cL_law 1407 = .ok (.iload_n 3, 1) := by decide +kernel
theorem dL_law_1408 : decode cL_law 1408 = .ok (.iconst 1, 1) := by decide +kernel
theorem dL_law_1409 : decode cL_law 1409 = .ok (.iadd, 1) := by decide +kernel
theorem dL_law_1410 : decode cL_law 1410 = .ok (.iaload, 1) := by decide +kernel
theorem dL_law_1411 : decode cL_law 1411 = .ok (.aload_n 0, 1) := by decide +kernel
theorem dL_law_1412 : decode cL_law 1412 = .ok (.iload_n 3, 1) := by decide +kernel
theorem dL_law_1413 : decode cL_law 1413 = .ok (.iconst 2, 1) := by decide +kernel
theorem dL_law_1414 : decode cL_law 1414 = .ok (.iadd, 1) := by decide +kernel
theorem dL_law_1415 : decode cL_law 1415 = .ok (.iaload, 1) := by decide +kernel
theorem dL_law_1416 : decode cL_law 1416 = .ok (.invokevirtual 152, 3) := by decide +kernel
theorem dL_law_1419 : decode cL_law 1419 = .ok (.aload_n 2, 1) := by decide +kernel
theorem dL_law_1420 : decode cL_law 1420 = .ok (.aload_n 0, 1) := by decide +kernel
theorem dL_law_1421 : decode cL_law 1421 = .ok (.iload_n 3, 1) := by decide +kernel
theorem dL_law_1422 : decode cL_law 1422 = .ok (.iconst 1, 1) := by decide +kernel
theorem dL_law_1423 : decode cL_law 1423 = .ok (.iadd, 1) := by decide +kernel
theorem dL_law_1424 : decode cL_law 1424 = .ok (.iaload, 1) := by decide +kernel
theorem dL_law_1425 : decode cL_law 1425 = .ok (.aload_n 0, 1) := by decide +kernel
theorem dL_law_1426 : decode cL_law 1426 = .ok (.iload_n 3, 1) := by decide +kernel
theorem dL_law_1427 : decode cL_law 1427 = .ok (.iconst 2, 1) := by decide +kernel
theorem dL_law_1428 : decode cL_law 1428 = .ok (.iadd, 1) := by decide +kernel
theorem dL_law_1429 : decode cL_law 1429 = .ok (.iaload, 1) := by decide +kernel
theorem dL_law_1430 : decode cL_law 1430 = .ok (.invokevirtual 155, 3) := by decide +kernel
theorem dL_law_1433 : decode cL_law 1433 = .ok (.if_icmp .eq 496, 3) := by decide +kernel
theorem dL_law_1436 : decode cL_law 1436 = .ok (.iconst 0, 1) := by decide +kernel
theorem dL_law_1437 : decode cL_law 1437 = .ok (.ireturn, 1) := by decide +kernel
theorem dL_law_1438 : decode cL_law 1438 = .ok (.aload_n 1, 1) := by decide +kernel
theorem dL_law_1439 : decode cL_law 1439 = .ok (.aload_n 0, 1) := by decide +kernel
theorem dL_law_1440 : decode cL_law 1440 = .ok (.iload_n 3, 1) := by decide +kernel
theorem dL_law_1441 : decode cL_law 1441 = .ok (.iconst 1, 1) := by decide +kernel
theorem dL_law_1442 : decode cL_law 1442 = .ok (.iadd, 1) := by decide +kernel
theorem dL_law_1443 : decode cL_law 1443 = .ok (.iaload, 1) := by decide +kernel
theorem dL_law_1444 : decode cL_law 1444 = .ok (.invokevirtual 156, 3) := by decide +kernel
theorem dL_law_1447 : decode cL_law 1447 = .ok (.aload_n 2, 1) := by decide +kernel
theorem dL_law_1448 : decode cL_law 1448 = .ok (.aload_n 0, 1) := by decide +kernel
theorem dL_law_1449 : decode cL_law 1449 = .ok (.iload_n 3, 1) := by decide +kernel
theorem dL_law_1450 : decode cL_law 1450 = .ok (.iconst 1, 1) := by decide +kernel
theorem dL_law_1451 : decode cL_law 1451 = .ok (.iadd, 1) := by decide +kernel
theorem dL_law_1452 : decode cL_law 1452 = .ok (.iaload, 1) := by decide +kernel
theorem dL_law_1453 : decode cL_law 1453 = .ok (.invokevirtual 159, 3) := by decide +kernel
theorem dL_law_1456 : decode cL_law 1456 = .ok (.if_icmp .eq 473, 3) := by decide +kernel
theorem dL_law_1459 : decode cL_law 1459 = .ok (.iconst 0, 1) := by decide +kernel
theorem dL_law_1460 : decode cL_law 1460 = .ok (.ireturn, 1) := by decide +kernel
theorem dL_law_1461 : decode cL_law 1461 = .ok (.aload_n 1, 1) := by decide +kernel
theorem dL_law_1462 : decode cL_law 1462 = .ok (.aload_n 0, 1) := by decide +kernel
theorem dL_law_1463 : decode cL_law 1463 = .ok (.iload_n 3, 1) := by decide +kernel
theorem dL_law_1464 : decode cL_law 1464 = .ok (.iconst 1, 1) := by decide +kernel
theorem dL_law_1465 : decode cL_law 1465 = .ok (.iadd, 1) := by decide +kernel
theorem dL_law_1466 : decode cL_law 1466 = .ok (.iaload, 1) := by decide +kernel
theorem dL_law_1467 : decode cL_law 1467 = .ok (.aload_n 0, 1) := by decide +kernel
theorem dL_law_1468 : decode cL_law 1468 = .ok (.iload_n 3, 1) := by decide +kernel
theorem dL_law_1469 : decode cL_law 1469 = .ok (.iconst 2, 1) := by decide +kernel
theorem dL_law_1470 : decode cL_law 1470 = .ok (.iadd, 1) := by decide +kernel
theorem dL_law_1471 : decode cL_law 1471 = .ok (.iaload, 1) := by decide +kernel
theorem dL_law_1472 : decode cL_law 1472 = .ok (.invokevirtual 160, 3) := by decide +kernel
theorem dL_law_1475 : decode cL_law 1475 = .ok (.aload_n 2, 1) := by decide +kernel
theorem dL_law_1476 : decode cL_law 1476 = .ok (.aload_n 0, 1) := by decide +kernel
theorem dL_law_1477 : decode cL_law 1477 = .ok (.iload_n 3, 1) := by decide +kernel
theorem dL_law_1478 : decode cL_law 1478 = .ok (.iconst 1, 1) := by decide +kernel
theorem dL_law_1479 : decode cL_law 1479 = .ok (.iadd, 1) := by decide +kernel
theorem dL_law_1480 : decode cL_law 1480 = .ok (.iaload, 1) := by decide +kernel
theorem dL_law_1481 : decode cL_law 1481 = .ok (.aload_n 0, 1) := by decide +kernel
theorem dL_law_1482 : decode cL_law 1482 = .ok (.iload_n 3, 1) := by decide +kernel
theorem dL_law_1483 : decode cL_law 1483 = .ok (.iconst 2, 1) := by decide +kernel
theorem dL_law_1484 : decode cL_law 1484 = .ok (.iadd, 1) := by decide +kernel
theorem dL_law_1485 : decode cL_law 1485 = .ok (.iaload, 1) := by decide +kernel
theorem dL_law_1486 : decode cL_law 1486 = .ok (.invokevirtual 163, 3) := by decide +kernel
theorem dL_law_1489 : decode cL_law 1489 = .ok (.if_icmp .eq 440, 3) := by decide +kernel
theorem dL_law_1492 : decode cL_law 1492 = .ok (.iconst 0, 1) := by decide +kernel
theorem dL_law_1493 : decode cL_law 1493 = .ok (.ireturn, 1) := by decide +kernel
theorem dL_law_1494 : decode cL_law 1494 = .ok (.aload_n 1, 1) := by decide +kernel
theorem dL_law_1495 : decode cL_law 1495 = .ok (.aload_n 0, 1) := by decide +kernel
theorem dL_law_1496 : decode cL_law 1496 = .ok (.iload_n 3, 1) := by decide +kernel
theorem dL_law_1497 : decode cL_law 1497 = .ok (.iconst 1, 1) := by decide +kernel
theorem dL_law_1498 : decode cL_law 1498 = .ok (.iadd, 1) := by decide +kernel
theorem dL_law_1499 : decode cL_law 1499 = .ok (.iaload, 1) := by decide +kernel
theorem dL_law_1500 : decode cL_law 1500 = .ok (.aload_n 0, 1) := by decide +kernel
theorem dL_law_1501 : decode cL_law 1501 = .ok (.iload_n 3, 1) := by decide +kernel
theorem dL_law_1502 : decode cL_law 1502 = .ok (.iconst 2, 1) := by decide +kernel
theorem dL_law_1503 : decode cL_law 1503 = .ok (.iadd, 1) := by decide +kernel
theorem dL_law_1504 : decode cL_law 1504 = .ok (.iaload, 1) := by decide +kernel
theorem dL_law_1505 : decode cL_law 1505 = .ok (.invokevirtual 164, 3) := by decide +kernel
theorem dL_law_1508 : decode cL_law 1508 = .ok (.aload_n 2, 1) := by decide +kernel
theorem dL_law_1509 : decode cL_law 1509 = .ok (.aload_n 0, 1) := by decide +kernel
theorem dL_law_1510 : decode cL_law 1510 = .ok (.iload_n 3, 1) := by decide +kernel
theorem dL_law_1511 : decode cL_law 1511 = .ok (.iconst 1, 1) := by decide +kernel
theorem dL_law_1512 : decode cL_law 1512 = .ok (.iadd, 1) := by decide +kernel
theorem dL_law_1513 : decode cL_law 1513 = .ok (.iaload, 1) := by decide +kernel
theorem dL_law_1514 : decode cL_law 1514 = .ok (.aload_n 0, 1) := by decide +kernel
theorem dL_law_1515 : decode cL_law 1515 = .ok (.iload_n 3, 1) := by decide +kernel
theorem dL_law_1516 : decode cL_law 1516 = .ok (.iconst 2, 1) := by decide +kernel
theorem dL_law_1517 : decode cL_law 1517 = .ok (.iadd, 1) := by decide +kernel
theorem dL_law_1518 : decode cL_law 1518 = .ok (.iaload, 1) := by decide +kernel
theorem dL_law_1519 : decode cL_law 1519 = .ok (.invokevirtual 167, 3) := by decide +kernel
theorem dL_law_1522 : decode cL_law 1522 = .ok (.if_icmp .eq 407, 3) := by decide +kernel
theorem dL_law_1525 : decode cL_law 1525 = .ok (.iconst 0, 1) := by decide +kernel
theorem dL_law_1526 : decode cL_law 1526 = .ok (.ireturn, 1) := by decide +kernel
theorem dL_law_1527 : decode cL_law 1527 = .ok (.aload_n 1, 1) := by decide +kernel
theorem dL_law_1528 : decode cL_law 1528 = .ok (.aload_n 0, 1) := by decide +kernel
theorem dL_law_1529 : decode cL_law 1529 = .ok (.iload_n 3, 1) := by decide +kernel
theorem dL_law_1530 : decode cL_law 1530 = .ok (.iconst 1, 1) := by decide +kernel
theorem dL_law_1531 : decode cL_law 1531 = .ok (.iadd, 1) := by decide +kernel
theorem dL_law_1532 : decode cL_law 1532 = .ok (.iaload, 1) := by decide +kernel
theorem dL_law_1533 : decode cL_law 1533 = .ok (.aload_n 0, 1) := by decide +kernel
theorem dL_law_1534 : decode cL_law 1534 = .ok (.iload_n 3, 1) := by decide +kernel
theorem dL_law_1535 : decode cL_law 1535 = .ok (.iconst 2, 1) := by decide +kernel
theorem dL_law_1536 : decode cL_law 1536 = .ok (.iadd, 1) := by decide +kernel
theorem dL_law_1537 : decode cL_law 1537 = .ok (.iaload, 1) := by decide +kernel
theorem dL_law_1538 : decode cL_law 1538 = .ok (.aload_n 0, 1) := by decide +kernel
theorem dL_law_1539 : decode cL_law 1539 = .ok (.iload_n 3, 1) := by decide +kernel
theorem dL_law_1540 : decode cL_law 1540 = .ok (.iconst 3, 1) := by decide +kernel
theorem dL_law_1541 : decode cL_law 1541 = .ok (.iadd, 1) := by decide +kernel
theorem dL_law_1542 : decode cL_law 1542 = .ok (.iaload, 1) := by decide +kernel
theorem dL_law_1543 : decode cL_law 1543 = .ok (.invokevirtual 168, 3) := by decide +kernel
theorem dL_law_1546 : decode cL_law 1546 = .ok (.aload_n 2, 1) := by decide +kernel
theorem dL_law_1547 : decode cL_law 1547 = .ok (.aload_n 0, 1) := by decide +kernel
theorem dL_law_1548 : decode cL_law 1548 = .ok (.iload_n 3, 1) := by decide +kernel
theorem dL_law_1549 : decode cL_law 1549 = .ok (.iconst 1, 1) := by decide +kernel
theorem dL_law_1550 : decode cL_law 1550 = .ok (.iadd, 1) := by decide +kernel
theorem dL_law_1551 : decode cL_law 1551 = .ok (.iaload, 1) := by decide +kernel
theorem dL_law_1552 : decode cL_law 1552 = .ok (.aload_n 0, 1) := by decide +kernel
theorem dL_law_1553 : decode cL_law 1553 = .ok (.iload_n 3, 1) := by decide +kernel
theorem dL_law_1554 : decode cL_law 1554 = .ok (.iconst 2, 1) := by decide +kernel
theorem dL_law_1555 : decode cL_law 1555 = .ok (.iadd, 1) := by decide +kernel
theorem dL_law_1556 : decode cL_law 1556 = .ok (.iaload, 1) := by decide +kernel
theorem dL_law_1557 : decode cL_law 1557 = .ok (.aload_n 0, 1) := by decide +kernel
theorem dL_law_1558 : decode cL_law 1558 = .ok (.iload_n 3, 1) := by decide +kernel
theorem dL_law_1559 : decode cL_law 1559 = .ok (.iconst 3, 1) := by decide +kernel
theorem dL_law_1560 : decode cL_law 1560 = .ok (.iadd, 1) := by decide +kernel
theorem dL_law_1561 : decode cL_law 1561 = .ok (.iaload, 1) := by decide +kernel
theorem dL_law_1562 : decode cL_law 1562 = .ok (.invokevirtual 171, 3) := by decide +kernel
theorem dL_law_1565 : decode cL_law 1565 = .ok (.if_icmp .eq 364, 3) := by decide +kernel
theorem dL_law_1568 : decode cL_law 1568 = .ok (.iconst 0, 1) := by decide +kernel
theorem dL_law_1569 : decode cL_law 1569 = .ok (.ireturn, 1) := by decide +kernel
theorem dL_law_1570 : decode cL_law 1570 = .ok (.aload_n 1, 1) := by decide +kernel
theorem dL_law_1571 : decode cL_law 1571 = .ok (.aload_n 0, 1) := by decide +kernel
theorem dL_law_1572 : decode cL_law 1572 = .ok (.iload_n 3, 1) := by decide +kernel
theorem dL_law_1573 : decode cL_law 1573 = .ok (.iconst 1, 1) := by decide +kernel
theorem dL_law_1574 : decode cL_law 1574 = .ok (.iadd, 1) := by decide +kernel
theorem dL_law_1575 : decode cL_law 1575 = .ok (.iaload, 1) := by decide +kernel
theorem dL_law_1576 : decode cL_law 1576 = .ok (.aload_n 0, 1) := by decide +kernel
theorem dL_law_1577 : decode cL_law 1577 = .ok (.iload_n 3, 1) := by decide +kernel
theorem dL_law_1578 : decode cL_law 1578 = .ok (.iconst 2, 1) := by decide +kernel
theorem dL_law_1579 : decode cL_law 1579 = .ok (.iadd, 1) := by decide +kernel
theorem dL_law_1580 : decode cL_law 1580 = .ok (.iaload, 1) := by decide +kernel
theorem dL_law_1581 : decode cL_law 1581 = .ok (.invokevirtual 172, 3) := by decide +kernel
theorem dL_law_1584 : decode cL_law 1584 = .ok (.aload_n 2, 1) := by decide +kernel
theorem dL_law_1585 : decode cL_law 1585 = .ok (.aload_n 0, 1) := by decide +kernel
theorem dL_law_1586 : decode cL_law 1586 = .ok (.iload_n 3, 1) := by decide +kernel
theorem dL_law_1587 : decode cL_law 1587 = .ok (.iconst 1, 1) := by decide +kernel
theorem dL_law_1588 : decode cL_law 1588 = .ok (.iadd, 1) := by decide +kernel
theorem dL_law_1589 : decode cL_law 1589 = .ok (.iaload, 1) := by decide +kernel
theorem dL_law_1590 : decode cL_law 1590 = .ok (.aload_n 0, 1) := by decide +kernel
theorem dL_law_1591 : decode cL_law 1591 = .ok (.iload_n 3, 1) := by decide +kernel
theorem dL_law_1592 : decode cL_law 1592 = .ok (.iconst 2, 1) := by decide +kernel
theorem dL_law_1593 : decode cL_law 1593 = .ok (.iadd, 1) := by decide +kernel
theorem dL_law_1594 : decode cL_law 1594 = .ok (.iaload, 1) := by decide +kernel
theorem dL_law_1595 : decode cL_law 1595 = .ok (.invokevirtual 175, 3) := by decide +kernel
theorem dL_law_1598 : decode cL_law 1598 = .ok (.if_icmp .eq 331, 3) := by decide +kernel
theorem dL_law_1601 : decode cL_law 1601 = .ok (.iconst 0, 1) := by decide +kernel
theorem dL_law_1602 : decode cL_law 1602 = .ok (.ireturn, 1) := by decide +kernel
theorem dL_law_1603 : decode cL_law 1603 = .ok (.aload_n 1, 1) := by decide +kernel
theorem dL_law_1604 : decode cL_law 1604 = .ok (.aload_n 0, 1) := by decide +kernel
theorem dL_law_1605 : decode cL_law 1605 = .ok (.iload_n 3, 1) := by decide +kernel
theorem dL_law_1606 : decode cL_law 1606 = .ok (.iconst 1, 1) := by decide +kernel
theorem dL_law_1607 : decode cL_law 1607 = .ok (.iadd, 1) := by decide +kernel
theorem dL_law_1608 : decode cL_law 1608 = .ok (.iaload, 1) := by decide +kernel
theorem dL_law_1609 : decode cL_law 1609 = .ok (.aload_n 0, 1) := by decide +kernel
theorem dL_law_1610 : decode cL_law 1610 = .ok (.iload_n 3, 1) := by decide +kernel
theorem dL_law_1611 : decode cL_law 1611 = .ok (.iconst 2, 1) := by decide +kernel
theorem dL_law_1612 : decode cL_law 1612 = .ok (.iadd, 1) := by decide +kernel
theorem dL_law_1613 : decode cL_law 1613 = .ok (.iaload, 1) := by decide +kernel
theorem dL_law_1614 : decode cL_law 1614 = .ok (.invokevirtual 176, 3) := by decide +kernel
theorem dL_law_1617 : decode cL_law 1617 = .ok (.aload_n 2, 1) := by decide +kernel
theorem dL_law_1618 : decode cL_law 1618 = .ok (.aload_n 0, 1) := by decide +kernel
theorem dL_law_1619 : decode cL_law 1619 = .ok (.iload_n 3, 1) := by decide +kernel
theorem dL_law_1620 : decode cL_law 1620 = .ok (.iconst 1, 1) := by decide +kernel
theorem dL_law_1621 : decode cL_law 1621 = .ok (.iadd, 1) := by decide +kernel
theorem dL_law_1622 : decode cL_law 1622 = .ok (.iaload, 1) := by decide +kernel
theorem dL_law_1623 : decode cL_law 1623 = .ok (.aload_n 0, 1) := by decide +kernel
theorem dL_law_1624 : decode cL_law 1624 = .ok (.iload_n 3, 1) := by decide +kernel
theorem dL_law_1625 : decode cL_law 1625 = .ok (.iconst 2, 1) := by decide +kernel
theorem dL_law_1626 : decode cL_law 1626 = .ok (.iadd, 1) := by decide +kernel
theorem dL_law_1627 : decode cL_law 1627 = .ok (.iaload, 1) := by decide +kernel
theorem dL_law_1628 : decode cL_law 1628 = .ok (.invokevirtual 179, 3) := by decide +kernel
theorem dL_law_1631 : decode cL_law 1631 = .ok (.if_icmp .eq 298, 3) := by decide +kernel
theorem dL_law_1634 : decode cL_law 1634 = .ok (.iconst 0, 1) := by decide +kernel
theorem dL_law_1635 : decode cL_law 1635 = .ok (.ireturn, 1) := by decide +kernel
theorem dL_law_1636 : decode cL_law 1636 = .ok (.aload_n 1, 1) := by decide +kernel
theorem dL_law_1637 : decode cL_law 1637 = .ok (.aload_n 0, 1) := by decide +kernel
theorem dL_law_1638 : decode cL_law 1638 = .ok (.iload_n 3, 1) := by decide +kernel
theorem dL_law_1639 : decode cL_law 1639 = .ok (.iconst 1, 1) := by decide +kernel
theorem dL_law_1640 : decode cL_law 1640 = .ok (.iadd, 1) := by decide +kernel
theorem dL_law_1641 : decode cL_law 1641 = .ok (.iaload, 1) := by decide +kernel
theorem dL_law_1642 : decode cL_law 1642 = .ok (.aload_n 0, 1) := by decide +kernel
theorem dL_law_1643 : decode cL_law 1643 = .ok (.iload_n 3, 1) := by decide +kernel
theorem dL_law_1644 : decode cL_law 1644 = .ok (.iconst 2, 1) := by decide +kernel
theorem dL_law_1645 : decode cL_law 1645 = .ok (.iadd, 1) := by decide +kernel
theorem dL_law_1646 : decode cL_law 1646 = .ok (.iaload, 1) := by decide +kernel
theorem dL_law_1647 : decode cL_law 1647 = .ok (.invokevirtual 180, 3) := by decide +kernel
theorem dL_law_1650 : decode cL_law 1650 = .ok (.aload_n 2, 1) := by decide +kernel
theorem dL_law_1651 : decode cL_law 1651 = .ok (.aload_n 0, 1) := by decide +kernel
theorem dL_law_1652 : decode cL_law 1652 = .ok (.iload_n 3, 1) := by decide +kernel
theorem dL_law_1653 : decode cL_law 1653 = .ok (.iconst 1, 1) := by decide +kernel
theorem dL_law_1654 : decode cL_law 1654 = .ok (.iadd, 1) := by decide +kernel
theorem dL_law_1655 : decode cL_law 1655 = .ok (.iaload, 1) := by decide +kernel
theorem dL_law_1656 : decode cL_law 1656 = .ok (.aload_n 0, 1) := by decide +kernel
theorem dL_law_1657 : decode cL_law 1657 = .ok (.iload_n 3, 1) := by decide +kernel
theorem dL_law_1658 : decode cL_law 1658 = .ok (.iconst 2, 1) := by decide +kernel
theorem dL_law_1659 : decode cL_law 1659 = .ok (.iadd, 1) := by decide +kernel
theorem dL_law_1660 : decode cL_law 1660 = .ok (.iaload, 1) := by decide +kernel
theorem dL_law_1661 : decode cL_law 1661 = .ok (.invokevirtual 183, 3) := by decide +kernel
theorem dL_law_1664 : decode cL_law 1664 = .ok (.if_icmp .eq 265, 3) := by decide +kernel
theorem dL_law_1667 : decode cL_law 1667 = .ok (.iconst 0, 1) := by decide +kernel
theorem dL_law_1668 : decode cL_law 1668 = .ok (.ireturn, 1) := by decide +kernel
theorem dL_law_1669 : decode cL_law 1669 = .ok (.aload_n 1, 1) := by decide +kernel
theorem dL_law_1670 : decode cL_law 1670 = .ok (.aload_n 0, 1) := by decide +kernel
theorem dL_law_1671 : decode cL_law 1671 = .ok (.iload_n 3, 1) := by decide +kernel
theorem dL_law_1672 : decode cL_law 1672 = .ok (.iconst 1, 1) := by decide +kernel
theorem dL_law_1673 : decode cL_law 1673 = .ok (.iadd, 1) := by decide +kernel
theorem dL_law_1674 : decode cL_law 1674 = .ok (.iaload, 1) := by decide +kernel
theorem dL_law_1675 : decode cL_law 1675 = .ok (.aload_n 0, 1) := by decide +kernel
theorem dL_law_1676 : decode cL_law 1676 = .ok (.iload_n 3, 1) := by decide +kernel
theorem dL_law_1677 : decode cL_law 1677 = .ok (.iconst 2, 1) := by decide +kernel
theorem dL_law_1678 : decode cL_law 1678 = .ok (.iadd, 1) := by decide +kernel
theorem dL_law_1679 : decode cL_law 1679 = .ok (.iaload, 1) := by decide +kernel
theorem dL_law_1680 : decode cL_law 1680 = .ok (.aload_n 0, 1) := by decide +kernel
theorem dL_law_1681 : decode cL_law 1681 = .ok (.iload_n 3, 1) := by decide +kernel
theorem dL_law_1682 : decode cL_law 1682 = .ok (.iconst 3, 1) := by decide +kernel
theorem dL_law_1683 : decode cL_law 1683 = .ok (.iadd, 1) := by decide +kernel
theorem dL_law_1684 : decode cL_law 1684 = .ok (.iaload, 1) := by decide +kernel
theorem dL_law_1685 : decode cL_law 1685 = .ok (.invokevirtual 184, 3) := by decide +kernel
theorem dL_law_1688 : decode cL_law 1688 = .ok (.aload_n 2, 1) := by decide +kernel
theorem dL_law_1689 : decode cL_law 1689 = .ok (.aload_n 0, 1) := by decide +kernel
theorem dL_law_1690 : decode cL_law 1690 = .ok (.iload_n 3, 1) := by decide +kernel
theorem dL_law_1691 : decode cL_law 1691 = .ok (.iconst 1, 1) := by decide +kernel
theorem dL_law_1692 : decode cL_law 1692 = .ok (.iadd, 1) := by decide +kernel
theorem dL_law_1693 : decode cL_law 1693 = .ok (.iaload, 1) := by decide +kernel
theorem dL_law_1694 : decode cL_law 1694 = .ok (.aload_n 0, 1) := by decide +kernel
theorem dL_law_1695 : decode cL_law 1695 = .ok (.iload_n 3, 1) := by decide +kernel
theorem dL_law_1696 : decode cL_law 1696 = .ok (.iconst 2, 1) := by decide +kernel
theorem dL_law_1697 : decode cL_law 1697 = .ok (.iadd, 1) := by decide +kernel
theorem dL_law_1698 : decode cL_law 1698 = .ok (.iaload, 1) := by decide +kernel
theorem dL_law_1699 : decode cL_law 1699 = .ok (.aload_n 0, 1) := by decide +kernel
theorem dL_law_1700 : decode cL_law 1700 = .ok (.iload_n 3, 1) := by decide +kernel
theorem dL_law_1701 : decode cL_law 1701 = .ok (.iconst 3, 1) := by decide +kernel
theorem dL_law_1702 : decode cL_law 1702 = .ok (.iadd, 1) := by decide +kernel
theorem dL_law_1703 : decode cL_law 1703 = .ok (.iaload, 1) := by decide +kernel
theorem dL_law_1704 : decode cL_law 1704 = .ok (.invokevirtual 187, 3) := by decide +kernel
theorem dL_law_1707 : decode cL_law 1707 = .ok (.if_icmp .eq 222, 3) := by decide +kernel
theorem dL_law_1710 : decode cL_law 1710 = .ok (.iconst 0, 1) := by decide +kernel
theorem dL_law_1711 : decode cL_law 1711 = .ok (.ireturn, 1) := by decide +kernel
theorem dL_law_1712 : decode cL_law 1712 = .ok (.aload_n 1, 1) := by decide +kernel
theorem dL_law_1713 : decode cL_law 1713 = .ok (.aload_n 0, 1) := by decide +kernel
theorem dL_law_1714 : decode cL_law 1714 = .ok (.iload_n 3, 1) := by decide +kernel
theorem dL_law_1715 : decode cL_law 1715 = .ok (.iconst 1, 1) := by decide +kernel
theorem dL_law_1716 : decode cL_law 1716 = .ok (.iadd, 1) := by decide +kernel
theorem dL_law_1717 : decode cL_law 1717 = .ok (.iaload, 1) := by decide +kernel
theorem dL_law_1718 : decode cL_law 1718 = .ok (.aload_n 0, 1) := by decide +kernel
theorem dL_law_1719 : decode cL_law 1719 = .ok (.iload_n 3, 1) := by decide +kernel
theorem dL_law_1720 : decode cL_law 1720 = .ok (.iconst 2, 1) := by decide +kernel
theorem dL_law_1721 : decode cL_law 1721 = .ok (.iadd, 1) := by decide +kernel
theorem dL_law_1722 : decode cL_law 1722 = .ok (.iaload, 1) := by decide +kernel
theorem dL_law_1723 : decode cL_law 1723 = .ok (.aload_n 0, 1) := by decide +kernel
theorem dL_law_1724 : decode cL_law 1724 = .ok (.iload_n 3, 1) := by decide +kernel
theorem dL_law_1725 : decode cL_law 1725 = .ok (.iconst 3, 1) := by decide +kernel
theorem dL_law_1726 : decode cL_law 1726 = .ok (.iadd, 1) := by decide +kernel
theorem dL_law_1727 : decode cL_law 1727 = .ok (.iaload, 1) := by decide +kernel
theorem dL_law_1728 : decode cL_law 1728 = .ok (.invokevirtual 188, 3) := by decide +kernel
theorem dL_law_1731 : decode cL_law 1731 = .ok (.aload_n 2, 1) := by decide +kernel
theorem dL_law_1732 : decode cL_law 1732 = .ok (.aload_n 0, 1) := by decide +kernel
theorem dL_law_1733 : decode cL_law 1733 = .ok (.iload_n 3, 1) := by decide +kernel
theorem dL_law_1734 : decode cL_law 1734 = .ok (.iconst 1, 1) := by decide +kernel
theorem dL_law_1735 : decode cL_law 1735 = .ok (.iadd, 1) := by decide +kernel
theorem dL_law_1736 : decode cL_law 1736 = .ok (.iaload, 1) := by decide +kernel
theorem dL_law_1737 : decode cL_law 1737 = .ok (.aload_n 0, 1) := by decide +kernel
theorem dL_law_1738 : decode cL_law 1738 = .ok (.iload_n 3, 1) := by decide +kernel
theorem dL_law_1739 : decode cL_law 1739 = .ok (.iconst 2, 1) := by decide +kernel
theorem dL_law_1740 : decode cL_law 1740 = .ok (.iadd, 1) := by decide +kernel
theorem dL_law_1741 : decode cL_law 1741 = .ok (.iaload, 1) := by decide +kernel
theorem dL_law_1742 : decode cL_law 1742 = .ok (.aload_n 0, 1) := by decide +kernel
theorem dL_law_1743 : decode cL_law 1743 = .ok (.iload_n 3, 1) := by decide +kernel
theorem dL_law_1744 : decode cL_law 1744 = .ok (.iconst 3, 1) := by decide +kernel
theorem dL_law_1745 : decode cL_law 1745 = .ok (.iadd, 1) := by decide +kernel
theorem dL_law_1746 : decode cL_law 1746 = .ok (.iaload, 1) := by decide +kernel
theorem dL_law_1747 : decode cL_law 1747 = .ok (.invokevirtual 191, 3) := by decide +kernel
theorem dL_law_1750 : decode cL_law 1750 = .ok (.if_icmp .eq 179, 3) := by decide +kernel
theorem dL_law_1753 : decode cL_law 1753 = .ok (.iconst 0, 1) := by decide +kernel
theorem dL_law_1754 : decode cL_law 1754 = .ok (.ireturn, 1) := by decide +kernel
theorem dL_law_1755 : decode cL_law 1755 = .ok (.aload_n 1, 1) := by decide +kernel
theorem dL_law_1756 : decode cL_law 1756 = .ok (.aload_n 0, 1) := by decide +kernel
theorem dL_law_1757 : decode cL_law 1757 = .ok (.iload_n 3, 1) := by decide +kernel
theorem dL_law_1758 : decode cL_law 1758 = .ok (.iconst 1, 1) := by decide +kernel
theorem dL_law_1759 : decode cL_law 1759 = .ok (.iadd, 1) := by decide +kernel
theorem dL_law_1760 : decode cL_law 1760 = .ok (.iaload, 1) := by decide +kernel
theorem dL_law_1761 : decode cL_law 1761 = .ok (.aload_n 0, 1) := by decide +kernel
theorem dL_law_1762 : decode cL_law 1762 = .ok (.iload_n 3, 1) := by decide +kernel
theorem dL_law_1763 : decode cL_law 1763 = .ok (.iconst 2, 1) := by decide +kernel
theorem dL_law_1764 : decode cL_law 1764 = .ok (.iadd, 1) := by decide +kernel
theorem dL_law_1765 : decode cL_law 1765 = .ok (.iaload, 1) := by decide +kernel
theorem dL_law_1766 : decode cL_law 1766 = .ok (.invokevirtual 192, 3) := by decide +kernel
theorem dL_law_1769 : decode cL_law 1769 = .ok (.aload_n 2, 1) := by decide +kernel
theorem dL_law_1770 : decode cL_law 1770 = .ok (.aload_n 0, 1) := by decide +kernel
theorem dL_law_1771 : decode cL_law 1771 = .ok (.iload_n 3, 1) := by decide +kernel
theorem dL_law_1772 : decode cL_law 1772 = .ok (.iconst 1, 1) := by decide +kernel
theorem dL_law_1773 : decode cL_law 1773 = .ok (.iadd, 1) := by decide +kernel
theorem dL_law_1774 : decode cL_law 1774 = .ok (.iaload, 1) := by decide +kernel
theorem dL_law_1775 : decode cL_law 1775 = .ok (.aload_n 0, 1) := by decide +kernel
theorem dL_law_1776 : decode cL_law 1776 = .ok (.iload_n 3, 1) := by decide +kernel
theorem dL_law_1777 : decode cL_law 1777 = .ok (.iconst 2, 1) := by decide +kernel
theorem dL_law_1778 : decode cL_law 1778 = .ok (.iadd, 1) := by decide +kernel
theorem dL_law_1779 : decode cL_law 1779 = .ok (.iaload, 1) := by decide +kernel
theorem dL_law_1780 : decode cL_law 1780 = .ok (.invokevirtual 195, 3) := by decide +kernel
theorem dL_law_1783 : decode cL_law 1783 = .ok (.if_icmp .eq 146, 3) := by decide +kernel
theorem dL_law_1786 : decode cL_law 1786 = .ok (.iconst 0, 1) := by decide +kernel
theorem dL_law_1787 : decode cL_law 1787 = .ok (.ireturn, 1) := by decide +kernel
theorem dL_law_1788 : decode cL_law 1788 = .ok (.aload_n 1, 1) := by decide +kernel
theorem dL_law_1789 : decode cL_law 1789 = .ok (.invokevirtual 196, 3) := by decide +kernel
theorem dL_law_1792 : decode cL_law 1792 = .ok (.aload_n 2, 1) := by decide +kernel
theorem dL_law_1793 : decode cL_law 1793 = .ok (.invokevirtual 199, 3) := by decide +kernel
theorem dL_law_1796 : decode cL_law 1796 = .ok (.if_icmp .eq 133, 3) := by decide +kernel
theorem dL_law_1799 : decode cL_law 1799 = .ok (.iconst 0, 1) := by decide +kernel
theorem dL_law_1800 : decode cL_law 1800 = .ok (.ireturn, 1) := by decide +kernel
theorem dL_law_1801 : decode cL_law 1801 = .ok (.aload_n 1, 1) := by decide +kernel
theorem dL_law_1802 : decode cL_law 1802 = .ok (.invokevirtual 200, 3) := by decide +kernel
theorem dL_law_1805 : decode cL_law 1805 = .ok (.aload_n 2, 1) := by decide +kernel
theorem dL_law_1806 : decode cL_law 1806 = .ok (.invokevirtual 204, 3) := by decide +kernel
theorem dL_law_1809 : decode cL_law 1809 = .ok (.lcmp, 1) := by decide +kernel
theorem dL_law_1810 : decode cL_law 1810 = .ok (.ifCond .eq 119, 3) := by decide +kernel
theorem dL_law_1813 : decode cL_law 1813 = .ok (.iconst 0, 1) := by decide +kernel
theorem dL_law_1814 : decode cL_law 1814 = .ok (.ireturn, 1) := by decide +kernel
theorem dL_law_1815 : decode cL_law 1815 = .ok (.aload_n 1, 1) := by decide +kernel
theorem dL_law_1816 : decode cL_law 1816 = .ok (.invokevirtual 205, 3) := by decide +kernel
theorem dL_law_1819 : decode cL_law 1819 = .ok (.aload_n 2, 1) := by decide +kernel
theorem dL_law_1820 : decode cL_law 1820 = .ok (.invokevirtual 208, 3) := by decide +kernel
theorem dL_law_1823 : decode cL_law 1823 = .ok (.if_icmp .eq 106, 3) := by decide +kernel
theorem dL_law_1826 : decode cL_law 1826 = .ok (.iconst 0, 1) := by decide +kernel
theorem dL_law_1827 : decode cL_law 1827 = .ok (.ireturn, 1) := by decide +kernel
theorem dL_law_1828 : decode cL_law 1828 = .ok (.aload_n 1, 1) := by decide +kernel
theorem dL_law_1829 : decode cL_law 1829 = .ok (.invokevirtual 209, 3) := by decide +kernel
theorem dL_law_1832 : decode cL_law 1832 = .ok (.aload_n 2, 1) := by decide +kernel
theorem dL_law_1833 : decode cL_law 1833 = .ok (.invokevirtual 212, 3) := by decide +kernel
theorem dL_law_1836 : decode cL_law 1836 = .ok (.lcmp, 1) := by decide +kernel
theorem dL_law_1837 : decode cL_law 1837 = .ok (.ifCond .eq 92, 3) := by decide +kernel
theorem dL_law_1840 : decode cL_law 1840 = .ok (.iconst 0, 1) := by decide +kernel
theorem dL_law_1841 : decode cL_law 1841 = .ok (.ireturn, 1) := by decide +kernel
theorem dL_law_1842 : decode cL_law 1842 = .ok (.aload_n 1, 1) := by decide +kernel
theorem dL_law_1843 : decode cL_law 1843 = .ok (.invokevirtual 213, 3) := by decide +kernel
theorem dL_law_1846 : decode cL_law 1846 = .ok (.aload_n 2, 1) := by decide +kernel
theorem dL_law_1847 : decode cL_law 1847 = .ok (.invokevirtual 216, 3) := by decide +kernel
theorem dL_law_1850 : decode cL_law 1850 = .ok (.lcmp, 1) := by decide +kernel
theorem dL_law_1851 : decode cL_law 1851 = .ok (.ifCond .eq 78, 3) := by decide +kernel
theorem dL_law_1854 : decode cL_law 1854 = .ok (.iconst 0, 1) := by decide +kernel
theorem dL_law_1855 : decode cL_law 1855 = .ok (.ireturn, 1) := by decide +kernel
theorem dL_law_1856 : decode cL_law 1856 = .ok (.aload_n 1, 1) := by decide +kernel
theorem dL_law_1857 : decode cL_law 1857 = .ok (.aload_n 0, 1) := by decide +kernel
theorem dL_law_1858 : decode cL_law 1858 = .ok (.iload_n 3, 1) := by decide +kernel
theorem dL_law_1859 : decode cL_law 1859 = .ok (.iconst 1, 1) := by decide +kernel
theorem dL_law_1860 : decode cL_law 1860 = .ok (.iadd, 1) := by decide +kernel
theorem dL_law_1861 : decode cL_law 1861 = .ok (.iaload, 1) := by decide +kernel
theorem dL_law_1862 : decode cL_law 1862 = .ok (.invokevirtual 217, 3) := by decide +kernel
theorem dL_law_1865 : decode cL_law 1865 = .ok (.aload_n 2, 1) := by decide +kernel
theorem dL_law_1866 : decode cL_law 1866 = .ok (.aload_n 0, 1) := by decide +kernel
theorem dL_law_1867 : decode cL_law 1867 = .ok (.iload_n 3, 1) := by decide +kernel
theorem dL_law_1868 : decode cL_law 1868 = .ok (.iconst 1, 1) := by decide +kernel
theorem dL_law_1869 : decode cL_law 1869 = .ok (.iadd, 1) := by decide +kernel
theorem dL_law_1870 : decode cL_law 1870 = .ok (.iaload, 1) := by decide +kernel
theorem dL_law_1871 : decode cL_law 1871 = .ok (.invokevirtual 220, 3) := by decide +kernel
theorem dL_law_1874 : decode cL_law 1874 = .ok (.if_icmp .eq 55, 3) := by decide +kernel
theorem dL_law_1877 : decode cL_law 1877 = .ok (.iconst 0, 1) := by decide +kernel
theorem dL_law_1878 : decode cL_law 1878 = .ok (.ireturn, 1) := by decide +kernel
theorem dL_law_1879 : decode cL_law 1879 = .ok (.aload_n 1, 1) := by decide +kernel
theorem dL_law_1880 : decode cL_law 1880 = .ok (.invokevirtual 221, 3) := by decide +kernel
theorem dL_law_1883 : decode cL_law 1883 = .ok (.aload_n 2, 1) := by decide +kernel
theorem dL_law_1884 : decode cL_law 1884 = .ok (.invokevirtual 224, 3) := by decide +kernel
theorem dL_law_1887 : decode cL_law 1887 = .ok (.if_icmp .eq 42, 3) := by decide +kernel
theorem dL_law_1890 : decode cL_law 1890 = .ok (.iconst 0, 1) := by decide +kernel
theorem dL_law_1891 : decode cL_law 1891 = .ok (.ireturn, 1) := by decide +kernel
theorem dL_law_1892 : decode cL_law 1892 = .ok (.aload_n 1, 1) := by decide +kernel
theorem dL_law_1893 : decode cL_law 1893 = .ok (.aload_n 0, 1) := by decide +kernel
theorem dL_law_1894 : decode cL_law 1894 = .ok (.iload_n 3, 1) := by decide +kernel
theorem dL_law_1895 : decode cL_law 1895 = .ok (.iconst 1, 1) := by decide +kernel
theorem dL_law_1896 : decode cL_law 1896 = .ok (.iadd, 1) := by decide +kernel
theorem dL_law_1897 : decode cL_law 1897 = .ok (.iaload, 1) := by decide +kernel
theorem dL_law_1898 : decode cL_law 1898 = .ok (.invokevirtual 225, 3) := by decide +kernel
theorem dL_law_1901 : decode cL_law 1901 = .ok (.aload_n 2, 1) := by decide +kernel
theorem dL_law_1902 : decode cL_law 1902 = .ok (.aload_n 0, 1) := by decide +kernel
theorem dL_law_1903 : decode cL_law 1903 = .ok (.iload_n 3, 1) := by decide +kernel
theorem dL_law_1904 : decode cL_law 1904 = .ok (.iconst 1, 1) := by decide +kernel
theorem dL_law_1905 : decode cL_law 1905 = .ok (.iadd, 1) := by decide +kernel
theorem dL_law_1906 : decode cL_law 1906 = .ok (.iaload, 1) := by decide +kernel
theorem dL_law_1907 : decode cL_law 1907 = .ok (.invokevirtual 228, 3) := by decide +kernel
theorem dL_law_1910 : decode cL_law 1910 = .ok (.if_icmp .eq 19, 3) := by decide +kernel
theorem dL_law_1913 : decode cL_law 1913 = .ok (.iconst 0, 1) := by decide +kernel
theorem dL_law_1914 : decode cL_law 1914 = .ok (.ireturn, 1) := by decide +kernel
theorem dL_law_1915 : decode cL_law 1915 = .ok (.aload_n 1, 1) := by decide +kernel
theorem dL_law_1916 : decode cL_law 1916 = .ok (.invokevirtual 229, 3) := by decide +kernel
theorem dL_law_1919 : decode cL_law 1919 = .ok (.aload_n 2, 1) := by decide +kernel
theorem dL_law_1920 : decode cL_law 1920 = .ok (.invokevirtual 232, 3) := by decide +kernel
theorem dL_law_1923 : decode cL_law 1923 = .ok (.lcmp, 1) := by decide +kernel
theorem dL_law_1924 : decode cL_law 1924 = .ok (.ifCond .eq 5, 3) := by decide +kernel
theorem dL_law_1927 : decode cL_law 1927 = .ok (.iconst 0, 1) := by decide +kernel
theorem dL_law_1928 : decode cL_law 1928 = .ok (.ireturn, 1) := by decide +kernel
theorem dL_law_1929 : decode cL_law 1929 = .ok (.iinc 3 6, 3) := by decide +kernel
theorem dL_law_1932 : decode cL_law 1932 = .ok (.goto (-1914), 3) := by decide +kernel
theorem dL_law_1935 : decode cL_law 1935 = .ok (.iconst 1, 1) := by decide +kernel
theorem dL_law_1936 : decode cL_law 1936 = .ok (.ireturn, 1) := by decide +kernel
set_option maxRecDepth 50000 in
def c_L_law_L18 (F : Nat) (a7 : Nat) (a8 : Nat) : Nat → Int32 → z_Hp → Option (Int32 × z_Hp)
  | 0, _, _ => none
  | n + 1, x9, h10 => (if okL h10 4 = true then (if ((nI (hN h10 4)) - 6) < x9 then (some (1, h10)) else (if inb x9 (hN h10 4) = true then (lt_ (fun (h12 : z_Hp) => (lt_ (x9 + 6) (fun x13 => (c_L_law_L18 F a7 a8 n x13 h12)))) (fun (j1929_11 : z_Hp → Option (Int32 × z_Hp)) => (if ((hI h10 4 (ix x9)) &&& 63 : Int32).toInt < 0 ∨ 52 < ((hI h10 4 (ix x9)) &&& 63 : Int32).toInt then (j1929_11 h10) else (if ((hI h10 4 (ix x9)) &&& 63) = 0 then (if inb (x9 + 1) (hN h10 4) = true then (if inb (x9 + 2) (hN h10 4) = true then (if hT h10 a7 = 9 then (bI (c_X9_row F a7 (hI h10 4 (ix (x9 + 1))) (hI h10 4 (ix (x9 + 2))) h10) (fun x15 h14 => (if inb (x9 + 1) (hN h14 4) = true then (if inb (x9 + 2) (hN h14 4) = true then (if hT h14 a8 = 10 then (bI (c_X10_row F a8 (hI h14 4 (ix (x9 + 1))) (hI h14 4 (ix (x9 + 2))) h14) (fun x17 h16 => (if x15 = x17 then (j1929_11 h16) else (some (0, h16))))) else none) else none) else none))) else none) else none) else none) else (if ((hI h10 4 (ix x9)) &&& 63) = 1 then (if inb (x9 + 1) (hN h10 4) = true then (if inb (x9 + 2) (hN h10 4) = true then (if inb (x9 + 3) (hN h10 4) = true then (if hT h10 a7 = 9 then (bI (c_X9_lay F a7 (hI h10 4 (ix (x9 + 1))) (hI h10 4 (ix (x9 + 2))) (hI h10 4 (ix (x9 + 3))) h10) (fun x19 h18 => (if inb (x9 + 1) (hN h18 4) = true then (if inb (x9 + 2) (hN h18 4) = true then (if inb (x9 + 3) (hN h18 4) = true then (if hT h18 a8 = 10 then (bI (c_X10_lay F a8 (hI h18 4 (ix (x9 + 1))) (hI h18 4 (ix (x9 + 2))) (hI h18 4 (ix (x9 + 3))) h18) (fun x21 h20 => (if x19 = x21 then (j1929_11 h20) else (some (0, h20))))) else none) else none) else none) else none))) else none) else none) else none) else none) else (if ((hI h10 4 (ix x9)) &&& 63) = 2 then (if inb (x9 + 1) (hN h10 4) = true then (if hT h10 a7 = 9 then (bI (c_X9_tear F a7 (hI h10 4 (ix (x9 + 1))) h10) (fun x23 h22 => (if inb (x9 + 1) (hN h22 4) = true then (if hT h22 a8 = 10 then (bI (c_X10_tear F a8 (hI h22 4 (ix (x9 + 1))) h22) (fun x25 h24 => (if x23 = x25 then (j1929_11 h24) else (some (0, h24))))) else none) else none))) else none) else none) else (if ((hI h10 4 (ix x9)) &&& 63) = 3 then (if inb (x9 + 1) (hN h10 4) = true then (if inb (x9 + 2) (hN h10 4) = true then (if inb (x9 + 3) (hN h10 4) = true then (if inb (x9 + 4) (hN h10 4) = true then (if inb (x9 + 5) (hN h10 4) = true then (if hT h10 a7 = 9 then (bI (c_X9_copy F a7 (hI h10 4 (ix (x9 + 1))) (hI h10 4 (ix (x9 + 2))) (hI h10 4 (ix (x9 + 3))) (hI h10 4 (ix (x9 + 4))) (hI h10 4 (ix (x9 + 5))) h10) (fun x27 h26 => (if inb (x9 + 1) (hN h26 4) = true then (if inb (x9 + 2) (hN h26 4) = true then (if inb (x9 + 3) (hN h26 4) = true then (if inb (x9 + 4) (hN h26 4) = true then (if inb (x9 + 5) (hN h26 4) = true then (if hT h26 a8 = 10 then (bI (c_X10_copy F a8 (hI h26 4 (ix (x9 + 1))) (hI h26 4 (ix (x9 + 2))) (hI h26 4 (ix (x9 + 3))) (hI h26 4 (ix (x9 + 4))) (hI h26 4 (ix (x9 + 5))) h26) (fun x29 h28 => (if x27 = x29 then (j1929_11 h28) else (some (0, h28))))) else none) else none) else none) else none) else none) else none))) else none) else none) else none) else none) else none) else none) else (if ((hI h10 4 (ix x9)) &&& 63) = 4 then (if inb (x9 + 1) (hN h10 4) = true then (if hT h10 a7 = 9 then (bI (c_X9_mean F a7 (hI h10 4 (ix (x9 + 1))) h10) (fun x31 h30 => (if inb (x9 + 1) (hN h30 4) = true then (if hT h30 a8 = 10 then (bI (c_X10_mean F a8 (hI h30 4 (ix (x9 + 1))) h30) (fun x33 h32 => (if x31 = x33 then (j1929_11 h32) else (some (0, h32))))) else none) else none))) else none) else none) else (if ((hI h10 4 (ix x9)) &&& 63) = 5 then (if inb (x9 + 1) (hN h10 4) = true then (if inb (x9 + 2) (hN h10 4) = true then (if hT h10 a7 = 9 then (bI (c_X9_text F a7 (hI h10 4 (ix (x9 + 1))) (hI h10 4 (ix (x9 + 2))) h10) (fun x35 h34 => (if inb (x9 + 1) (hN h34 4) = true then (if inb (x9 + 2) (hN h34 4) = true then (if hT h34 a8 = 10 then (bI (c_X10_text F a8 (hI h34 4 (ix (x9 + 1))) (hI h34 4 (ix (x9 + 2))) h34) (fun x37 h36 => (if x35 = x37 then (j1929_11 h36) else (some (0, h36))))) else none) else none) else none))) else none) else none) else none) else (if ((hI h10 4 (ix x9)) &&& 63) = 6 then (if inb (x9 + 1) (hN h10 4) = true then (if inb (x9 + 2) (hN h10 4) = true then (if inb (x9 + 3) (hN h10 4) = true then (if hT h10 a7 = 9 then (bI (c_X9_put F a7 (hI h10 4 (ix (x9 + 1))) (hI h10 4 (ix (x9 + 2))) (hI h10 4 (ix (x9 + 3))) h10) (fun x39 h38 => (if inb (x9 + 1) (hN h38 4) = true then (if inb (x9 + 2) (hN h38 4) = true then (if inb (x9 + 3) (hN h38 4) = true then (if hT h38 a8 = 10 then (bI (c_X10_put F a8 (hI h38 4 (ix (x9 + 1))) (hI h38 4 (ix (x9 + 2))) (hI h38 4 (ix (x9 + 3))) h38) (fun x41 h40 => (if x39 = x41 then (j1929_11 h40) else (some (0, h40))))) else none) else none) else none) else none))) else none) else none) else none) else none) else (if ((hI h10 4 (ix x9)) &&& 63) = 7 then (if inb (x9 + 1) (hN h10 4) = true then (if hT h10 a7 = 9 then (bI (c_X9_later F a7 (hI h10 4 (ix (x9 + 1))) h10) (fun x43 h42 => (if inb (x9 + 1) (hN h42 4) = true then (if hT h42 a8 = 10 then (bI (c_X10_later F a8 (hI h42 4 (ix (x9 + 1))) h42) (fun x45 h44 => (if x43 = x45 then (j1929_11 h44) else (some (0, h44))))) else none) else none))) else none) else none) else (if ((hI h10 4 (ix x9)) &&& 63) = 8 then (if inb (x9 + 1) (hN h10 4) = true then (if inb (x9 + 2) (hN h10 4) = true then (if hT h10 a7 = 9 then (bI (c_X9_song F a7 (hI h10 4 (ix (x9 + 1))) (hI h10 4 (ix (x9 + 2))) h10) (fun x47 h46 => (if inb (x9 + 1) (hN h46 4) = true then (if inb (x9 + 2) (hN h46 4) = true then (if hT h46 a8 = 10 then (bI (c_X10_song F a8 (hI h46 4 (ix (x9 + 1))) (hI h46 4 (ix (x9 + 2))) h46) (fun x49 h48 => (if x47 = x49 then (j1929_11 h48) else (some (0, h48))))) else none) else none) else none))) else none) else none) else none) else (if ((hI h10 4 (ix x9)) &&& 63) = 9 then (if inb (x9 + 1) (hN h10 4) = true then (if inb (x9 + 2) (hN h10 4) = true then (if hT h10 a7 = 9 then (bI (c_X9_songTold F a7 (hI h10 4 (ix (x9 + 1))) (hI h10 4 (ix (x9 + 2))) h10) (fun x51 h50 => (if inb (x9 + 1) (hN h50 4) = true then (if inb (x9 + 2) (hN h50 4) = true then (if hT h50 a8 = 10 then (bI (c_X10_songTold F a8 (hI h50 4 (ix (x9 + 1))) (hI h50 4 (ix (x9 + 2))) h50) (fun x53 h52 => (if x51 = x53 then (j1929_11 h52) else (some (0, h52))))) else none) else none) else none))) else none) else none) else none) else (if ((hI h10 4 (ix x9)) &&& 63) = 10 then (if inb (x9 + 1) (hN h10 4) = true then (if inb (x9 + 2) (hN h10 4) = true then (if hT h10 a7 = 9 then (bI (c_X9_measure F a7 (hI h10 4 (ix (x9 + 1))) (hI h10 4 (ix (x9 + 2))) h10) (fun x55 h54 => (if inb (x9 + 1) (hN h54 4) = true then (if inb (x9 + 2) (hN h54 4) = true then (if hT h54 a8 = 10 then (bI (c_X10_measure F a8 (hI h54 4 (ix (x9 + 1))) (hI h54 4 (ix (x9 + 2))) h54) (fun x57 h56 => (if x55 = x57 then (j1929_11 h56) else (some (0, h56))))) else none) else none) else none))) else none) else none) else none) else (if ((hI h10 4 (ix x9)) &&& 63) = 11 then (if inb (x9 + 1) (hN h10 4) = true then (if inb (x9 + 2) (hN h10 4) = true then (if inb (x9 + 3) (hN h10 4) = true then (if hT h10 a7 = 9 then (bI (c_X9_rhyme F a7 (hI h10 4 (ix (x9 + 1))) (hI h10 4 (ix (x9 + 2))) (hI h10 4 (ix (x9 + 3))) h10) (fun x59 h58 => (if inb (x9 + 1) (hN h58 4) = true then (if inb (x9 + 2) (hN h58 4) = true then (if inb (x9 + 3) (hN h58 4) = true then (if hT h58 a8 = 10 then (bI (c_X10_rhyme F a8 (hI h58 4 (ix (x9 + 1))) (hI h58 4 (ix (x9 + 2))) (hI h58 4 (ix (x9 + 3))) h58) (fun x61 h60 => (if x59 = x61 then (j1929_11 h60) else (some (0, h60))))) else none) else none) else none) else none))) else none) else none) else none) else none) else (if ((hI h10 4 (ix x9)) &&& 63) = 12 then (if inb (x9 + 1) (hN h10 4) = true then (if inb (x9 + 2) (hN h10 4) = true then (if hT h10 a7 = 9 then (bI (c_X9_tune F a7 (hI h10 4 (ix (x9 + 1))) (hI h10 4 (ix (x9 + 2))) h10) (fun x63 h62 => (if inb (x9 + 1) (hN h62 4) = true then (if inb (x9 + 2) (hN h62 4) = true then (if hT h62 a8 = 10 then (bI (c_X10_tune F a8 (hI h62 4 (ix (x9 + 1))) (hI h62 4 (ix (x9 + 2))) h62) (fun x65 h64 => (if x63 = x65 then (j1929_11 h64) else (some (0, h64))))) else none) else none) else none))) else none) else none) else none) else (if ((hI h10 4 (ix x9)) &&& 63) = 13 then (if inb (x9 + 1) (hN h10 4) = true then (if inb (x9 + 2) (hN h10 4) = true then (if hT h10 a7 = 9 then (bI (c_X9_fit F a7 (hI h10 4 (ix (x9 + 1))) (hI h10 4 (ix (x9 + 2))) h10) (fun x67 h66 => (if inb (x9 + 1) (hN h66 4) = true then (if inb (x9 + 2) (hN h66 4) = true then (if hT h66 a8 = 10 then (bI (c_X10_fit F a8 (hI h66 4 (ix (x9 + 1))) (hI h66 4 (ix (x9 + 2))) h66) (fun x69 h68 => (if x67 = x69 then (j1929_11 h68) else (some (0, h68))))) else none) else none) else none))) else none) else none) else none) else (if ((hI h10 4 (ix x9)) &&& 63) = 14 then (if inb (x9 + 1) (hN h10 4) = true then (if hT h10 a7 = 9 then (bI (c_X9_tunes F a7 (hI h10 4 (ix (x9 + 1))) h10) (fun x71 h70 => (if inb (x9 + 1) (hN h70 4) = true then (if hT h70 a8 = 10 then (bI (c_X10_tunes F a8 (hI h70 4 (ix (x9 + 1))) h70) (fun x73 h72 => (if x71 = x73 then (j1929_11 h72) else (some (0, h72))))) else none) else none))) else none) else none) else (if ((hI h10 4 (ix x9)) &&& 63) = 15 then (if inb (x9 + 1) (hN h10 4) = true then (if hT h10 a7 = 9 then (bI (c_X9_fault F a7 (hI h10 4 (ix (x9 + 1))) h10) (fun x75 h74 => (if inb (x9 + 1) (hN h74 4) = true then (if hT h74 a8 = 10 then (bI (c_X10_fault F a8 (hI h74 4 (ix (x9 + 1))) h74) (fun x77 h76 => (if x75 = x77 then (j1929_11 h76) else (some (0, h76))))) else none) else none))) else none) else none) else (if ((hI h10 4 (ix x9)) &&& 63) = 16 then (if inb (x9 + 1) (hN h10 4) = true then (if inb (x9 + 2) (hN h10 4) = true then (if hT h10 a7 = 9 then (bI (c_X9_rule F a7 (hI h10 4 (ix (x9 + 1))) (hI h10 4 (ix (x9 + 2))) h10) (fun x79 h78 => (if inb (x9 + 1) (hN h78 4) = true then (if inb (x9 + 2) (hN h78 4) = true then (if hT h78 a8 = 10 then (bI (c_X10_rule F a8 (hI h78 4 (ix (x9 + 1))) (hI h78 4 (ix (x9 + 2))) h78) (fun x81 h80 => (if x79 = x81 then (j1929_11 h80) else (some (0, h80))))) else none) else none) else none))) else none) else none) else none) else (if ((hI h10 4 (ix x9)) &&& 63) = 17 then (if inb (x9 + 1) (hN h10 4) = true then (if inb (x9 + 2) (hN h10 4) = true then (if inb (x9 + 3) (hN h10 4) = true then (if hT h10 a7 = 9 then (bI (c_X9_force F a7 (hI h10 4 (ix (x9 + 1))) (hI h10 4 (ix (x9 + 2))) (hI h10 4 (ix (x9 + 3))) h10) (fun x83 h82 => (if inb (x9 + 1) (hN h82 4) = true then (if inb (x9 + 2) (hN h82 4) = true then (if inb (x9 + 3) (hN h82 4) = true then (if hT h82 a8 = 10 then (bI (c_X10_force F a8 (hI h82 4 (ix (x9 + 1))) (hI h82 4 (ix (x9 + 2))) (hI h82 4 (ix (x9 + 3))) h82) (fun x85 h84 => (if x83 = x85 then (j1929_11 h84) else (some (0, h84))))) else none) else none) else none) else none))) else none) else none) else none) else none) else (if ((hI h10 4 (ix x9)) &&& 63) = 18 then (if inb (x9 + 1) (hN h10 4) = true then (if inb (x9 + 2) (hN h10 4) = true then (if inb (x9 + 3) (hN h10 4) = true then (if hT h10 a7 = 9 then (bI (c_X9_why F a7 (hI h10 4 (ix (x9 + 1))) (hI h10 4 (ix (x9 + 2))) (hI h10 4 (ix (x9 + 3))) h10) (fun x87 h86 => (if inb (x9 + 1) (hN h86 4) = true then (if inb (x9 + 2) (hN h86 4) = true then (if inb (x9 + 3) (hN h86 4) = true then (if hT h86 a8 = 10 then (bI (c_X10_why F a8 (hI h86 4 (ix (x9 + 1))) (hI h86 4 (ix (x9 + 2))) (hI h86 4 (ix (x9 + 3))) h86) (fun x89 h88 => (if x87 = x89 then (j1929_11 h88) else (some (0, h88))))) else none) else none) else none) else none))) else none) else none) else none) else none) else (if ((hI h10 4 (ix x9)) &&& 63) = 19 then (if inb (x9 + 1) (hN h10 4) = true then (if inb (x9 + 2) (hN h10 4) = true then (if inb (x9 + 3) (hN h10 4) = true then (if hT h10 a7 = 9 then (bI (c_X9_printer F a7 (hI h10 4 (ix (x9 + 1))) (hI h10 4 (ix (x9 + 2))) (hI h10 4 (ix (x9 + 3))) h10) (fun x91 h90 => (if inb (x9 + 1) (hN h90 4) = true then (if inb (x9 + 2) (hN h90 4) = true then (if inb (x9 + 3) (hN h90 4) = true then (if hT h90 a8 = 10 then (bI (c_X10_printer F a8 (hI h90 4 (ix (x9 + 1))) (hI h90 4 (ix (x9 + 2))) (hI h90 4 (ix (x9 + 3))) h90) (fun x93 h92 => (if x91 = x93 then (j1929_11 h92) else (some (0, h92))))) else none) else none) else none) else none))) else none) else none) else none) else none) else (if ((hI h10 4 (ix x9)) &&& 63) = 20 then (if inb (x9 + 1) (hN h10 4) = true then (if inb (x9 + 2) (hN h10 4) = true then (if inb (x9 + 3) (hN h10 4) = true then (if inb (x9 + 4) (hN h10 4) = true then (if hT h10 a7 = 9 then (bI (c_X9_sheet F a7 (hI h10 4 (ix (x9 + 1))) (hI h10 4 (ix (x9 + 2))) (hI h10 4 (ix (x9 + 3))) (hI h10 4 (ix (x9 + 4))) h10) (fun x95 h94 => (if inb (x9 + 1) (hN h94 4) = true then (if inb (x9 + 2) (hN h94 4) = true then (if inb (x9 + 3) (hN h94 4) = true then (if inb (x9 + 4) (hN h94 4) = true then (if hT h94 a8 = 10 then (bI (c_X10_sheet F a8 (hI h94 4 (ix (x9 + 1))) (hI h94 4 (ix (x9 + 2))) (hI h94 4 (ix (x9 + 3))) (hI h94 4 (ix (x9 + 4))) h94) (fun x97 h96 => (if x95 = x97 then (j1929_11 h96) else (some (0, h96))))) else none) else none) else none) else none) else none))) else none) else none) else none) else none) else none) else (if ((hI h10 4 (ix x9)) &&& 63) = 21 then (if inb (x9 + 1) (hN h10 4) = true then (if inb (x9 + 2) (hN h10 4) = true then (if inb (x9 + 3) (hN h10 4) = true then (if hT h10 a7 = 9 then (bI (c_X9_block F a7 (hI h10 4 (ix (x9 + 1))) (hI h10 4 (ix (x9 + 2))) (hI h10 4 (ix (x9 + 3))) h10) (fun x99 h98 => (if inb (x9 + 1) (hN h98 4) = true then (if inb (x9 + 2) (hN h98 4) = true then (if inb (x9 + 3) (hN h98 4) = true then (if hT h98 a8 = 10 then (bI (c_X10_block F a8 (hI h98 4 (ix (x9 + 1))) (hI h98 4 (ix (x9 + 2))) (hI h98 4 (ix (x9 + 3))) h98) (fun x101 h100 => (if x99 = x101 then (j1929_11 h100) else (some (0, h100))))) else none) else none) else none) else none))) else none) else none) else none) else none) else (if ((hI h10 4 (ix x9)) &&& 63) = 22 then (if inb (x9 + 1) (hN h10 4) = true then (if inb (x9 + 2) (hN h10 4) = true then (if inb (x9 + 3) (hN h10 4) = true then (if hT h10 a7 = 9 then (bI (c_X9_type F a7 (hI h10 4 (ix (x9 + 1))) (hI h10 4 (ix (x9 + 2))) (hI h10 4 (ix (x9 + 3))) h10) (fun x103 h102 => (if inb (x9 + 1) (hN h102 4) = true then (if inb (x9 + 2) (hN h102 4) = true then (if inb (x9 + 3) (hN h102 4) = true then (if hT h102 a8 = 10 then (bI (c_X10_type F a8 (hI h102 4 (ix (x9 + 1))) (hI h102 4 (ix (x9 + 2))) (hI h102 4 (ix (x9 + 3))) h102) (fun x105 h104 => (if x103 = x105 then (j1929_11 h104) else (some (0, h104))))) else none) else none) else none) else none))) else none) else none) else none) else none) else (if ((hI h10 4 (ix x9)) &&& 63) = 23 then (if inb (x9 + 1) (hN h10 4) = true then (if inb (x9 + 2) (hN h10 4) = true then (if inb (x9 + 3) (hN h10 4) = true then (if hT h10 a7 = 9 then (bI (c_X9_span F a7 (hI h10 4 (ix (x9 + 1))) (hI h10 4 (ix (x9 + 2))) (hI h10 4 (ix (x9 + 3))) h10) (fun x107 h106 => (if inb (x9 + 1) (hN h106 4) = true then (if inb (x9 + 2) (hN h106 4) = true then (if inb (x9 + 3) (hN h106 4) = true then (if hT h106 a8 = 10 then (bI (c_X10_span F a8 (hI h106 4 (ix (x9 + 1))) (hI h106 4 (ix (x9 + 2))) (hI h106 4 (ix (x9 + 3))) h106) (fun x109 h108 => (if x107 = x109 then (j1929_11 h108) else (some (0, h108))))) else none) else none) else none) else none))) else none) else none) else none) else none) else (if ((hI h10 4 (ix x9)) &&& 63) = 24 then (if inb (x9 + 1) (hN h10 4) = true then (if inb (x9 + 2) (hN h10 4) = true then (if hT h10 a7 = 9 then (bI (c_X9_told F a7 (hI h10 4 (ix (x9 + 1))) (hI h10 4 (ix (x9 + 2))) h10) (fun x111 h110 => (if inb (x9 + 1) (hN h110 4) = true then (if inb (x9 + 2) (hN h110 4) = true then (if hT h110 a8 = 10 then (bI (c_X10_told F a8 (hI h110 4 (ix (x9 + 1))) (hI h110 4 (ix (x9 + 2))) h110) (fun x113 h112 => (if x111 = x113 then (j1929_11 h112) else (some (0, h112))))) else none) else none) else none))) else none) else none) else none) else (if ((hI h10 4 (ix x9)) &&& 63) = 25 then (if inb (x9 + 1) (hN h10 4) = true then (if inb (x9 + 2) (hN h10 4) = true then (if hT h10 a7 = 9 then (bI (c_X9_mark F a7 (hI h10 4 (ix (x9 + 1))) (hI h10 4 (ix (x9 + 2))) h10) (fun x115 h114 => (if inb (x9 + 1) (hN h114 4) = true then (if inb (x9 + 2) (hN h114 4) = true then (if hT h114 a8 = 10 then (bI (c_X10_mark F a8 (hI h114 4 (ix (x9 + 1))) (hI h114 4 (ix (x9 + 2))) h114) (fun x117 h116 => (if x115 = x117 then (j1929_11 h116) else (some (0, h116))))) else none) else none) else none))) else none) else none) else none) else (if ((hI h10 4 (ix x9)) &&& 63) = 26 then (if inb (x9 + 1) (hN h10 4) = true then (if inb (x9 + 2) (hN h10 4) = true then (if hT h10 a7 = 9 then (bI (c_X9_ahead F a7 (hI h10 4 (ix (x9 + 1))) (hI h10 4 (ix (x9 + 2))) h10) (fun x119 h118 => (if inb (x9 + 1) (hN h118 4) = true then (if inb (x9 + 2) (hN h118 4) = true then (if hT h118 a8 = 10 then (bI (c_X10_ahead F a8 (hI h118 4 (ix (x9 + 1))) (hI h118 4 (ix (x9 + 2))) h118) (fun x121 h120 => (if x119 = x121 then (j1929_11 h120) else (some (0, h120))))) else none) else none) else none))) else none) else none) else none) else (if ((hI h10 4 (ix x9)) &&& 63) = 27 then (if hT h10 a7 = 9 then (bI (c_X9_quarrel F a7 h10) (fun x123 h122 => (if hT h122 a8 = 10 then (bI (c_X10_quarrel F a8 h122) (fun x125 h124 => (if x123 = x125 then (j1929_11 h124) else (some (0, h124))))) else none))) else none) else (if ((hI h10 4 (ix x9)) &&& 63) = 28 then (if inb (x9 + 1) (hN h10 4) = true then (if hT h10 a7 = 9 then (bI (c_X9_orders F a7 (hI h10 4 (ix (x9 + 1))) h10) (fun x127 h126 => (if inb (x9 + 1) (hN h126 4) = true then (if hT h126 a8 = 10 then (bI (c_X10_orders F a8 (hI h126 4 (ix (x9 + 1))) h126) (fun x129 h128 => (if x127 = x129 then (j1929_11 h128) else (some (0, h128))))) else none) else none))) else none) else none) else (if ((hI h10 4 (ix x9)) &&& 63) = 29 then (if inb (x9 + 1) (hN h10 4) = true then (if inb (x9 + 2) (hN h10 4) = true then (if hT h10 a7 = 9 then (bI (c_X9_standsAhead F a7 (hI h10 4 (ix (x9 + 1))) (hI h10 4 (ix (x9 + 2))) h10) (fun x131 h130 => (if inb (x9 + 1) (hN h130 4) = true then (if inb (x9 + 2) (hN h130 4) = true then (if hT h130 a8 = 10 then (bI (c_X10_standsAhead F a8 (hI h130 4 (ix (x9 + 1))) (hI h130 4 (ix (x9 + 2))) h130) (fun x133 h132 => (if x131 = x133 then (j1929_11 h132) else (some (0, h132))))) else none) else none) else none))) else none) else none) else none) else (if ((hI h10 4 (ix x9)) &&& 63) = 30 then (if inb (x9 + 1) (hN h10 4) = true then (if inb (x9 + 2) (hN h10 4) = true then (if hT h10 a7 = 9 then (bI (c_X9_judgeOrder F a7 (hI h10 4 (ix (x9 + 1))) (hI h10 4 (ix (x9 + 2))) h10) (fun x135 h134 => (if inb (x9 + 1) (hN h134 4) = true then (if inb (x9 + 2) (hN h134 4) = true then (if hT h134 a8 = 10 then (bI (c_X10_judgeOrder F a8 (hI h134 4 (ix (x9 + 1))) (hI h134 4 (ix (x9 + 2))) h134) (fun x137 h136 => (if x135 = x137 then (j1929_11 h136) else (some (0, h136))))) else none) else none) else none))) else none) else none) else none) else (if ((hI h10 4 (ix x9)) &&& 63) = 31 then (if inb (x9 + 1) (hN h10 4) = true then (if inb (x9 + 2) (hN h10 4) = true then (lt_ (fun (x139 : Int32) (h140 : z_Hp) => (if hT h140 a7 = 9 then (bI (c_X9_year F a7 (hI h10 4 (ix (x9 + 1))) x139 h140) (fun x142 h141 => (if inb (x9 + 1) (hN h141 4) = true then (if inb (x9 + 2) (hN h141 4) = true then (lt_ (fun (x144 : Int32) (h145 : z_Hp) => (if hT h145 a8 = 10 then (bI (c_X10_year F a8 (hI h141 4 (ix (x9 + 1))) x144 h145) (fun x147 h146 => (if x142 = x147 then (j1929_11 h146) else (some (0, h146))))) else none)) (fun (j1384_143 : Int32 → z_Hp → Option (Int32 × z_Hp)) => (if (hI h141 4 (ix (x9 + 2))) = 0 then (j1384_143 0 h141) else (j1384_143 1 h141)))) else none) else none))) else none)) (fun (j1362_138 : Int32 → z_Hp → Option (Int32 × z_Hp)) => (if (hI h10 4 (ix (x9 + 2))) = 0 then (j1362_138 0 h10) else (j1362_138 1 h10)))) else none) else none) else (if ((hI h10 4 (ix x9)) &&& 63) = 32 then (if hT h10 a7 = 9 then (bI (c_X9_doubts F a7 h10) (fun x149 h148 => (if hT h148 a8 = 10 then (bI (c_X10_doubts F a8 h148) (fun x151 h150 => (if x149 = x151 then (j1929_11 h150) else (some (0, h150))))) else none))) else none) else (if ((hI h10 4 (ix x9)) &&& 63) = 33 then (if inb (x9 + 1) (hN h10 4) = true then (if inb (x9 + 2) (hN h10 4) = true then (if hT h10 a7 = 9 then (bI (c_X9_changes F a7 (hI h10 4 (ix (x9 + 1))) (hI h10 4 (ix (x9 + 2))) h10) (fun x153 h152 => (if inb (x9 + 1) (hN h152 4) = true then (if inb (x9 + 2) (hN h152 4) = true then (if hT h152 a8 = 10 then (bI (c_X10_changes F a8 (hI h152 4 (ix (x9 + 1))) (hI h152 4 (ix (x9 + 2))) h152) (fun x155 h154 => (if x153 = x155 then (j1929_11 h154) else (some (0, h154))))) else none) else none) else none))) else none) else none) else none) else (if ((hI h10 4 (ix x9)) &&& 63) = 34 then (if inb (x9 + 1) (hN h10 4) = true then (if hT h10 a7 = 9 then (bI (c_X9_family F a7 (hI h10 4 (ix (x9 + 1))) h10) (fun x157 h156 => (if inb (x9 + 1) (hN h156 4) = true then (if hT h156 a8 = 10 then (bI (c_X10_family F a8 (hI h156 4 (ix (x9 + 1))) h156) (fun x159 h158 => (if x157 = x159 then (j1929_11 h158) else (some (0, h158))))) else none) else none))) else none) else none) else (if ((hI h10 4 (ix x9)) &&& 63) = 35 then (if inb (x9 + 1) (hN h10 4) = true then (if inb (x9 + 2) (hN h10 4) = true then (if hT h10 a7 = 9 then (bI (c_X9_judge F a7 (hI h10 4 (ix (x9 + 1))) (hI h10 4 (ix (x9 + 2))) h10) (fun x161 h160 => (if inb (x9 + 1) (hN h160 4) = true then (if inb (x9 + 2) (hN h160 4) = true then (if hT h160 a8 = 10 then (bI (c_X10_judge F a8 (hI h160 4 (ix (x9 + 1))) (hI h160 4 (ix (x9 + 2))) h160) (fun x163 h162 => (if x161 = x163 then (j1929_11 h162) else (some (0, h162))))) else none) else none) else none))) else none) else none) else none) else (if ((hI h10 4 (ix x9)) &&& 63) = 36 then (if inb (x9 + 1) (hN h10 4) = true then (if inb (x9 + 2) (hN h10 4) = true then (if hT h10 a7 = 9 then (bI (c_X9_taken F a7 (hI h10 4 (ix (x9 + 1))) (hI h10 4 (ix (x9 + 2))) h10) (fun x165 h164 => (if inb (x9 + 1) (hN h164 4) = true then (if inb (x9 + 2) (hN h164 4) = true then (if hT h164 a8 = 10 then (bI (c_X10_taken F a8 (hI h164 4 (ix (x9 + 1))) (hI h164 4 (ix (x9 + 2))) h164) (fun x167 h166 => (if x165 = x167 then (j1929_11 h166) else (some (0, h166))))) else none) else none) else none))) else none) else none) else none) else (if ((hI h10 4 (ix x9)) &&& 63) = 37 then (if inb (x9 + 1) (hN h10 4) = true then (if inb (x9 + 2) (hN h10 4) = true then (if inb (x9 + 3) (hN h10 4) = true then (if hT h10 a7 = 9 then (bI (c_X9_register F a7 (hI h10 4 (ix (x9 + 1))) (hI h10 4 (ix (x9 + 2))) (hI h10 4 (ix (x9 + 3))) h10) (fun x169 h168 => (if inb (x9 + 1) (hN h168 4) = true then (if inb (x9 + 2) (hN h168 4) = true then (if inb (x9 + 3) (hN h168 4) = true then (if hT h168 a8 = 10 then (bI (c_X10_register F a8 (hI h168 4 (ix (x9 + 1))) (hI h168 4 (ix (x9 + 2))) (hI h168 4 (ix (x9 + 3))) h168) (fun x171 h170 => (if x169 = x171 then (j1929_11 h170) else (some (0, h170))))) else none) else none) else none) else none))) else none) else none) else none) else none) else (if ((hI h10 4 (ix x9)) &&& 63) = 38 then (if inb (x9 + 1) (hN h10 4) = true then (if inb (x9 + 2) (hN h10 4) = true then (if hT h10 a7 = 9 then (bI (c_X9_right F a7 (hI h10 4 (ix (x9 + 1))) (hI h10 4 (ix (x9 + 2))) h10) (fun x173 h172 => (if inb (x9 + 1) (hN h172 4) = true then (if inb (x9 + 2) (hN h172 4) = true then (if hT h172 a8 = 10 then (bI (c_X10_right F a8 (hI h172 4 (ix (x9 + 1))) (hI h172 4 (ix (x9 + 2))) h172) (fun x175 h174 => (if x173 = x175 then (j1929_11 h174) else (some (0, h174))))) else none) else none) else none))) else none) else none) else none) else (if ((hI h10 4 (ix x9)) &&& 63) = 39 then (if inb (x9 + 1) (hN h10 4) = true then (if inb (x9 + 2) (hN h10 4) = true then (if hT h10 a7 = 9 then (bI (c_X9_join F a7 (hI h10 4 (ix (x9 + 1))) (hI h10 4 (ix (x9 + 2))) h10) (fun x177 h176 => (if inb (x9 + 1) (hN h176 4) = true then (if inb (x9 + 2) (hN h176 4) = true then (if hT h176 a8 = 10 then (bI (c_X10_join F a8 (hI h176 4 (ix (x9 + 1))) (hI h176 4 (ix (x9 + 2))) h176) (fun x179 h178 => (if x177 = x179 then (j1929_11 h178) else (some (0, h178))))) else none) else none) else none))) else none) else none) else none) else (if ((hI h10 4 (ix x9)) &&& 63) = 40 then (if inb (x9 + 1) (hN h10 4) = true then (if inb (x9 + 2) (hN h10 4) = true then (if hT h10 a7 = 9 then (bI (c_X9_walk F a7 (hI h10 4 (ix (x9 + 1))) (hI h10 4 (ix (x9 + 2))) h10) (fun x181 h180 => (if inb (x9 + 1) (hN h180 4) = true then (if inb (x9 + 2) (hN h180 4) = true then (if hT h180 a8 = 10 then (bI (c_X10_walk F a8 (hI h180 4 (ix (x9 + 1))) (hI h180 4 (ix (x9 + 2))) h180) (fun x183 h182 => (if x181 = x183 then (j1929_11 h182) else (some (0, h182))))) else none) else none) else none))) else none) else none) else none) else (if ((hI h10 4 (ix x9)) &&& 63) = 41 then (if inb (x9 + 1) (hN h10 4) = true then (if inb (x9 + 2) (hN h10 4) = true then (if inb (x9 + 3) (hN h10 4) = true then (if hT h10 a7 = 9 then (bI (c_X9_sung F a7 (hI h10 4 (ix (x9 + 1))) (hI h10 4 (ix (x9 + 2))) (hI h10 4 (ix (x9 + 3))) h10) (fun x185 h184 => (if inb (x9 + 1) (hN h184 4) = true then (if inb (x9 + 2) (hN h184 4) = true then (if inb (x9 + 3) (hN h184 4) = true then (if hT h184 a8 = 10 then (bI (c_X10_sung F a8 (hI h184 4 (ix (x9 + 1))) (hI h184 4 (ix (x9 + 2))) (hI h184 4 (ix (x9 + 3))) h184) (fun x187 h186 => (if x185 = x187 then (j1929_11 h186) else (some (0, h186))))) else none) else none) else none) else none))) else none) else none) else none) else none) else (if ((hI h10 4 (ix x9)) &&& 63) = 42 then (if inb (x9 + 1) (hN h10 4) = true then (if inb (x9 + 2) (hN h10 4) = true then (if inb (x9 + 3) (hN h10 4) = true then (if hT h10 a7 = 9 then (bI (c_X9_can F a7 (hI h10 4 (ix (x9 + 1))) (hI h10 4 (ix (x9 + 2))) (hI h10 4 (ix (x9 + 3))) h10) (fun x189 h188 => (if inb (x9 + 1) (hN h188 4) = true then (if inb (x9 + 2) (hN h188 4) = true then (if inb (x9 + 3) (hN h188 4) = true then (if hT h188 a8 = 10 then (bI (c_X10_can F a8 (hI h188 4 (ix (x9 + 1))) (hI h188 4 (ix (x9 + 2))) (hI h188 4 (ix (x9 + 3))) h188) (fun x191 h190 => (if x189 = x191 then (j1929_11 h190) else (some (0, h190))))) else none) else none) else none) else none))) else none) else none) else none) else none) else (if ((hI h10 4 (ix x9)) &&& 63) = 43 then (if inb (x9 + 1) (hN h10 4) = true then (if inb (x9 + 2) (hN h10 4) = true then (if hT h10 a7 = 9 then (bI (c_X9_far F a7 (hI h10 4 (ix (x9 + 1))) (hI h10 4 (ix (x9 + 2))) h10) (fun x193 h192 => (if inb (x9 + 1) (hN h192 4) = true then (if inb (x9 + 2) (hN h192 4) = true then (if hT h192 a8 = 10 then (bI (c_X10_far F a8 (hI h192 4 (ix (x9 + 1))) (hI h192 4 (ix (x9 + 2))) h192) (fun x195 h194 => (if x193 = x195 then (j1929_11 h194) else (some (0, h194))))) else none) else none) else none))) else none) else none) else none) else (if ((hI h10 4 (ix x9)) &&& 63) = 44 then (if hT h10 a7 = 9 then (bI (c_X9_lost F a7 h10) (fun x197 h196 => (if hT h196 a8 = 10 then (bI (c_X10_lost F a8 h196) (fun x199 h198 => (if x197 = x199 then (j1929_11 h198) else (some (0, h198))))) else none))) else none) else (if ((hI h10 4 (ix x9)) &&& 63) = 45 then (if hT h10 a7 = 9 then (bL (c_X9_many F a7 h10) (fun y201 h200 => (if hT h200 a8 = 10 then (bL (c_X10_many F a8 h200) (fun y203 h202 => (if (lg_cmp y201 y203) = 0 then (j1929_11 h202) else (some (0, h202))))) else none))) else none) else (if ((hI h10 4 (ix x9)) &&& 63) = 46 then (if hT h10 a7 = 9 then (bI (c_X9_asked F a7 h10) (fun x205 h204 => (if hT h204 a8 = 10 then (bI (c_X10_asked F a8 h204) (fun x207 h206 => (if x205 = x207 then (j1929_11 h206) else (some (0, h206))))) else none))) else none) else (if ((hI h10 4 (ix x9)) &&& 63) = 47 then (if hT h10 a7 = 9 then (bL (c_X9_upper F a7 h10) (fun y209 h208 => (if hT h208 a8 = 10 then (bL (c_X10_upper F a8 h208) (fun y211 h210 => (if (lg_cmp y209 y211) = 0 then (j1929_11 h210) else (some (0, h210))))) else none))) else none) else (if ((hI h10 4 (ix x9)) &&& 63) = 48 then (if hT h10 a7 = 9 then (bL (c_X9_lower F a7 h10) (fun y213 h212 => (if hT h212 a8 = 10 then (bL (c_X10_lower F a8 h212) (fun y215 h214 => (if (lg_cmp y213 y215) = 0 then (j1929_11 h214) else (some (0, h214))))) else none))) else none) else (if ((hI h10 4 (ix x9)) &&& 63) = 49 then (if inb (x9 + 1) (hN h10 4) = true then (if hT h10 a7 = 9 then (bI (c_X9_count F a7 (hI h10 4 (ix (x9 + 1))) h10) (fun x217 h216 => (if inb (x9 + 1) (hN h216 4) = true then (if hT h216 a8 = 10 then (bI (c_X10_count F a8 (hI h216 4 (ix (x9 + 1))) h216) (fun x219 h218 => (if x217 = x219 then (j1929_11 h218) else (some (0, h218))))) else none) else none))) else none) else none) else (if ((hI h10 4 (ix x9)) &&& 63) = 50 then (if hT h10 a7 = 9 then (bI (c_X9_finding F a7 h10) (fun x221 h220 => (if hT h220 a8 = 10 then (bI (c_X10_finding F a8 h220) (fun x223 h222 => (if x221 = x223 then (j1929_11 h222) else (some (0, h222))))) else none))) else none) else (if ((hI h10 4 (ix x9)) &&& 63) = 51 then (if inb (x9 + 1) (hN h10 4) = true then (if hT h10 a7 = 9 then (bI (c_X9_findings F a7 (hI h10 4 (ix (x9 + 1))) h10) (fun x225 h224 => (if inb (x9 + 1) (hN h224 4) = true then (if hT h224 a8 = 10 then (bI (c_X10_findings F a8 (hI h224 4 (ix (x9 + 1))) h224) (fun x227 h226 => (if x225 = x227 then (j1929_11 h226) else (some (0, h226))))) else none) else none))) else none) else none) else (if ((hI h10 4 (ix x9)) &&& 63) = 52 then (if hT h10 a7 = 9 then (bL (c_X9_digest F a7 h10) (fun y229 h228 => (if hT h228 a8 = 10 then (bL (c_X10_digest F a8 h228) (fun y231 h230 => (if (lg_cmp y229 y231) = 0 then (j1929_11 h230) else (some (0, h230))))) else none))) else none) else none)))))))))))))))))))))))))))))))))))))))))))))))))))))))) else none)) else none)
def c_L_law (F : Nat) (h0 : z_Hp) : Option (Int32 × z_Hp) := (nwo h0 9 18 (fun a1 h2 => (bV (c_X9_init F a1 h2) (fun h3 => (nwo h3 10 62 (fun a4 h5 => (bV (c_X10_init F a4 h5) (fun h6 => (c_L_law_L18 F a1 a4 F 0 h6)))))))))
set_option maxRecDepth 50000 in
set_option maxHeartbeats 40000000 in
theorem g_L_law_L18 (F : Nat) (a7 : Nat) (a8 : Nat) : ∀ (n : Nat) (x9 : Int32) (h10 : z_Hp), z_G zi mi_L_law 18 [(0, vr (some 4)), (1, vr (some a7)), (2, vr (some a8)), (3, vi x9)] [] h10 (c_L_law_L18 F a7 a8 n x9 h10) := by
  intro n
  induction n with
  | zero => intro x9 h10; rw [c_L_law_L18]; exact z_none
  | succ n ih =>
    intro x9 h10
    rw [c_L_law_L18]
    refine z_iload_n (pc := 18) dL_law_18 rfl 3 rfl (z_aload_n (pc := 19) dL_law_19 rfl 0 rfl (z_alen (pc := 20) dL_law_20 (z_bipush (pc := 21) dL_law_21 bp_6 (z_isub (pc := 23) dL_law_23 (?_)))))
    refine z_icmp_gt (pc := 24) (tgt := 1935) dL_law_24 (by decide) ?_ ?_
    · refine z_iconst (pc := 1935) dL_law_1935 ic_1 (?_)
      exact z_iret (pc := 1936) dL_law_1936 rfl rfl
    · refine z_aload_n (pc := 27) dL_law_27 rfl 0 rfl (z_iload_n (pc := 28) dL_law_28 rfl 3 rfl (z_iald0 (pc := 29) (by decide) dL_law_29 (z_bipush (pc := 30) dL_law_30 bp_63 (z_iand (pc := 32) dL_law_32 (?_)))))
      refine z_jn (P := fun (j : z_Hp → Option (Int32 × z_Hp)) => ∀ (h12 : z_Hp), z_G zi mi_L_law 1929 [(0, vr (some 4)), (1, vr (some a7)), (2, vr (some a8)), (3, vi x9)] [] h12 (j h12)) (fun h12 => ?_) (fun j1929_11 qj1929_11 => ?_)
      · refine z_iincl (pc := 1929) (L' := fun x13 => [(0, vr (some 4)), (1, vr (some a7)), (2, vr (some a8)), (3, vi x13)]) dL_law_1929 3 rfl ic_6 (Nat.le_of_ble_eq_true rfl) (fun _ => rfl) (fun x13 => (z_goto (pc := 1932) (tgt := 18) dL_law_1932 (by decide) (?_)))
        exact ih x13 h12
      refine z_ite (fun e => z_tblOut (tgt := 1929) dL_law_33 e (by decide) ?_) (fun e => ?_)
      · exact qj1929_11 h10
      refine z_ite (fun e => z_tblC (tgt := 260) (off := 227) e dL_law_33 (by decide) (by decide) (by decide) (by decide) ?_) (fun _ => ?_)
      · refine z_aload_n (pc := 260) dL_law_260 rfl 1 rfl (z_aload_n (pc := 261) dL_law_261 rfl 0 rfl (z_iload_n (pc := 262) dL_law_262 rfl 3 rfl (z_iconst (pc := 263) dL_law_263 ic_1 (z_iadd (pc := 264) dL_law_264 (z_iald0 (pc := 265) (by decide) dL_law_265 (z_aload_n (pc := 266) dL_law_266 rfl 0 rfl (z_iload_n (pc := 267) dL_law_267 rfl 3 rfl (?_))))))))
        refine z_iconst (pc := 268) dL_law_268 ic_2 (z_iadd (pc := 269) dL_law_269 (z_iald0 (pc := 270) (by decide) dL_law_270 (z_callV_I (pc := 271) (avs := [vi (hI h10 4 (ix (x9 + 1))), vi (hI h10 4 (ix (x9 + 2)))]) (st := []) rfl (q := (RX9, TX9, 18)) rfl rfl (t_X9_row F a7 (hI h10 4 (ix (x9 + 1))) (hI h10 4 (ix (x9 + 2))) h10) ky_X9_row wm_X9_row we_X9_row wz_RL_13 (rm_L_law_X9_row) (Nat.le_of_ble_eq_true rfl) dL_law_271 (fun x15 h14 => (?_)))))
        refine z_aload_n (pc := 274) dL_law_274 rfl 2 rfl (z_aload_n (pc := 275) dL_law_275 rfl 0 rfl (z_iload_n (pc := 276) dL_law_276 rfl 3 rfl (z_iconst (pc := 277) dL_law_277 ic_1 (z_iadd (pc := 278) dL_law_278 (z_iald0 (pc := 279) (by decide) dL_law_279 (z_aload_n (pc := 280) dL_law_280 rfl 0 rfl (z_iload_n (pc := 281) dL_law_281 rfl 3 rfl (?_))))))))
        refine z_iconst (pc := 282) dL_law_282 ic_2 (z_iadd (pc := 283) dL_law_283 (z_iald0 (pc := 284) (by decide) dL_law_284 (z_callV_I (pc := 285) (avs := [vi (hI h14 4 (ix (x9 + 1))), vi (hI h14 4 (ix (x9 + 2)))]) (st := [vi x15]) rfl (q := (RX10, TX10, 62)) rfl rfl (t_X10_row F a8 (hI h14 4 (ix (x9 + 1))) (hI h14 4 (ix (x9 + 2))) h14) ky_X10_row wm_X10_row we_X10_row wz_RL_17 (rm_L_law_X10_row) (Nat.le_of_ble_eq_true rfl) dL_law_285 (fun x17 h16 => (?_)))))
        refine z_icmp_eq (pc := 288) (tgt := 1929) dL_law_288 (by decide) ?_ ?_
        · exact qj1929_11 h16
        · refine z_iconst (pc := 291) dL_law_291 ic_0 (?_)
          exact z_iret (pc := 292) dL_law_292 rfl rfl
      refine z_ite (fun e => z_tblC (tgt := 293) (off := 260) e dL_law_33 (by decide) (by decide) (by decide) (by decide) ?_) (fun _ => ?_)
      · refine z_aload_n (pc := 293) dL_law_293 rfl 1 rfl (z_aload_n (pc := 294) dL_law_294 rfl 0 rfl (z_iload_n (pc := 295) dL_law_295 rfl 3 rfl (z_iconst (pc := 296) dL_law_296 ic_1 (z_iadd (pc := 297) dL_law_297 (z_iald0 (pc := 298) (by decide) dL_law_298 (z_aload_n (pc := 299) dL_law_299 rfl 0 rfl (z_iload_n (pc := 300) dL_law_300 rfl 3 rfl (?_))))))))
        refine z_iconst (pc := 301) dL_law_301 ic_2 (z_iadd (pc := 302) dL_law_302 (z_iald0 (pc := 303) (by decide) dL_law_303 (z_aload_n (pc := 304) dL_law_304 rfl 0 rfl (z_iload_n (pc := 305) dL_law_305 rfl 3 rfl (z_iconst (pc := 306) dL_law_306 ic_3 (z_iadd (pc := 307) dL_law_307 (z_iald0 (pc := 308) (by decide) dL_law_308 (?_))))))))
        refine z_callV_I (pc := 309) (avs := [vi (hI h10 4 (ix (x9 + 1))), vi (hI h10 4 (ix (x9 + 2))), vi (hI h10 4 (ix (x9 + 3)))]) (st := []) rfl (q := (RX9, TX9, 18)) rfl rfl (t_X9_lay F a7 (hI h10 4 (ix (x9 + 1))) (hI h10 4 (ix (x9 + 2))) (hI h10 4 (ix (x9 + 3))) h10) ky_X9_lay wm_X9_lay we_X9_lay wz_RL_18 (rm_L_law_X9_lay) (Nat.le_of_ble_eq_true rfl) dL_law_309 (fun x19 h18 => (?_))
        refine z_aload_n (pc := 312) dL_law_312 rfl 2 rfl (z_aload_n (pc := 313) dL_law_313 rfl 0 rfl (z_iload_n (pc := 314) dL_law_314 rfl 3 rfl (z_iconst (pc := 315) dL_law_315 ic_1 (z_iadd (pc := 316) dL_law_316 (z_iald0 (pc := 317) (by decide) dL_law_317 (z_aload_n (pc := 318) dL_law_318 rfl 0 rfl (z_iload_n (pc := 319) dL_law_319 rfl 3 rfl (?_))))))))
        refine z_iconst (pc := 320) dL_law_320 ic_2 (z_iadd (pc := 321) dL_law_321 (z_iald0 (pc := 322) (by decide) dL_law_322 (z_aload_n (pc := 323) dL_law_323 rfl 0 rfl (z_iload_n (pc := 324) dL_law_324 rfl 3 rfl (z_iconst (pc := 325) dL_law_325 ic_3 (z_iadd (pc := 326) dL_law_326 (z_iald0 (pc := 327) (by decide) dL_law_327 (?_))))))))
        refine z_callV_I (pc := 328) (avs := [vi (hI h18 4 (ix (x9 + 1))), vi (hI h18 4 (ix (x9 + 2))), vi (hI h18 4 (ix (x9 + 3)))]) (st := [vi x19]) rfl (q := (RX10, TX10, 62)) rfl rfl (t_X10_lay F a8 (hI h18 4 (ix (x9 + 1))) (hI h18 4 (ix (x9 + 2))) (hI h18 4 (ix (x9 + 3))) h18) ky_X10_lay wm_X10_lay we_X10_lay wz_RL_22 (rm_L_law_X10_lay) (Nat.le_of_ble_eq_true rfl) dL_law_328 (fun x21 h20 => (?_))
        refine z_icmp_eq (pc := 331) (tgt := 1929) dL_law_331 (by decide) ?_ ?_
        · exact qj1929_11 h20
        · refine z_iconst (pc := 334) dL_law_334 ic_0 (?_)
          exact z_iret (pc := 335) dL_law_335 rfl rfl
      refine z_ite (fun e => z_tblC (tgt := 336) (off := 303) e dL_law_33 (by decide) (by decide) (by decide) (by decide) ?_) (fun _ => ?_)
      · refine z_aload_n (pc := 336) dL_law_336 rfl 1 rfl (z_aload_n (pc := 337) dL_law_337 rfl 0 rfl (z_iload_n (pc := 338) dL_law_338 rfl 3 rfl (z_iconst (pc := 339) dL_law_339 ic_1 (z_iadd (pc := 340) dL_law_340 (z_iald0 (pc := 341) (by decide) dL_law_341 (z_callV_I (pc := 342) (avs := [vi (hI h10 4 (ix (x9 + 1)))]) (st := []) rfl (q := (RX9, TX9, 18)) rfl rfl (t_X9_tear F a7 (hI h10 4 (ix (x9 + 1))) h10) ky_X9_tear wm_X9_tear we_X9_tear wz_RL_23 (rm_L_law_X9_tear) (Nat.le_of_ble_eq_true rfl) dL_law_342 (fun x23 h22 => (?_))))))))
        refine z_aload_n (pc := 345) dL_law_345 rfl 2 rfl (z_aload_n (pc := 346) dL_law_346 rfl 0 rfl (z_iload_n (pc := 347) dL_law_347 rfl 3 rfl (z_iconst (pc := 348) dL_law_348 ic_1 (z_iadd (pc := 349) dL_law_349 (z_iald0 (pc := 350) (by decide) dL_law_350 (z_callV_I (pc := 351) (avs := [vi (hI h22 4 (ix (x9 + 1)))]) (st := [vi x23]) rfl (q := (RX10, TX10, 62)) rfl rfl (t_X10_tear F a8 (hI h22 4 (ix (x9 + 1))) h22) ky_X10_tear wm_X10_tear we_X10_tear wz_RL_27 (rm_L_law_X10_tear) (Nat.le_of_ble_eq_true rfl) dL_law_351 (fun x25 h24 => (?_))))))))
        refine z_icmp_eq (pc := 354) (tgt := 1929) dL_law_354 (by decide) ?_ ?_
        · exact qj1929_11 h24
        · refine z_iconst (pc := 357) dL_law_357 ic_0 (?_)
          exact z_iret (pc := 358) dL_law_358 rfl rfl
      refine z_ite (fun e => z_tblC (tgt := 359) (off := 326) e dL_law_33 (by decide) (by decide) (by decide) (by decide) ?_) (fun _ => ?_)
      · refine z_aload_n (pc := 359) dL_law_359 rfl 1 rfl (z_aload_n (pc := 360) dL_law_360 rfl 0 rfl (z_iload_n (pc := 361) dL_law_361 rfl 3 rfl (z_iconst (pc := 362) dL_law_362 ic_1 (z_iadd (pc := 363) dL_law_363 (z_iald0 (pc := 364) (by decide) dL_law_364 (z_aload_n (pc := 365) dL_law_365 rfl 0 rfl (z_iload_n (pc := 366) dL_law_366 rfl 3 rfl (?_))))))))
        refine z_iconst (pc := 367) dL_law_367 ic_2 (z_iadd (pc := 368) dL_law_368 (z_iald0 (pc := 369) (by decide) dL_law_369 (z_aload_n (pc := 370) dL_law_370 rfl 0 rfl (z_iload_n (pc := 371) dL_law_371 rfl 3 rfl (z_iconst (pc := 372) dL_law_372 ic_3 (z_iadd (pc := 373) dL_law_373 (z_iald0 (pc := 374) (by decide) dL_law_374 (?_))))))))
        refine z_aload_n (pc := 375) dL_law_375 rfl 0 rfl (z_iload_n (pc := 376) dL_law_376 rfl 3 rfl (z_iconst (pc := 377) dL_law_377 ic_4 (z_iadd (pc := 378) dL_law_378 (z_iald0 (pc := 379) (by decide) dL_law_379 (z_aload_n (pc := 380) dL_law_380 rfl 0 rfl (z_iload_n (pc := 381) dL_law_381 rfl 3 rfl (z_iconst (pc := 382) dL_law_382 ic_5 (?_))))))))
        refine z_iadd (pc := 383) dL_law_383 (z_iald0 (pc := 384) (by decide) dL_law_384 (z_callV_I (pc := 385) (avs := [vi (hI h10 4 (ix (x9 + 1))), vi (hI h10 4 (ix (x9 + 2))), vi (hI h10 4 (ix (x9 + 3))), vi (hI h10 4 (ix (x9 + 4))), vi (hI h10 4 (ix (x9 + 5)))]) (st := []) rfl (q := (RX9, TX9, 18)) rfl rfl (t_X9_copy F a7 (hI h10 4 (ix (x9 + 1))) (hI h10 4 (ix (x9 + 2))) (hI h10 4 (ix (x9 + 3))) (hI h10 4 (ix (x9 + 4))) (hI h10 4 (ix (x9 + 5))) h10) ky_X9_copy wm_X9_copy we_X9_copy wz_RL_28 (rm_L_law_X9_copy) (Nat.le_of_ble_eq_true rfl) dL_law_385 (fun x27 h26 => (?_))))
        refine z_aload_n (pc := 388) dL_law_388 rfl 2 rfl (z_aload_n (pc := 389) dL_law_389 rfl 0 rfl (z_iload_n (pc := 390) dL_law_390 rfl 3 rfl (z_iconst (pc := 391) dL_law_391 ic_1 (z_iadd (pc := 392) dL_law_392 (z_iald0 (pc := 393) (by decide) dL_law_393 (z_aload_n (pc := 394) dL_law_394 rfl 0 rfl (z_iload_n (pc := 395) dL_law_395 rfl 3 rfl (?_))))))))
        refine z_iconst (pc := 396) dL_law_396 ic_2 (z_iadd (pc := 397) dL_law_397 (z_iald0 (pc := 398) (by decide) dL_law_398 (z_aload_n (pc := 399) dL_law_399 rfl 0 rfl (z_iload_n (pc := 400) dL_law_400 rfl 3 rfl (z_iconst (pc := 401) dL_law_401 ic_3 (z_iadd (pc := 402) dL_law_402 (z_iald0 (pc := 403) (by decide) dL_law_403 (?_))))))))
        refine z_aload_n (pc := 404) dL_law_404 rfl 0 rfl (z_iload_n (pc := 405) dL_law_405 rfl 3 rfl (z_iconst (pc := 406) dL_law_406 ic_4 (z_iadd (pc := 407) dL_law_407 (z_iald0 (pc := 408) (by decide) dL_law_408 (z_aload_n (pc := 409) dL_law_409 rfl 0 rfl (z_iload_n (pc := 410) dL_law_410 rfl 3 rfl (z_iconst (pc := 411) dL_law_411 ic_5 (?_))))))))
        refine z_iadd (pc := 412) dL_law_412 (z_iald0 (pc := 413) (by decide) dL_law_413 (z_callV_I (pc := 414) (avs := [vi (hI h26 4 (ix (x9 + 1))), vi (hI h26 4 (ix (x9 + 2))), vi (hI h26 4 (ix (x9 + 3))), vi (hI h26 4 (ix (x9 + 4))), vi (hI h26 4 (ix (x9 + 5)))]) (st := [vi x27]) rfl (q := (RX10, TX10, 62)) rfl rfl (t_X10_copy F a8 (hI h26 4 (ix (x9 + 1))) (hI h26 4 (ix (x9 + 2))) (hI h26 4 (ix (x9 + 3))) (hI h26 4 (ix (x9 + 4))) (hI h26 4 (ix (x9 + 5))) h26) ky_X10_copy wm_X10_copy we_X10_copy wz_RL_32 (rm_L_law_X10_copy) (Nat.le_of_ble_eq_true rfl) dL_law_414 (fun x29 h28 => (?_))))
        refine z_icmp_eq (pc := 417) (tgt := 1929) dL_law_417 (by decide) ?_ ?_
        · exact qj1929_11 h28
        · refine z_iconst (pc := 420) dL_law_420 ic_0 (?_)
          exact z_iret (pc := 421) dL_law_421 rfl rfl
      refine z_ite (fun e => z_tblC (tgt := 422) (off := 389) e dL_law_33 (by decide) (by decide) (by decide) (by decide) ?_) (fun _ => ?_)
      · refine z_aload_n (pc := 422) dL_law_422 rfl 1 rfl (z_aload_n (pc := 423) dL_law_423 rfl 0 rfl (z_iload_n (pc := 424) dL_law_424 rfl 3 rfl (z_iconst (pc := 425) dL_law_425 ic_1 (z_iadd (pc := 426) dL_law_426 (z_iald0 (pc := 427) (by decide) dL_law_427 (z_callV_I (pc := 428) (avs := [vi (hI h10 4 (ix (x9 + 1)))]) (st := []) rfl (q := (RX9, TX9, 18)) rfl rfl (t_X9_mean F a7 (hI h10 4 (ix (x9 + 1))) h10) ky_X9_mean wm_X9_mean we_X9_mean wz_RL_33 (rm_L_law_X9_mean) (Nat.le_of_ble_eq_true rfl) dL_law_428 (fun x31 h30 => (?_))))))))
        refine z_aload_n (pc := 431) dL_law_431 rfl 2 rfl (z_aload_n (pc := 432) dL_law_432 rfl 0 rfl (z_iload_n (pc := 433) dL_law_433 rfl 3 rfl (z_iconst (pc := 434) dL_law_434 ic_1 (z_iadd (pc := 435) dL_law_435 (z_iald0 (pc := 436) (by decide) dL_law_436 (z_callV_I (pc := 437) (avs := [vi (hI h30 4 (ix (x9 + 1)))]) (st := [vi x31]) rfl (q := (RX10, TX10, 62)) rfl rfl (t_X10_mean F a8 (hI h30 4 (ix (x9 + 1))) h30) ky_X10_mean wm_X10_mean we_X10_mean wz_RL_36 (rm_L_law_X10_mean) (Nat.le_of_ble_eq_true rfl) dL_law_437 (fun x33 h32 => (?_))))))))
        refine z_icmp_eq (pc := 440) (tgt := 1929) dL_law_440 (by decide) ?_ ?_
        · exact qj1929_11 h32
        · refine z_iconst (pc := 443) dL_law_443 ic_0 (?_)
          exact z_iret (pc := 444) dL_law_444 rfl rfl
      refine z_ite (fun e => z_tblC (tgt := 445) (off := 412) e dL_law_33 (by decide) (by decide) (by decide) (by decide) ?_) (fun _ => ?_)
      · refine z_aload_n (pc := 445) dL_law_445 rfl 1 rfl (z_aload_n (pc := 446) dL_law_446 rfl 0 rfl (z_iload_n (pc := 447) dL_law_447 rfl 3 rfl (z_iconst (pc := 448) dL_law_448 ic_1 (z_iadd (pc := 449) dL_law_449 (z_iald0 (pc := 450) (by decide) dL_law_450 (z_aload_n (pc := 451) dL_law_451 rfl 0 rfl (z_iload_n (pc := 452) dL_law_452 rfl 3 rfl (?_))))))))
        refine z_iconst (pc := 453) dL_law_453 ic_2 (z_iadd (pc := 454) dL_law_454 (z_iald0 (pc := 455) (by decide) dL_law_455 (z_callV_I (pc := 456) (avs := [vi (hI h10 4 (ix (x9 + 1))), vi (hI h10 4 (ix (x9 + 2)))]) (st := []) rfl (q := (RX9, TX9, 18)) rfl rfl (t_X9_text F a7 (hI h10 4 (ix (x9 + 1))) (hI h10 4 (ix (x9 + 2))) h10) ky_X9_text wm_X9_text we_X9_text wz_RL_37 (rm_L_law_X9_text) (Nat.le_of_ble_eq_true rfl) dL_law_456 (fun x35 h34 => (?_)))))
        refine z_aload_n (pc := 459) dL_law_459 rfl 2 rfl (z_aload_n (pc := 460) dL_law_460 rfl 0 rfl (z_iload_n (pc := 461) dL_law_461 rfl 3 rfl (z_iconst (pc := 462) dL_law_462 ic_1 (z_iadd (pc := 463) dL_law_463 (z_iald0 (pc := 464) (by decide) dL_law_464 (z_aload_n (pc := 465) dL_law_465 rfl 0 rfl (z_iload_n (pc := 466) dL_law_466 rfl 3 rfl (?_))))))))
        refine z_iconst (pc := 467) dL_law_467 ic_2 (z_iadd (pc := 468) dL_law_468 (z_iald0 (pc := 469) (by decide) dL_law_469 (z_callV_I (pc := 470) (avs := [vi (hI h34 4 (ix (x9 + 1))), vi (hI h34 4 (ix (x9 + 2)))]) (st := [vi x35]) rfl (q := (RX10, TX10, 62)) rfl rfl (t_X10_text F a8 (hI h34 4 (ix (x9 + 1))) (hI h34 4 (ix (x9 + 2))) h34) ky_X10_text wm_X10_text we_X10_text wz_RL_40 (rm_L_law_X10_text) (Nat.le_of_ble_eq_true rfl) dL_law_470 (fun x37 h36 => (?_)))))
        refine z_icmp_eq (pc := 473) (tgt := 1929) dL_law_473 (by decide) ?_ ?_
        · exact qj1929_11 h36
        · refine z_iconst (pc := 476) dL_law_476 ic_0 (?_)
          exact z_iret (pc := 477) dL_law_477 rfl rfl
      refine z_ite (fun e => z_tblC (tgt := 478) (off := 445) e dL_law_33 (by decide) (by decide) (by decide) (by decide) ?_) (fun _ => ?_)
      · refine z_aload_n (pc := 478) dL_law_478 rfl 1 rfl (z_aload_n (pc := 479) dL_law_479 rfl 0 rfl (z_iload_n (pc := 480) dL_law_480 rfl 3 rfl (z_iconst (pc := 481) dL_law_481 ic_1 (z_iadd (pc := 482) dL_law_482 (z_iald0 (pc := 483) (by decide) dL_law_483 (z_aload_n (pc := 484) dL_law_484 rfl 0 rfl (z_iload_n (pc := 485) dL_law_485 rfl 3 rfl (?_))))))))
        refine z_iconst (pc := 486) dL_law_486 ic_2 (z_iadd (pc := 487) dL_law_487 (z_iald0 (pc := 488) (by decide) dL_law_488 (z_aload_n (pc := 489) dL_law_489 rfl 0 rfl (z_iload_n (pc := 490) dL_law_490 rfl 3 rfl (z_iconst (pc := 491) dL_law_491 ic_3 (z_iadd (pc := 492) dL_law_492 (z_iald0 (pc := 493) (by decide) dL_law_493 (?_))))))))
        refine z_callV_I (pc := 494) (avs := [vi (hI h10 4 (ix (x9 + 1))), vi (hI h10 4 (ix (x9 + 2))), vi (hI h10 4 (ix (x9 + 3)))]) (st := []) rfl (q := (RX9, TX9, 18)) rfl rfl (t_X9_put F a7 (hI h10 4 (ix (x9 + 1))) (hI h10 4 (ix (x9 + 2))) (hI h10 4 (ix (x9 + 3))) h10) ky_X9_put wm_X9_put we_X9_put wz_RL_41 (rm_L_law_X9_put) (Nat.le_of_ble_eq_true rfl) dL_law_494 (fun x39 h38 => (?_))
        refine z_aload_n (pc := 497) dL_law_497 rfl 2 rfl (z_aload_n (pc := 498) dL_law_498 rfl 0 rfl (z_iload_n (pc := 499) dL_law_499 rfl 3 rfl (z_iconst (pc := 500) dL_law_500 ic_1 (z_iadd (pc := 501) dL_law_501 (z_iald0 (pc := 502) (by decide) dL_law_502 (z_aload_n (pc := 503) dL_law_503 rfl 0 rfl (z_iload_n (pc := 504) dL_law_504 rfl 3 rfl (?_))))))))
        refine z_iconst (pc := 505) dL_law_505 ic_2 (z_iadd (pc := 506) dL_law_506 (z_iald0 (pc := 507) (by decide) dL_law_507 (z_aload_n (pc := 508) dL_law_508 rfl 0 rfl (z_iload_n (pc := 509) dL_law_509 rfl 3 rfl (z_iconst (pc := 510) dL_law_510 ic_3 (z_iadd (pc := 511) dL_law_511 (z_iald0 (pc := 512) (by decide) dL_law_512 (?_))))))))
        refine z_callV_I (pc := 513) (avs := [vi (hI h38 4 (ix (x9 + 1))), vi (hI h38 4 (ix (x9 + 2))), vi (hI h38 4 (ix (x9 + 3)))]) (st := [vi x39]) rfl (q := (RX10, TX10, 62)) rfl rfl (t_X10_put F a8 (hI h38 4 (ix (x9 + 1))) (hI h38 4 (ix (x9 + 2))) (hI h38 4 (ix (x9 + 3))) h38) ky_X10_put wm_X10_put we_X10_put wz_RL_44 (rm_L_law_X10_put) (Nat.le_of_ble_eq_true rfl) dL_law_513 (fun x41 h40 => (?_))
        refine z_icmp_eq (pc := 516) (tgt := 1929) dL_law_516 (by decide) ?_ ?_
        · exact qj1929_11 h40
        · refine z_iconst (pc := 519) dL_law_519 ic_0 (?_)
          exact z_iret (pc := 520) dL_law_520 rfl rfl
      refine z_ite (fun e => z_tblC (tgt := 521) (off := 488) e dL_law_33 (by decide) (by decide) (by decide) (by decide) ?_) (fun _ => ?_)
      · refine z_aload_n (pc := 521) dL_law_521 rfl 1 rfl (z_aload_n (pc := 522) dL_law_522 rfl 0 rfl (z_iload_n (pc := 523) dL_law_523 rfl 3 rfl (z_iconst (pc := 524) dL_law_524 ic_1 (z_iadd (pc := 525) dL_law_525 (z_iald0 (pc := 526) (by decide) dL_law_526 (z_callV_I (pc := 527) (avs := [vi (hI h10 4 (ix (x9 + 1)))]) (st := []) rfl (q := (RX9, TX9, 18)) rfl rfl (t_X9_later F a7 (hI h10 4 (ix (x9 + 1))) h10) ky_X9_later wm_X9_later we_X9_later wz_RL_45 (rm_L_law_X9_later) (Nat.le_of_ble_eq_true rfl) dL_law_527 (fun x43 h42 => (?_))))))))
        refine z_aload_n (pc := 530) dL_law_530 rfl 2 rfl (z_aload_n (pc := 531) dL_law_531 rfl 0 rfl (z_iload_n (pc := 532) dL_law_532 rfl 3 rfl (z_iconst (pc := 533) dL_law_533 ic_1 (z_iadd (pc := 534) dL_law_534 (z_iald0 (pc := 535) (by decide) dL_law_535 (z_callV_I (pc := 536) (avs := [vi (hI h42 4 (ix (x9 + 1)))]) (st := [vi x43]) rfl (q := (RX10, TX10, 62)) rfl rfl (t_X10_later F a8 (hI h42 4 (ix (x9 + 1))) h42) ky_X10_later wm_X10_later we_X10_later wz_RL_48 (rm_L_law_X10_later) (Nat.le_of_ble_eq_true rfl) dL_law_536 (fun x45 h44 => (?_))))))))
        refine z_icmp_eq (pc := 539) (tgt := 1929) dL_law_539 (by decide) ?_ ?_
        · exact qj1929_11 h44
        · refine z_iconst (pc := 542) dL_law_542 ic_0 (?_)
          exact z_iret (pc := 543) dL_law_543 rfl rfl
      refine z_ite (fun e => z_tblC (tgt := 544) (off := 511) e dL_law_33 (by decide) (by decide) (by decide) (by decide) ?_) (fun _ => ?_)
      · refine z_aload_n (pc := 544) dL_law_544 rfl 1 rfl (z_aload_n (pc := 545) dL_law_545 rfl 0 rfl (z_iload_n (pc := 546) dL_law_546 rfl 3 rfl (z_iconst (pc := 547) dL_law_547 ic_1 (z_iadd (pc := 548) dL_law_548 (z_iald0 (pc := 549) (by decide) dL_law_549 (z_aload_n (pc := 550) dL_law_550 rfl 0 rfl (z_iload_n (pc := 551) dL_law_551 rfl 3 rfl (?_))))))))
        refine z_iconst (pc := 552) dL_law_552 ic_2 (z_iadd (pc := 553) dL_law_553 (z_iald0 (pc := 554) (by decide) dL_law_554 (z_callV_I (pc := 555) (avs := [vi (hI h10 4 (ix (x9 + 1))), vi (hI h10 4 (ix (x9 + 2)))]) (st := []) rfl (q := (RX9, TX9, 18)) rfl rfl (t_X9_song F a7 (hI h10 4 (ix (x9 + 1))) (hI h10 4 (ix (x9 + 2))) h10) ky_X9_song wm_X9_song we_X9_song wz_RL_49 (rm_L_law_X9_song) (Nat.le_of_ble_eq_true rfl) dL_law_555 (fun x47 h46 => (?_)))))
        refine z_aload_n (pc := 558) dL_law_558 rfl 2 rfl (z_aload_n (pc := 559) dL_law_559 rfl 0 rfl (z_iload_n (pc := 560) dL_law_560 rfl 3 rfl (z_iconst (pc := 561) dL_law_561 ic_1 (z_iadd (pc := 562) dL_law_562 (z_iald0 (pc := 563) (by decide) dL_law_563 (z_aload_n (pc := 564) dL_law_564 rfl 0 rfl (z_iload_n (pc := 565) dL_law_565 rfl 3 rfl (?_))))))))
        refine z_iconst (pc := 566) dL_law_566 ic_2 (z_iadd (pc := 567) dL_law_567 (z_iald0 (pc := 568) (by decide) dL_law_568 (z_callV_I (pc := 569) (avs := [vi (hI h46 4 (ix (x9 + 1))), vi (hI h46 4 (ix (x9 + 2)))]) (st := [vi x47]) rfl (q := (RX10, TX10, 62)) rfl rfl (t_X10_song F a8 (hI h46 4 (ix (x9 + 1))) (hI h46 4 (ix (x9 + 2))) h46) ky_X10_song wm_X10_song we_X10_song wz_RL_52 (rm_L_law_X10_song) (Nat.le_of_ble_eq_true rfl) dL_law_569 (fun x49 h48 => (?_)))))
        refine z_icmp_eq (pc := 572) (tgt := 1929) dL_law_572 (by decide) ?_ ?_
        · exact qj1929_11 h48
        · refine z_iconst (pc := 575) dL_law_575 ic_0 (?_)
          exact z_iret (pc := 576) dL_law_576 rfl rfl
      refine z_ite (fun e => z_tblC (tgt := 577) (off := 544) e dL_law_33 (by decide) (by decide) (by decide) (by decide) ?_) (fun _ => ?_)
      · refine z_aload_n (pc := 577) dL_law_577 rfl 1 rfl (z_aload_n (pc := 578) dL_law_578 rfl 0 rfl (z_iload_n (pc := 579) dL_law_579 rfl 3 rfl (z_iconst (pc := 580) dL_law_580 ic_1 (z_iadd (pc := 581) dL_law_581 (z_iald0 (pc := 582) (by decide) dL_law_582 (z_aload_n (pc := 583) dL_law_583 rfl 0 rfl (z_iload_n (pc := 584) dL_law_584 rfl 3 rfl (?_))))))))
        refine z_iconst (pc := 585) dL_law_585 ic_2 (z_iadd (pc := 586) dL_law_586 (z_iald0 (pc := 587) (by decide) dL_law_587 (z_callV_I (pc := 588) (avs := [vi (hI h10 4 (ix (x9 + 1))), vi (hI h10 4 (ix (x9 + 2)))]) (st := []) rfl (q := (RX9, TX9, 18)) rfl rfl (t_X9_songTold F a7 (hI h10 4 (ix (x9 + 1))) (hI h10 4 (ix (x9 + 2))) h10) ky_X9_songTold wm_X9_songTold we_X9_songTold wz_RL_53 (rm_L_law_X9_songTold) (Nat.le_of_ble_eq_true rfl) dL_law_588 (fun x51 h50 => (?_)))))
        refine z_aload_n (pc := 591) dL_law_591 rfl 2 rfl (z_aload_n (pc := 592) dL_law_592 rfl 0 rfl (z_iload_n (pc := 593) dL_law_593 rfl 3 rfl (z_iconst (pc := 594) dL_law_594 ic_1 (z_iadd (pc := 595) dL_law_595 (z_iald0 (pc := 596) (by decide) dL_law_596 (z_aload_n (pc := 597) dL_law_597 rfl 0 rfl (z_iload_n (pc := 598) dL_law_598 rfl 3 rfl (?_))))))))
        refine z_iconst (pc := 599) dL_law_599 ic_2 (z_iadd (pc := 600) dL_law_600 (z_iald0 (pc := 601) (by decide) dL_law_601 (z_callV_I (pc := 602) (avs := [vi (hI h50 4 (ix (x9 + 1))), vi (hI h50 4 (ix (x9 + 2)))]) (st := [vi x51]) rfl (q := (RX10, TX10, 62)) rfl rfl (t_X10_songTold F a8 (hI h50 4 (ix (x9 + 1))) (hI h50 4 (ix (x9 + 2))) h50) ky_X10_songTold wm_X10_songTold we_X10_songTold wz_RL_56 (rm_L_law_X10_songTold) (Nat.le_of_ble_eq_true rfl) dL_law_602 (fun x53 h52 => (?_)))))
        refine z_icmp_eq (pc := 605) (tgt := 1929) dL_law_605 (by decide) ?_ ?_
        · exact qj1929_11 h52
        · refine z_iconst (pc := 608) dL_law_608 ic_0 (?_)
          exact z_iret (pc := 609) dL_law_609 rfl rfl
      refine z_ite (fun e => z_tblC (tgt := 610) (off := 577) e dL_law_33 (by decide) (by decide) (by decide) (by decide) ?_) (fun _ => ?_)
      · refine z_aload_n (pc := 610) dL_law_610 rfl 1 rfl (z_aload_n (pc := 611) dL_law_611 rfl 0 rfl (z_iload_n (pc := 612) dL_law_612 rfl 3 rfl (z_iconst (pc := 613) dL_law_613 ic_1 (z_iadd (pc := 614) dL_law_614 (z_iald0 (pc := 615) (by decide) dL_law_615 (z_aload_n (pc := 616) dL_law_616 rfl 0 rfl (z_iload_n (pc := 617) dL_law_617 rfl 3 rfl (?_))))))))
        refine z_iconst (pc := 618) dL_law_618 ic_2 (z_iadd (pc := 619) dL_law_619 (z_iald0 (pc := 620) (by decide) dL_law_620 (z_callV_I (pc := 621) (avs := [vi (hI h10 4 (ix (x9 + 1))), vi (hI h10 4 (ix (x9 + 2)))]) (st := []) rfl (q := (RX9, TX9, 18)) rfl rfl (t_X9_measure F a7 (hI h10 4 (ix (x9 + 1))) (hI h10 4 (ix (x9 + 2))) h10) ky_X9_measure wm_X9_measure we_X9_measure wz_RL_57 (rm_L_law_X9_measure) (Nat.le_of_ble_eq_true rfl) dL_law_621 (fun x55 h54 => (?_)))))
        refine z_aload_n (pc := 624) dL_law_624 rfl 2 rfl (z_aload_n (pc := 625) dL_law_625 rfl 0 rfl (z_iload_n (pc := 626) dL_law_626 rfl 3 rfl (z_iconst (pc := 627) dL_law_627 ic_1 (z_iadd (pc := 628) dL_law_628 (z_iald0 (pc := 629) (by decide) dL_law_629 (z_aload_n (pc := 630) dL_law_630 rfl 0 rfl (z_iload_n (pc := 631) dL_law_631 rfl 3 rfl (?_))))))))
        refine z_iconst (pc := 632) dL_law_632 ic_2 (z_iadd (pc := 633) dL_law_633 (z_iald0 (pc := 634) (by decide) dL_law_634 (z_callV_I (pc := 635) (avs := [vi (hI h54 4 (ix (x9 + 1))), vi (hI h54 4 (ix (x9 + 2)))]) (st := [vi x55]) rfl (q := (RX10, TX10, 62)) rfl rfl (t_X10_measure F a8 (hI h54 4 (ix (x9 + 1))) (hI h54 4 (ix (x9 + 2))) h54) ky_X10_measure wm_X10_measure we_X10_measure wz_RL_60 (rm_L_law_X10_measure) (Nat.le_of_ble_eq_true rfl) dL_law_635 (fun x57 h56 => (?_)))))
        refine z_icmp_eq (pc := 638) (tgt := 1929) dL_law_638 (by decide) ?_ ?_
        · exact qj1929_11 h56
        · refine z_iconst (pc := 641) dL_law_641 ic_0 (?_)
          exact z_iret (pc := 642) dL_law_642 rfl rfl
      refine z_ite (fun e => z_tblC (tgt := 643) (off := 610) e dL_law_33 (by decide) (by decide) (by decide) (by decide) ?_) (fun _ => ?_)
      · refine z_aload_n (pc := 643) dL_law_643 rfl 1 rfl (z_aload_n (pc := 644) dL_law_644 rfl 0 rfl (z_iload_n (pc := 645) dL_law_645 rfl 3 rfl (z_iconst (pc := 646) dL_law_646 ic_1 (z_iadd (pc := 647) dL_law_647 (z_iald0 (pc := 648) (by decide) dL_law_648 (z_aload_n (pc := 649) dL_law_649 rfl 0 rfl (z_iload_n (pc := 650) dL_law_650 rfl 3 rfl (?_))))))))
        refine z_iconst (pc := 651) dL_law_651 ic_2 (z_iadd (pc := 652) dL_law_652 (z_iald0 (pc := 653) (by decide) dL_law_653 (z_aload_n (pc := 654) dL_law_654 rfl 0 rfl (z_iload_n (pc := 655) dL_law_655 rfl 3 rfl (z_iconst (pc := 656) dL_law_656 ic_3 (z_iadd (pc := 657) dL_law_657 (z_iald0 (pc := 658) (by decide) dL_law_658 (?_))))))))
        refine z_callV_I (pc := 659) (avs := [vi (hI h10 4 (ix (x9 + 1))), vi (hI h10 4 (ix (x9 + 2))), vi (hI h10 4 (ix (x9 + 3)))]) (st := []) rfl (q := (RX9, TX9, 18)) rfl rfl (t_X9_rhyme F a7 (hI h10 4 (ix (x9 + 1))) (hI h10 4 (ix (x9 + 2))) (hI h10 4 (ix (x9 + 3))) h10) ky_X9_rhyme wm_X9_rhyme we_X9_rhyme wz_RL_61 (rm_L_law_X9_rhyme) (Nat.le_of_ble_eq_true rfl) dL_law_659 (fun x59 h58 => (?_))
        refine z_aload_n (pc := 662) dL_law_662 rfl 2 rfl (z_aload_n (pc := 663) dL_law_663 rfl 0 rfl (z_iload_n (pc := 664) dL_law_664 rfl 3 rfl (z_iconst (pc := 665) dL_law_665 ic_1 (z_iadd (pc := 666) dL_law_666 (z_iald0 (pc := 667) (by decide) dL_law_667 (z_aload_n (pc := 668) dL_law_668 rfl 0 rfl (z_iload_n (pc := 669) dL_law_669 rfl 3 rfl (?_))))))))
        refine z_iconst (pc := 670) dL_law_670 ic_2 (z_iadd (pc := 671) dL_law_671 (z_iald0 (pc := 672) (by decide) dL_law_672 (z_aload_n (pc := 673) dL_law_673 rfl 0 rfl (z_iload_n (pc := 674) dL_law_674 rfl 3 rfl (z_iconst (pc := 675) dL_law_675 ic_3 (z_iadd (pc := 676) dL_law_676 (z_iald0 (pc := 677) (by decide) dL_law_677 (?_))))))))
        refine z_callV_I (pc := 678) (avs := [vi (hI h58 4 (ix (x9 + 1))), vi (hI h58 4 (ix (x9 + 2))), vi (hI h58 4 (ix (x9 + 3)))]) (st := [vi x59]) rfl (q := (RX10, TX10, 62)) rfl rfl (t_X10_rhyme F a8 (hI h58 4 (ix (x9 + 1))) (hI h58 4 (ix (x9 + 2))) (hI h58 4 (ix (x9 + 3))) h58) ky_X10_rhyme wm_X10_rhyme we_X10_rhyme wz_RL_64 (rm_L_law_X10_rhyme) (Nat.le_of_ble_eq_true rfl) dL_law_678 (fun x61 h60 => (?_))
        refine z_icmp_eq (pc := 681) (tgt := 1929) dL_law_681 (by decide) ?_ ?_
        · exact qj1929_11 h60
        · refine z_iconst (pc := 684) dL_law_684 ic_0 (?_)
          exact z_iret (pc := 685) dL_law_685 rfl rfl
      refine z_ite (fun e => z_tblC (tgt := 686) (off := 653) e dL_law_33 (by decide) (by decide) (by decide) (by decide) ?_) (fun _ => ?_)
      · refine z_aload_n (pc := 686) dL_law_686 rfl 1 rfl (z_aload_n (pc := 687) dL_law_687 rfl 0 rfl (z_iload_n (pc := 688) dL_law_688 rfl 3 rfl (z_iconst (pc := 689) dL_law_689 ic_1 (z_iadd (pc := 690) dL_law_690 (z_iald0 (pc := 691) (by decide) dL_law_691 (z_aload_n (pc := 692) dL_law_692 rfl 0 rfl (z_iload_n (pc := 693) dL_law_693 rfl 3 rfl (?_))))))))
        refine z_iconst (pc := 694) dL_law_694 ic_2 (z_iadd (pc := 695) dL_law_695 (z_iald0 (pc := 696) (by decide) dL_law_696 (z_callV_I (pc := 697) (avs := [vi (hI h10 4 (ix (x9 + 1))), vi (hI h10 4 (ix (x9 + 2)))]) (st := []) rfl (q := (RX9, TX9, 18)) rfl rfl (t_X9_tune F a7 (hI h10 4 (ix (x9 + 1))) (hI h10 4 (ix (x9 + 2))) h10) ky_X9_tune wm_X9_tune we_X9_tune wz_RL_65 (rm_L_law_X9_tune) (Nat.le_of_ble_eq_true rfl) dL_law_697 (fun x63 h62 => (?_)))))
        refine z_aload_n (pc := 700) dL_law_700 rfl 2 rfl (z_aload_n (pc := 701) dL_law_701 rfl 0 rfl (z_iload_n (pc := 702) dL_law_702 rfl 3 rfl (z_iconst (pc := 703) dL_law_703 ic_1 (z_iadd (pc := 704) dL_law_704 (z_iald0 (pc := 705) (by decide) dL_law_705 (z_aload_n (pc := 706) dL_law_706 rfl 0 rfl (z_iload_n (pc := 707) dL_law_707 rfl 3 rfl (?_))))))))
        refine z_iconst (pc := 708) dL_law_708 ic_2 (z_iadd (pc := 709) dL_law_709 (z_iald0 (pc := 710) (by decide) dL_law_710 (z_callV_I (pc := 711) (avs := [vi (hI h62 4 (ix (x9 + 1))), vi (hI h62 4 (ix (x9 + 2)))]) (st := [vi x63]) rfl (q := (RX10, TX10, 62)) rfl rfl (t_X10_tune F a8 (hI h62 4 (ix (x9 + 1))) (hI h62 4 (ix (x9 + 2))) h62) ky_X10_tune wm_X10_tune we_X10_tune wz_RL_68 (rm_L_law_X10_tune) (Nat.le_of_ble_eq_true rfl) dL_law_711 (fun x65 h64 => (?_)))))
        refine z_icmp_eq (pc := 714) (tgt := 1929) dL_law_714 (by decide) ?_ ?_
        · exact qj1929_11 h64
        · refine z_iconst (pc := 717) dL_law_717 ic_0 (?_)
          exact z_iret (pc := 718) dL_law_718 rfl rfl
      refine z_ite (fun e => z_tblC (tgt := 719) (off := 686) e dL_law_33 (by decide) (by decide) (by decide) (by decide) ?_) (fun _ => ?_)
      · refine z_aload_n (pc := 719) dL_law_719 rfl 1 rfl (z_aload_n (pc := 720) dL_law_720 rfl 0 rfl (z_iload_n (pc := 721) dL_law_721 rfl 3 rfl (z_iconst (pc := 722) dL_law_722 ic_1 (z_iadd (pc := 723) dL_law_723 (z_iald0 (pc := 724) (by decide) dL_law_724 (z_aload_n (pc := 725) dL_law_725 rfl 0 rfl (z_iload_n (pc := 726) dL_law_726 rfl 3 rfl (?_))))))))
        refine z_iconst (pc := 727) dL_law_727 ic_2 (z_iadd (pc := 728) dL_law_728 (z_iald0 (pc := 729) (by decide) dL_law_729 (z_callV_I (pc := 730) (avs := [vi (hI h10 4 (ix (x9 + 1))), vi (hI h10 4 (ix (x9 + 2)))]) (st := []) rfl (q := (RX9, TX9, 18)) rfl rfl (t_X9_fit F a7 (hI h10 4 (ix (x9 + 1))) (hI h10 4 (ix (x9 + 2))) h10) ky_X9_fit wm_X9_fit we_X9_fit wz_RL_69 (rm_L_law_X9_fit) (Nat.le_of_ble_eq_true rfl) dL_law_730 (fun x67 h66 => (?_)))))
        refine z_aload_n (pc := 733) dL_law_733 rfl 2 rfl (z_aload_n (pc := 734) dL_law_734 rfl 0 rfl (z_iload_n (pc := 735) dL_law_735 rfl 3 rfl (z_iconst (pc := 736) dL_law_736 ic_1 (z_iadd (pc := 737) dL_law_737 (z_iald0 (pc := 738) (by decide) dL_law_738 (z_aload_n (pc := 739) dL_law_739 rfl 0 rfl (z_iload_n (pc := 740) dL_law_740 rfl 3 rfl (?_))))))))
        refine z_iconst (pc := 741) dL_law_741 ic_2 (z_iadd (pc := 742) dL_law_742 (z_iald0 (pc := 743) (by decide) dL_law_743 (z_callV_I (pc := 744) (avs := [vi (hI h66 4 (ix (x9 + 1))), vi (hI h66 4 (ix (x9 + 2)))]) (st := [vi x67]) rfl (q := (RX10, TX10, 62)) rfl rfl (t_X10_fit F a8 (hI h66 4 (ix (x9 + 1))) (hI h66 4 (ix (x9 + 2))) h66) ky_X10_fit wm_X10_fit we_X10_fit wz_RL_72 (rm_L_law_X10_fit) (Nat.le_of_ble_eq_true rfl) dL_law_744 (fun x69 h68 => (?_)))))
        refine z_icmp_eq (pc := 747) (tgt := 1929) dL_law_747 (by decide) ?_ ?_
        · exact qj1929_11 h68
        · refine z_iconst (pc := 750) dL_law_750 ic_0 (?_)
          exact z_iret (pc := 751) dL_law_751 rfl rfl
      refine z_ite (fun e => z_tblC (tgt := 752) (off := 719) e dL_law_33 (by decide) (by decide) (by decide) (by decide) ?_) (fun _ => ?_)
      · refine z_aload_n (pc := 752) dL_law_752 rfl 1 rfl (z_aload_n (pc := 753) dL_law_753 rfl 0 rfl (z_iload_n (pc := 754) dL_law_754 rfl 3 rfl (z_iconst (pc := 755) dL_law_755 ic_1 (z_iadd (pc := 756) dL_law_756 (z_iald0 (pc := 757) (by decide) dL_law_757 (z_callV_I (pc := 758) (avs := [vi (hI h10 4 (ix (x9 + 1)))]) (st := []) rfl (q := (RX9, TX9, 18)) rfl rfl (t_X9_tunes F a7 (hI h10 4 (ix (x9 + 1))) h10) ky_X9_tunes wm_X9_tunes we_X9_tunes wz_RL_73 (rm_L_law_X9_tunes) (Nat.le_of_ble_eq_true rfl) dL_law_758 (fun x71 h70 => (?_))))))))
        refine z_aload_n (pc := 761) dL_law_761 rfl 2 rfl (z_aload_n (pc := 762) dL_law_762 rfl 0 rfl (z_iload_n (pc := 763) dL_law_763 rfl 3 rfl (z_iconst (pc := 764) dL_law_764 ic_1 (z_iadd (pc := 765) dL_law_765 (z_iald0 (pc := 766) (by decide) dL_law_766 (z_callV_I (pc := 767) (avs := [vi (hI h70 4 (ix (x9 + 1)))]) (st := [vi x71]) rfl (q := (RX10, TX10, 62)) rfl rfl (t_X10_tunes F a8 (hI h70 4 (ix (x9 + 1))) h70) ky_X10_tunes wm_X10_tunes we_X10_tunes wz_RL_76 (rm_L_law_X10_tunes) (Nat.le_of_ble_eq_true rfl) dL_law_767 (fun x73 h72 => (?_))))))))
        refine z_icmp_eq (pc := 770) (tgt := 1929) dL_law_770 (by decide) ?_ ?_
        · exact qj1929_11 h72
        · refine z_iconst (pc := 773) dL_law_773 ic_0 (?_)
          exact z_iret (pc := 774) dL_law_774 rfl rfl
      refine z_ite (fun e => z_tblC (tgt := 775) (off := 742) e dL_law_33 (by decide) (by decide) (by decide) (by decide) ?_) (fun _ => ?_)
      · refine z_aload_n (pc := 775) dL_law_775 rfl 1 rfl (z_aload_n (pc := 776) dL_law_776 rfl 0 rfl (z_iload_n (pc := 777) dL_law_777 rfl 3 rfl (z_iconst (pc := 778) dL_law_778 ic_1 (z_iadd (pc := 779) dL_law_779 (z_iald0 (pc := 780) (by decide) dL_law_780 (z_callV_I (pc := 781) (avs := [vi (hI h10 4 (ix (x9 + 1)))]) (st := []) rfl (q := (RX9, TX9, 18)) rfl rfl (t_X9_fault F a7 (hI h10 4 (ix (x9 + 1))) h10) ky_X9_fault wm_X9_fault we_X9_fault wz_RL_77 (rm_L_law_X9_fault) (Nat.le_of_ble_eq_true rfl) dL_law_781 (fun x75 h74 => (?_))))))))
        refine z_aload_n (pc := 784) dL_law_784 rfl 2 rfl (z_aload_n (pc := 785) dL_law_785 rfl 0 rfl (z_iload_n (pc := 786) dL_law_786 rfl 3 rfl (z_iconst (pc := 787) dL_law_787 ic_1 (z_iadd (pc := 788) dL_law_788 (z_iald0 (pc := 789) (by decide) dL_law_789 (z_callV_I (pc := 790) (avs := [vi (hI h74 4 (ix (x9 + 1)))]) (st := [vi x75]) rfl (q := (RX10, TX10, 62)) rfl rfl (t_X10_fault F a8 (hI h74 4 (ix (x9 + 1))) h74) ky_X10_fault wm_X10_fault we_X10_fault wz_RL_80 (rm_L_law_X10_fault) (Nat.le_of_ble_eq_true rfl) dL_law_790 (fun x77 h76 => (?_))))))))
        refine z_icmp_eq (pc := 793) (tgt := 1929) dL_law_793 (by decide) ?_ ?_
        · exact qj1929_11 h76
        · refine z_iconst (pc := 796) dL_law_796 ic_0 (?_)
          exact z_iret (pc := 797) dL_law_797 rfl rfl
      refine z_ite (fun e => z_tblC (tgt := 798) (off := 765) e dL_law_33 (by decide) (by decide) (by decide) (by decide) ?_) (fun _ => ?_)
      · refine z_aload_n (pc := 798) dL_law_798 rfl 1 rfl (z_aload_n (pc := 799) dL_law_799 rfl 0 rfl (z_iload_n (pc := 800) dL_law_800 rfl 3 rfl (z_iconst (pc := 801) dL_law_801 ic_1 (z_iadd (pc := 802) dL_law_802 (z_iald0 (pc := 803) (by decide) dL_law_803 (z_aload_n (pc := 804) dL_law_804 rfl 0 rfl (z_iload_n (pc := 805) dL_law_805 rfl 3 rfl (?_))))))))
        refine z_iconst (pc := 806) dL_law_806 ic_2 (z_iadd (pc := 807) dL_law_807 (z_iald0 (pc := 808) (by decide) dL_law_808 (z_callV_I (pc := 809) (avs := [vi (hI h10 4 (ix (x9 + 1))), vi (hI h10 4 (ix (x9 + 2)))]) (st := []) rfl (q := (RX9, TX9, 18)) rfl rfl (t_X9_rule F a7 (hI h10 4 (ix (x9 + 1))) (hI h10 4 (ix (x9 + 2))) h10) ky_X9_rule wm_X9_rule we_X9_rule wz_RL_81 (rm_L_law_X9_rule) (Nat.le_of_ble_eq_true rfl) dL_law_809 (fun x79 h78 => (?_)))))
        refine z_aload_n (pc := 812) dL_law_812 rfl 2 rfl (z_aload_n (pc := 813) dL_law_813 rfl 0 rfl (z_iload_n (pc := 814) dL_law_814 rfl 3 rfl (z_iconst (pc := 815) dL_law_815 ic_1 (z_iadd (pc := 816) dL_law_816 (z_iald0 (pc := 817) (by decide) dL_law_817 (z_aload_n (pc := 818) dL_law_818 rfl 0 rfl (z_iload_n (pc := 819) dL_law_819 rfl 3 rfl (?_))))))))
        refine z_iconst (pc := 820) dL_law_820 ic_2 (z_iadd (pc := 821) dL_law_821 (z_iald0 (pc := 822) (by decide) dL_law_822 (z_callV_I (pc := 823) (avs := [vi (hI h78 4 (ix (x9 + 1))), vi (hI h78 4 (ix (x9 + 2)))]) (st := [vi x79]) rfl (q := (RX10, TX10, 62)) rfl rfl (t_X10_rule F a8 (hI h78 4 (ix (x9 + 1))) (hI h78 4 (ix (x9 + 2))) h78) ky_X10_rule wm_X10_rule we_X10_rule wz_RL_84 (rm_L_law_X10_rule) (Nat.le_of_ble_eq_true rfl) dL_law_823 (fun x81 h80 => (?_)))))
        refine z_icmp_eq (pc := 826) (tgt := 1929) dL_law_826 (by decide) ?_ ?_
        · exact qj1929_11 h80
        · refine z_iconst (pc := 829) dL_law_829 ic_0 (?_)
          exact z_iret (pc := 830) dL_law_830 rfl rfl
      refine z_ite (fun e => z_tblC (tgt := 831) (off := 798) e dL_law_33 (by decide) (by decide) (by decide) (by decide) ?_) (fun _ => ?_)
      · refine z_aload_n (pc := 831) dL_law_831 rfl 1 rfl (z_aload_n (pc := 832) dL_law_832 rfl 0 rfl (z_iload_n (pc := 833) dL_law_833 rfl 3 rfl (z_iconst (pc := 834) dL_law_834 ic_1 (z_iadd (pc := 835) dL_law_835 (z_iald0 (pc := 836) (by decide) dL_law_836 (z_aload_n (pc := 837) dL_law_837 rfl 0 rfl (z_iload_n (pc := 838) dL_law_838 rfl 3 rfl (?_))))))))
        refine z_iconst (pc := 839) dL_law_839 ic_2 (z_iadd (pc := 840) dL_law_840 (z_iald0 (pc := 841) (by decide) dL_law_841 (z_aload_n (pc := 842) dL_law_842 rfl 0 rfl (z_iload_n (pc := 843) dL_law_843 rfl 3 rfl (z_iconst (pc := 844) dL_law_844 ic_3 (z_iadd (pc := 845) dL_law_845 (z_iald0 (pc := 846) (by decide) dL_law_846 (?_))))))))
        refine z_callV_I (pc := 847) (avs := [vi (hI h10 4 (ix (x9 + 1))), vi (hI h10 4 (ix (x9 + 2))), vi (hI h10 4 (ix (x9 + 3)))]) (st := []) rfl (q := (RX9, TX9, 18)) rfl rfl (t_X9_force F a7 (hI h10 4 (ix (x9 + 1))) (hI h10 4 (ix (x9 + 2))) (hI h10 4 (ix (x9 + 3))) h10) ky_X9_force wm_X9_force we_X9_force wz_RL_85 (rm_L_law_X9_force) (Nat.le_of_ble_eq_true rfl) dL_law_847 (fun x83 h82 => (?_))
        refine z_aload_n (pc := 850) dL_law_850 rfl 2 rfl (z_aload_n (pc := 851) dL_law_851 rfl 0 rfl (z_iload_n (pc := 852) dL_law_852 rfl 3 rfl (z_iconst (pc := 853) dL_law_853 ic_1 (z_iadd (pc := 854) dL_law_854 (z_iald0 (pc := 855) (by decide) dL_law_855 (z_aload_n (pc := 856) dL_law_856 rfl 0 rfl (z_iload_n (pc := 857) dL_law_857 rfl 3 rfl (?_))))))))
        refine z_iconst (pc := 858) dL_law_858 ic_2 (z_iadd (pc := 859) dL_law_859 (z_iald0 (pc := 860) (by decide) dL_law_860 (z_aload_n (pc := 861) dL_law_861 rfl 0 rfl (z_iload_n (pc := 862) dL_law_862 rfl 3 rfl (z_iconst (pc := 863) dL_law_863 ic_3 (z_iadd (pc := 864) dL_law_864 (z_iald0 (pc := 865) (by decide) dL_law_865 (?_))))))))
        refine z_callV_I (pc := 866) (avs := [vi (hI h82 4 (ix (x9 + 1))), vi (hI h82 4 (ix (x9 + 2))), vi (hI h82 4 (ix (x9 + 3)))]) (st := [vi x83]) rfl (q := (RX10, TX10, 62)) rfl rfl (t_X10_force F a8 (hI h82 4 (ix (x9 + 1))) (hI h82 4 (ix (x9 + 2))) (hI h82 4 (ix (x9 + 3))) h82) ky_X10_force wm_X10_force we_X10_force wz_RL_88 (rm_L_law_X10_force) (Nat.le_of_ble_eq_true rfl) dL_law_866 (fun x85 h84 => (?_))
        refine z_icmp_eq (pc := 869) (tgt := 1929) dL_law_869 (by decide) ?_ ?_
        · exact qj1929_11 h84
        · refine z_iconst (pc := 872) dL_law_872 ic_0 (?_)
          exact z_iret (pc := 873) dL_law_873 rfl rfl
      refine z_ite (fun e => z_tblC (tgt := 874) (off := 841) e dL_law_33 (by decide) (by decide) (by decide) (by decide) ?_) (fun _ => ?_)
      · refine z_aload_n (pc := 874) dL_law_874 rfl 1 rfl (z_aload_n (pc := 875) dL_law_875 rfl 0 rfl (z_iload_n (pc := 876) dL_law_876 rfl 3 rfl (z_iconst (pc := 877) dL_law_877 ic_1 (z_iadd (pc := 878) dL_law_878 (z_iald0 (pc := 879) (by decide) dL_law_879 (z_aload_n (pc := 880) dL_law_880 rfl 0 rfl (z_iload_n (pc := 881) dL_law_881 rfl 3 rfl (?_))))))))
        refine z_iconst (pc := 882) dL_law_882 ic_2 (z_iadd (pc := 883) dL_law_883 (z_iald0 (pc := 884) (by decide) dL_law_884 (z_aload_n (pc := 885) dL_law_885 rfl 0 rfl (z_iload_n (pc := 886) dL_law_886 rfl 3 rfl (z_iconst (pc := 887) dL_law_887 ic_3 (z_iadd (pc := 888) dL_law_888 (z_iald0 (pc := 889) (by decide) dL_law_889 (?_))))))))
        refine z_callV_I (pc := 890) (avs := [vi (hI h10 4 (ix (x9 + 1))), vi (hI h10 4 (ix (x9 + 2))), vi (hI h10 4 (ix (x9 + 3)))]) (st := []) rfl (q := (RX9, TX9, 18)) rfl rfl (t_X9_why F a7 (hI h10 4 (ix (x9 + 1))) (hI h10 4 (ix (x9 + 2))) (hI h10 4 (ix (x9 + 3))) h10) ky_X9_why wm_X9_why we_X9_why wz_RL_89 (rm_L_law_X9_why) (Nat.le_of_ble_eq_true rfl) dL_law_890 (fun x87 h86 => (?_))
        refine z_aload_n (pc := 893) dL_law_893 rfl 2 rfl (z_aload_n (pc := 894) dL_law_894 rfl 0 rfl (z_iload_n (pc := 895) dL_law_895 rfl 3 rfl (z_iconst (pc := 896) dL_law_896 ic_1 (z_iadd (pc := 897) dL_law_897 (z_iald0 (pc := 898) (by decide) dL_law_898 (z_aload_n (pc := 899) dL_law_899 rfl 0 rfl (z_iload_n (pc := 900) dL_law_900 rfl 3 rfl (?_))))))))
        refine z_iconst (pc := 901) dL_law_901 ic_2 (z_iadd (pc := 902) dL_law_902 (z_iald0 (pc := 903) (by decide) dL_law_903 (z_aload_n (pc := 904) dL_law_904 rfl 0 rfl (z_iload_n (pc := 905) dL_law_905 rfl 3 rfl (z_iconst (pc := 906) dL_law_906 ic_3 (z_iadd (pc := 907) dL_law_907 (z_iald0 (pc := 908) (by decide) dL_law_908 (?_))))))))
        refine z_callV_I (pc := 909) (avs := [vi (hI h86 4 (ix (x9 + 1))), vi (hI h86 4 (ix (x9 + 2))), vi (hI h86 4 (ix (x9 + 3)))]) (st := [vi x87]) rfl (q := (RX10, TX10, 62)) rfl rfl (t_X10_why F a8 (hI h86 4 (ix (x9 + 1))) (hI h86 4 (ix (x9 + 2))) (hI h86 4 (ix (x9 + 3))) h86) ky_X10_why wm_X10_why we_X10_why wz_RL_92 (rm_L_law_X10_why) (Nat.le_of_ble_eq_true rfl) dL_law_909 (fun x89 h88 => (?_))
        refine z_icmp_eq (pc := 912) (tgt := 1929) dL_law_912 (by decide) ?_ ?_
        · exact qj1929_11 h88
        · refine z_iconst (pc := 915) dL_law_915 ic_0 (?_)
          exact z_iret (pc := 916) dL_law_916 rfl rfl
      refine z_ite (fun e => z_tblC (tgt := 917) (off := 884) e dL_law_33 (by decide) (by decide) (by decide) (by decide) ?_) (fun _ => ?_)
      · refine z_aload_n (pc := 917) dL_law_917 rfl 1 rfl (z_aload_n (pc := 918) dL_law_918 rfl 0 rfl (z_iload_n (pc := 919) dL_law_919 rfl 3 rfl (z_iconst (pc := 920) dL_law_920 ic_1 (z_iadd (pc := 921) dL_law_921 (z_iald0 (pc := 922) (by decide) dL_law_922 (z_aload_n (pc := 923) dL_law_923 rfl 0 rfl (z_iload_n (pc := 924) dL_law_924 rfl 3 rfl (?_))))))))
        refine z_iconst (pc := 925) dL_law_925 ic_2 (z_iadd (pc := 926) dL_law_926 (z_iald0 (pc := 927) (by decide) dL_law_927 (z_aload_n (pc := 928) dL_law_928 rfl 0 rfl (z_iload_n (pc := 929) dL_law_929 rfl 3 rfl (z_iconst (pc := 930) dL_law_930 ic_3 (z_iadd (pc := 931) dL_law_931 (z_iald0 (pc := 932) (by decide) dL_law_932 (?_))))))))
        refine z_callV_I (pc := 933) (avs := [vi (hI h10 4 (ix (x9 + 1))), vi (hI h10 4 (ix (x9 + 2))), vi (hI h10 4 (ix (x9 + 3)))]) (st := []) rfl (q := (RX9, TX9, 18)) rfl rfl (t_X9_printer F a7 (hI h10 4 (ix (x9 + 1))) (hI h10 4 (ix (x9 + 2))) (hI h10 4 (ix (x9 + 3))) h10) ky_X9_printer wm_X9_printer we_X9_printer wz_RL_93 (rm_L_law_X9_printer) (Nat.le_of_ble_eq_true rfl) dL_law_933 (fun x91 h90 => (?_))
        refine z_aload_n (pc := 936) dL_law_936 rfl 2 rfl (z_aload_n (pc := 937) dL_law_937 rfl 0 rfl (z_iload_n (pc := 938) dL_law_938 rfl 3 rfl (z_iconst (pc := 939) dL_law_939 ic_1 (z_iadd (pc := 940) dL_law_940 (z_iald0 (pc := 941) (by decide) dL_law_941 (z_aload_n (pc := 942) dL_law_942 rfl 0 rfl (z_iload_n (pc := 943) dL_law_943 rfl 3 rfl (?_))))))))
        refine z_iconst (pc := 944) dL_law_944 ic_2 (z_iadd (pc := 945) dL_law_945 (z_iald0 (pc := 946) (by decide) dL_law_946 (z_aload_n (pc := 947) dL_law_947 rfl 0 rfl (z_iload_n (pc := 948) dL_law_948 rfl 3 rfl (z_iconst (pc := 949) dL_law_949 ic_3 (z_iadd (pc := 950) dL_law_950 (z_iald0 (pc := 951) (by decide) dL_law_951 (?_))))))))
        refine z_callV_I (pc := 952) (avs := [vi (hI h90 4 (ix (x9 + 1))), vi (hI h90 4 (ix (x9 + 2))), vi (hI h90 4 (ix (x9 + 3)))]) (st := [vi x91]) rfl (q := (RX10, TX10, 62)) rfl rfl (t_X10_printer F a8 (hI h90 4 (ix (x9 + 1))) (hI h90 4 (ix (x9 + 2))) (hI h90 4 (ix (x9 + 3))) h90) ky_X10_printer wm_X10_printer we_X10_printer wz_RL_96 (rm_L_law_X10_printer) (Nat.le_of_ble_eq_true rfl) dL_law_952 (fun x93 h92 => (?_))
        refine z_icmp_eq (pc := 955) (tgt := 1929) dL_law_955 (by decide) ?_ ?_
        · exact qj1929_11 h92
        · refine z_iconst (pc := 958) dL_law_958 ic_0 (?_)
          exact z_iret (pc := 959) dL_law_959 rfl rfl
      refine z_ite (fun e => z_tblC (tgt := 960) (off := 927) e dL_law_33 (by decide) (by decide) (by decide) (by decide) ?_) (fun _ => ?_)
      · refine z_aload_n (pc := 960) dL_law_960 rfl 1 rfl (z_aload_n (pc := 961) dL_law_961 rfl 0 rfl (z_iload_n (pc := 962) dL_law_962 rfl 3 rfl (z_iconst (pc := 963) dL_law_963 ic_1 (z_iadd (pc := 964) dL_law_964 (z_iald0 (pc := 965) (by decide) dL_law_965 (z_aload_n (pc := 966) dL_law_966 rfl 0 rfl (z_iload_n (pc := 967) dL_law_967 rfl 3 rfl (?_))))))))
        refine z_iconst (pc := 968) dL_law_968 ic_2 (z_iadd (pc := 969) dL_law_969 (z_iald0 (pc := 970) (by decide) dL_law_970 (z_aload_n (pc := 971) dL_law_971 rfl 0 rfl (z_iload_n (pc := 972) dL_law_972 rfl 3 rfl (z_iconst (pc := 973) dL_law_973 ic_3 (z_iadd (pc := 974) dL_law_974 (z_iald0 (pc := 975) (by decide) dL_law_975 (?_))))))))
        refine z_aload_n (pc := 976) dL_law_976 rfl 0 rfl (z_iload_n (pc := 977) dL_law_977 rfl 3 rfl (z_iconst (pc := 978) dL_law_978 ic_4 (z_iadd (pc := 979) dL_law_979 (z_iald0 (pc := 980) (by decide) dL_law_980 (z_callV_I (pc := 981) (avs := [vi (hI h10 4 (ix (x9 + 1))), vi (hI h10 4 (ix (x9 + 2))), vi (hI h10 4 (ix (x9 + 3))), vi (hI h10 4 (ix (x9 + 4)))]) (st := []) rfl (q := (RX9, TX9, 18)) rfl rfl (t_X9_sheet F a7 (hI h10 4 (ix (x9 + 1))) (hI h10 4 (ix (x9 + 2))) (hI h10 4 (ix (x9 + 3))) (hI h10 4 (ix (x9 + 4))) h10) ky_X9_sheet wm_X9_sheet we_X9_sheet wz_RL_97 (rm_L_law_X9_sheet) (Nat.le_of_ble_eq_true rfl) dL_law_981 (fun x95 h94 => (?_)))))))
        refine z_aload_n (pc := 984) dL_law_984 rfl 2 rfl (z_aload_n (pc := 985) dL_law_985 rfl 0 rfl (z_iload_n (pc := 986) dL_law_986 rfl 3 rfl (z_iconst (pc := 987) dL_law_987 ic_1 (z_iadd (pc := 988) dL_law_988 (z_iald0 (pc := 989) (by decide) dL_law_989 (z_aload_n (pc := 990) dL_law_990 rfl 0 rfl (z_iload_n (pc := 991) dL_law_991 rfl 3 rfl (?_))))))))
        refine z_iconst (pc := 992) dL_law_992 ic_2 (z_iadd (pc := 993) dL_law_993 (z_iald0 (pc := 994) (by decide) dL_law_994 (z_aload_n (pc := 995) dL_law_995 rfl 0 rfl (z_iload_n (pc := 996) dL_law_996 rfl 3 rfl (z_iconst (pc := 997) dL_law_997 ic_3 (z_iadd (pc := 998) dL_law_998 (z_iald0 (pc := 999) (by decide) dL_law_999 (?_))))))))
        refine z_aload_n (pc := 1000) dL_law_1000 rfl 0 rfl (z_iload_n (pc := 1001) dL_law_1001 rfl 3 rfl (z_iconst (pc := 1002) dL_law_1002 ic_4 (z_iadd (pc := 1003) dL_law_1003 (z_iald0 (pc := 1004) (by decide) dL_law_1004 (z_callV_I (pc := 1005) (avs := [vi (hI h94 4 (ix (x9 + 1))), vi (hI h94 4 (ix (x9 + 2))), vi (hI h94 4 (ix (x9 + 3))), vi (hI h94 4 (ix (x9 + 4)))]) (st := [vi x95]) rfl (q := (RX10, TX10, 62)) rfl rfl (t_X10_sheet F a8 (hI h94 4 (ix (x9 + 1))) (hI h94 4 (ix (x9 + 2))) (hI h94 4 (ix (x9 + 3))) (hI h94 4 (ix (x9 + 4))) h94) ky_X10_sheet wm_X10_sheet we_X10_sheet wz_RL_101 (rm_L_law_X10_sheet) (Nat.le_of_ble_eq_true rfl) dL_law_1005 (fun x97 h96 => (?_)))))))
        refine z_icmp_eq (pc := 1008) (tgt := 1929) dL_law_1008 (by decide) ?_ ?_
        · exact qj1929_11 h96
        · refine z_iconst (pc := 1011) dL_law_1011 ic_0 (?_)
          exact z_iret (pc := 1012) dL_law_1012 rfl rfl
      refine z_ite (fun e => z_tblC (tgt := 1013) (off := 980) e dL_law_33 (by decide) (by decide) (by decide) (by decide) ?_) (fun _ => ?_)
      · refine z_aload_n (pc := 1013) dL_law_1013 rfl 1 rfl (z_aload_n (pc := 1014) dL_law_1014 rfl 0 rfl (z_iload_n (pc := 1015) dL_law_1015 rfl 3 rfl (z_iconst (pc := 1016) dL_law_1016 ic_1 (z_iadd (pc := 1017) dL_law_1017 (z_iald0 (pc := 1018) (by decide) dL_law_1018 (z_aload_n (pc := 1019) dL_law_1019 rfl 0 rfl (z_iload_n (pc := 1020) dL_law_1020 rfl 3 rfl (?_))))))))
        refine z_iconst (pc := 1021) dL_law_1021 ic_2 (z_iadd (pc := 1022) dL_law_1022 (z_iald0 (pc := 1023) (by decide) dL_law_1023 (z_aload_n (pc := 1024) dL_law_1024 rfl 0 rfl (z_iload_n (pc := 1025) dL_law_1025 rfl 3 rfl (z_iconst (pc := 1026) dL_law_1026 ic_3 (z_iadd (pc := 1027) dL_law_1027 (z_iald0 (pc := 1028) (by decide) dL_law_1028 (?_))))))))
        refine z_callV_I (pc := 1029) (avs := [vi (hI h10 4 (ix (x9 + 1))), vi (hI h10 4 (ix (x9 + 2))), vi (hI h10 4 (ix (x9 + 3)))]) (st := []) rfl (q := (RX9, TX9, 18)) rfl rfl (t_X9_block F a7 (hI h10 4 (ix (x9 + 1))) (hI h10 4 (ix (x9 + 2))) (hI h10 4 (ix (x9 + 3))) h10) ky_X9_block wm_X9_block we_X9_block wz_RL_102 (rm_L_law_X9_block) (Nat.le_of_ble_eq_true rfl) dL_law_1029 (fun x99 h98 => (?_))
        refine z_aload_n (pc := 1032) dL_law_1032 rfl 2 rfl (z_aload_n (pc := 1033) dL_law_1033 rfl 0 rfl (z_iload_n (pc := 1034) dL_law_1034 rfl 3 rfl (z_iconst (pc := 1035) dL_law_1035 ic_1 (z_iadd (pc := 1036) dL_law_1036 (z_iald0 (pc := 1037) (by decide) dL_law_1037 (z_aload_n (pc := 1038) dL_law_1038 rfl 0 rfl (z_iload_n (pc := 1039) dL_law_1039 rfl 3 rfl (?_))))))))
        refine z_iconst (pc := 1040) dL_law_1040 ic_2 (z_iadd (pc := 1041) dL_law_1041 (z_iald0 (pc := 1042) (by decide) dL_law_1042 (z_aload_n (pc := 1043) dL_law_1043 rfl 0 rfl (z_iload_n (pc := 1044) dL_law_1044 rfl 3 rfl (z_iconst (pc := 1045) dL_law_1045 ic_3 (z_iadd (pc := 1046) dL_law_1046 (z_iald0 (pc := 1047) (by decide) dL_law_1047 (?_))))))))
        refine z_callV_I (pc := 1048) (avs := [vi (hI h98 4 (ix (x9 + 1))), vi (hI h98 4 (ix (x9 + 2))), vi (hI h98 4 (ix (x9 + 3)))]) (st := [vi x99]) rfl (q := (RX10, TX10, 62)) rfl rfl (t_X10_block F a8 (hI h98 4 (ix (x9 + 1))) (hI h98 4 (ix (x9 + 2))) (hI h98 4 (ix (x9 + 3))) h98) ky_X10_block wm_X10_block we_X10_block wz_RL_105 (rm_L_law_X10_block) (Nat.le_of_ble_eq_true rfl) dL_law_1048 (fun x101 h100 => (?_))
        refine z_icmp_eq (pc := 1051) (tgt := 1929) dL_law_1051 (by decide) ?_ ?_
        · exact qj1929_11 h100
        · refine z_iconst (pc := 1054) dL_law_1054 ic_0 (?_)
          exact z_iret (pc := 1055) dL_law_1055 rfl rfl
      refine z_ite (fun e => z_tblC (tgt := 1056) (off := 1023) e dL_law_33 (by decide) (by decide) (by decide) (by decide) ?_) (fun _ => ?_)
      · refine z_aload_n (pc := 1056) dL_law_1056 rfl 1 rfl (z_aload_n (pc := 1057) dL_law_1057 rfl 0 rfl (z_iload_n (pc := 1058) dL_law_1058 rfl 3 rfl (z_iconst (pc := 1059) dL_law_1059 ic_1 (z_iadd (pc := 1060) dL_law_1060 (z_iald0 (pc := 1061) (by decide) dL_law_1061 (z_aload_n (pc := 1062) dL_law_1062 rfl 0 rfl (z_iload_n (pc := 1063) dL_law_1063 rfl 3 rfl (?_))))))))
        refine z_iconst (pc := 1064) dL_law_1064 ic_2 (z_iadd (pc := 1065) dL_law_1065 (z_iald0 (pc := 1066) (by decide) dL_law_1066 (z_aload_n (pc := 1067) dL_law_1067 rfl 0 rfl (z_iload_n (pc := 1068) dL_law_1068 rfl 3 rfl (z_iconst (pc := 1069) dL_law_1069 ic_3 (z_iadd (pc := 1070) dL_law_1070 (z_iald0 (pc := 1071) (by decide) dL_law_1071 (?_))))))))
        refine z_callV_I (pc := 1072) (avs := [vi (hI h10 4 (ix (x9 + 1))), vi (hI h10 4 (ix (x9 + 2))), vi (hI h10 4 (ix (x9 + 3)))]) (st := []) rfl (q := (RX9, TX9, 18)) rfl rfl (t_X9_type F a7 (hI h10 4 (ix (x9 + 1))) (hI h10 4 (ix (x9 + 2))) (hI h10 4 (ix (x9 + 3))) h10) ky_X9_type wm_X9_type we_X9_type wz_RL_106 (rm_L_law_X9_type) (Nat.le_of_ble_eq_true rfl) dL_law_1072 (fun x103 h102 => (?_))
        refine z_aload_n (pc := 1075) dL_law_1075 rfl 2 rfl (z_aload_n (pc := 1076) dL_law_1076 rfl 0 rfl (z_iload_n (pc := 1077) dL_law_1077 rfl 3 rfl (z_iconst (pc := 1078) dL_law_1078 ic_1 (z_iadd (pc := 1079) dL_law_1079 (z_iald0 (pc := 1080) (by decide) dL_law_1080 (z_aload_n (pc := 1081) dL_law_1081 rfl 0 rfl (z_iload_n (pc := 1082) dL_law_1082 rfl 3 rfl (?_))))))))
        refine z_iconst (pc := 1083) dL_law_1083 ic_2 (z_iadd (pc := 1084) dL_law_1084 (z_iald0 (pc := 1085) (by decide) dL_law_1085 (z_aload_n (pc := 1086) dL_law_1086 rfl 0 rfl (z_iload_n (pc := 1087) dL_law_1087 rfl 3 rfl (z_iconst (pc := 1088) dL_law_1088 ic_3 (z_iadd (pc := 1089) dL_law_1089 (z_iald0 (pc := 1090) (by decide) dL_law_1090 (?_))))))))
        refine z_callV_I (pc := 1091) (avs := [vi (hI h102 4 (ix (x9 + 1))), vi (hI h102 4 (ix (x9 + 2))), vi (hI h102 4 (ix (x9 + 3)))]) (st := [vi x103]) rfl (q := (RX10, TX10, 62)) rfl rfl (t_X10_type F a8 (hI h102 4 (ix (x9 + 1))) (hI h102 4 (ix (x9 + 2))) (hI h102 4 (ix (x9 + 3))) h102) ky_X10_type wm_X10_type we_X10_type wz_RL_109 (rm_L_law_X10_type) (Nat.le_of_ble_eq_true rfl) dL_law_1091 (fun x105 h104 => (?_))
        refine z_icmp_eq (pc := 1094) (tgt := 1929) dL_law_1094 (by decide) ?_ ?_
        · exact qj1929_11 h104
        · refine z_iconst (pc := 1097) dL_law_1097 ic_0 (?_)
          exact z_iret (pc := 1098) dL_law_1098 rfl rfl
      refine z_ite (fun e => z_tblC (tgt := 1099) (off := 1066) e dL_law_33 (by decide) (by decide) (by decide) (by decide) ?_) (fun _ => ?_)
      · refine z_aload_n (pc := 1099) dL_law_1099 rfl 1 rfl (z_aload_n (pc := 1100) dL_law_1100 rfl 0 rfl (z_iload_n (pc := 1101) dL_law_1101 rfl 3 rfl (z_iconst (pc := 1102) dL_law_1102 ic_1 (z_iadd (pc := 1103) dL_law_1103 (z_iald0 (pc := 1104) (by decide) dL_law_1104 (z_aload_n (pc := 1105) dL_law_1105 rfl 0 rfl (z_iload_n (pc := 1106) dL_law_1106 rfl 3 rfl (?_))))))))
        refine z_iconst (pc := 1107) dL_law_1107 ic_2 (z_iadd (pc := 1108) dL_law_1108 (z_iald0 (pc := 1109) (by decide) dL_law_1109 (z_aload_n (pc := 1110) dL_law_1110 rfl 0 rfl (z_iload_n (pc := 1111) dL_law_1111 rfl 3 rfl (z_iconst (pc := 1112) dL_law_1112 ic_3 (z_iadd (pc := 1113) dL_law_1113 (z_iald0 (pc := 1114) (by decide) dL_law_1114 (?_))))))))
        refine z_callV_I (pc := 1115) (avs := [vi (hI h10 4 (ix (x9 + 1))), vi (hI h10 4 (ix (x9 + 2))), vi (hI h10 4 (ix (x9 + 3)))]) (st := []) rfl (q := (RX9, TX9, 18)) rfl rfl (t_X9_span F a7 (hI h10 4 (ix (x9 + 1))) (hI h10 4 (ix (x9 + 2))) (hI h10 4 (ix (x9 + 3))) h10) ky_X9_span wm_X9_span we_X9_span wz_RL_110 (rm_L_law_X9_span) (Nat.le_of_ble_eq_true rfl) dL_law_1115 (fun x107 h106 => (?_))
        refine z_aload_n (pc := 1118) dL_law_1118 rfl 2 rfl (z_aload_n (pc := 1119) dL_law_1119 rfl 0 rfl (z_iload_n (pc := 1120) dL_law_1120 rfl 3 rfl (z_iconst (pc := 1121) dL_law_1121 ic_1 (z_iadd (pc := 1122) dL_law_1122 (z_iald0 (pc := 1123) (by decide) dL_law_1123 (z_aload_n (pc := 1124) dL_law_1124 rfl 0 rfl (z_iload_n (pc := 1125) dL_law_1125 rfl 3 rfl (?_))))))))
        refine z_iconst (pc := 1126) dL_law_1126 ic_2 (z_iadd (pc := 1127) dL_law_1127 (z_iald0 (pc := 1128) (by decide) dL_law_1128 (z_aload_n (pc := 1129) dL_law_1129 rfl 0 rfl (z_iload_n (pc := 1130) dL_law_1130 rfl 3 rfl (z_iconst (pc := 1131) dL_law_1131 ic_3 (z_iadd (pc := 1132) dL_law_1132 (z_iald0 (pc := 1133) (by decide) dL_law_1133 (?_))))))))
        refine z_callV_I (pc := 1134) (avs := [vi (hI h106 4 (ix (x9 + 1))), vi (hI h106 4 (ix (x9 + 2))), vi (hI h106 4 (ix (x9 + 3)))]) (st := [vi x107]) rfl (q := (RX10, TX10, 62)) rfl rfl (t_X10_span F a8 (hI h106 4 (ix (x9 + 1))) (hI h106 4 (ix (x9 + 2))) (hI h106 4 (ix (x9 + 3))) h106) ky_X10_span wm_X10_span we_X10_span wz_RL_113 (rm_L_law_X10_span) (Nat.le_of_ble_eq_true rfl) dL_law_1134 (fun x109 h108 => (?_))
        refine z_icmp_eq (pc := 1137) (tgt := 1929) dL_law_1137 (by decide) ?_ ?_
        · exact qj1929_11 h108
        · refine z_iconst (pc := 1140) dL_law_1140 ic_0 (?_)
          exact z_iret (pc := 1141) dL_law_1141 rfl rfl
      refine z_ite (fun e => z_tblC (tgt := 1142) (off := 1109) e dL_law_33 (by decide) (by decide) (by decide) (by decide) ?_) (fun _ => ?_)
      · refine z_aload_n (pc := 1142) dL_law_1142 rfl 1 rfl (z_aload_n (pc := 1143) dL_law_1143 rfl 0 rfl (z_iload_n (pc := 1144) dL_law_1144 rfl 3 rfl (z_iconst (pc := 1145) dL_law_1145 ic_1 (z_iadd (pc := 1146) dL_law_1146 (z_iald0 (pc := 1147) (by decide) dL_law_1147 (z_aload_n (pc := 1148) dL_law_1148 rfl 0 rfl (z_iload_n (pc := 1149) dL_law_1149 rfl 3 rfl (?_))))))))
        refine z_iconst (pc := 1150) dL_law_1150 ic_2 (z_iadd (pc := 1151) dL_law_1151 (z_iald0 (pc := 1152) (by decide) dL_law_1152 (z_callV_I (pc := 1153) (avs := [vi (hI h10 4 (ix (x9 + 1))), vi (hI h10 4 (ix (x9 + 2)))]) (st := []) rfl (q := (RX9, TX9, 18)) rfl rfl (t_X9_told F a7 (hI h10 4 (ix (x9 + 1))) (hI h10 4 (ix (x9 + 2))) h10) ky_X9_told wm_X9_told we_X9_told wz_RL_114 (rm_L_law_X9_told) (Nat.le_of_ble_eq_true rfl) dL_law_1153 (fun x111 h110 => (?_)))))
        refine z_aload_n (pc := 1156) dL_law_1156 rfl 2 rfl (z_aload_n (pc := 1157) dL_law_1157 rfl 0 rfl (z_iload_n (pc := 1158) dL_law_1158 rfl 3 rfl (z_iconst (pc := 1159) dL_law_1159 ic_1 (z_iadd (pc := 1160) dL_law_1160 (z_iald0 (pc := 1161) (by decide) dL_law_1161 (z_aload_n (pc := 1162) dL_law_1162 rfl 0 rfl (z_iload_n (pc := 1163) dL_law_1163 rfl 3 rfl (?_))))))))
        refine z_iconst (pc := 1164) dL_law_1164 ic_2 (z_iadd (pc := 1165) dL_law_1165 (z_iald0 (pc := 1166) (by decide) dL_law_1166 (z_callV_I (pc := 1167) (avs := [vi (hI h110 4 (ix (x9 + 1))), vi (hI h110 4 (ix (x9 + 2)))]) (st := [vi x111]) rfl (q := (RX10, TX10, 62)) rfl rfl (t_X10_told F a8 (hI h110 4 (ix (x9 + 1))) (hI h110 4 (ix (x9 + 2))) h110) ky_X10_told wm_X10_told we_X10_told wz_RL_117 (rm_L_law_X10_told) (Nat.le_of_ble_eq_true rfl) dL_law_1167 (fun x113 h112 => (?_)))))
        refine z_icmp_eq (pc := 1170) (tgt := 1929) dL_law_1170 (by decide) ?_ ?_
        · exact qj1929_11 h112
        · refine z_iconst (pc := 1173) dL_law_1173 ic_0 (?_)
          exact z_iret (pc := 1174) dL_law_1174 rfl rfl
      refine z_ite (fun e => z_tblC (tgt := 1175) (off := 1142) e dL_law_33 (by decide) (by decide) (by decide) (by decide) ?_) (fun _ => ?_)
      · refine z_aload_n (pc := 1175) dL_law_1175 rfl 1 rfl (z_aload_n (pc := 1176) dL_law_1176 rfl 0 rfl (z_iload_n (pc := 1177) dL_law_1177 rfl 3 rfl (z_iconst (pc := 1178) dL_law_1178 ic_1 (z_iadd (pc := 1179) dL_law_1179 (z_iald0 (pc := 1180) (by decide) dL_law_1180 (z_aload_n (pc := 1181) dL_law_1181 rfl 0 rfl (z_iload_n (pc := 1182) dL_law_1182 rfl 3 rfl (?_))))))))
        refine z_iconst (pc := 1183) dL_law_1183 ic_2 (z_iadd (pc := 1184) dL_law_1184 (z_iald0 (pc := 1185) (by decide) dL_law_1185 (z_callV_I (pc := 1186) (avs := [vi (hI h10 4 (ix (x9 + 1))), vi (hI h10 4 (ix (x9 + 2)))]) (st := []) rfl (q := (RX9, TX9, 18)) rfl rfl (t_X9_mark F a7 (hI h10 4 (ix (x9 + 1))) (hI h10 4 (ix (x9 + 2))) h10) ky_X9_mark wm_X9_mark we_X9_mark wz_RL_118 (rm_L_law_X9_mark) (Nat.le_of_ble_eq_true rfl) dL_law_1186 (fun x115 h114 => (?_)))))
        refine z_aload_n (pc := 1189) dL_law_1189 rfl 2 rfl (z_aload_n (pc := 1190) dL_law_1190 rfl 0 rfl (z_iload_n (pc := 1191) dL_law_1191 rfl 3 rfl (z_iconst (pc := 1192) dL_law_1192 ic_1 (z_iadd (pc := 1193) dL_law_1193 (z_iald0 (pc := 1194) (by decide) dL_law_1194 (z_aload_n (pc := 1195) dL_law_1195 rfl 0 rfl (z_iload_n (pc := 1196) dL_law_1196 rfl 3 rfl (?_))))))))
        refine z_iconst (pc := 1197) dL_law_1197 ic_2 (z_iadd (pc := 1198) dL_law_1198 (z_iald0 (pc := 1199) (by decide) dL_law_1199 (z_callV_I (pc := 1200) (avs := [vi (hI h114 4 (ix (x9 + 1))), vi (hI h114 4 (ix (x9 + 2)))]) (st := [vi x115]) rfl (q := (RX10, TX10, 62)) rfl rfl (t_X10_mark F a8 (hI h114 4 (ix (x9 + 1))) (hI h114 4 (ix (x9 + 2))) h114) ky_X10_mark wm_X10_mark we_X10_mark wz_RL_121 (rm_L_law_X10_mark) (Nat.le_of_ble_eq_true rfl) dL_law_1200 (fun x117 h116 => (?_)))))
        refine z_icmp_eq (pc := 1203) (tgt := 1929) dL_law_1203 (by decide) ?_ ?_
        · exact qj1929_11 h116
        · refine z_iconst (pc := 1206) dL_law_1206 ic_0 (?_)
          exact z_iret (pc := 1207) dL_law_1207 rfl rfl
      refine z_ite (fun e => z_tblC (tgt := 1208) (off := 1175) e dL_law_33 (by decide) (by decide) (by decide) (by decide) ?_) (fun _ => ?_)
      · refine z_aload_n (pc := 1208) dL_law_1208 rfl 1 rfl (z_aload_n (pc := 1209) dL_law_1209 rfl 0 rfl (z_iload_n (pc := 1210) dL_law_1210 rfl 3 rfl (z_iconst (pc := 1211) dL_law_1211 ic_1 (z_iadd (pc := 1212) dL_law_1212 (z_iald0 (pc := 1213) (by decide) dL_law_1213 (z_aload_n (pc := 1214) dL_law_1214 rfl 0 rfl (z_iload_n (pc := 1215) dL_law_1215 rfl 3 rfl (?_))))))))
        refine z_iconst (pc := 1216) dL_law_1216 ic_2 (z_iadd (pc := 1217) dL_law_1217 (z_iald0 (pc := 1218) (by decide) dL_law_1218 (z_callV_I (pc := 1219) (avs := [vi (hI h10 4 (ix (x9 + 1))), vi (hI h10 4 (ix (x9 + 2)))]) (st := []) rfl (q := (RX9, TX9, 18)) rfl rfl (t_X9_ahead F a7 (hI h10 4 (ix (x9 + 1))) (hI h10 4 (ix (x9 + 2))) h10) ky_X9_ahead wm_X9_ahead we_X9_ahead wz_RL_122 (rm_L_law_X9_ahead) (Nat.le_of_ble_eq_true rfl) dL_law_1219 (fun x119 h118 => (?_)))))
        refine z_aload_n (pc := 1222) dL_law_1222 rfl 2 rfl (z_aload_n (pc := 1223) dL_law_1223 rfl 0 rfl (z_iload_n (pc := 1224) dL_law_1224 rfl 3 rfl (z_iconst (pc := 1225) dL_law_1225 ic_1 (z_iadd (pc := 1226) dL_law_1226 (z_iald0 (pc := 1227) (by decide) dL_law_1227 (z_aload_n (pc := 1228) dL_law_1228 rfl 0 rfl (z_iload_n (pc := 1229) dL_law_1229 rfl 3 rfl (?_))))))))
        refine z_iconst (pc := 1230) dL_law_1230 ic_2 (z_iadd (pc := 1231) dL_law_1231 (z_iald0 (pc := 1232) (by decide) dL_law_1232 (z_callV_I (pc := 1233) (avs := [vi (hI h118 4 (ix (x9 + 1))), vi (hI h118 4 (ix (x9 + 2)))]) (st := [vi x119]) rfl (q := (RX10, TX10, 62)) rfl rfl (t_X10_ahead F a8 (hI h118 4 (ix (x9 + 1))) (hI h118 4 (ix (x9 + 2))) h118) ky_X10_ahead wm_X10_ahead we_X10_ahead wz_RL_125 (rm_L_law_X10_ahead) (Nat.le_of_ble_eq_true rfl) dL_law_1233 (fun x121 h120 => (?_)))))
        refine z_icmp_eq (pc := 1236) (tgt := 1929) dL_law_1236 (by decide) ?_ ?_
        · exact qj1929_11 h120
        · refine z_iconst (pc := 1239) dL_law_1239 ic_0 (?_)
          exact z_iret (pc := 1240) dL_law_1240 rfl rfl
      refine z_ite (fun e => z_tblC (tgt := 1241) (off := 1208) e dL_law_33 (by decide) (by decide) (by decide) (by decide) ?_) (fun _ => ?_)
      · refine z_aload_n (pc := 1241) dL_law_1241 rfl 1 rfl (z_callV_I (pc := 1242) (avs := []) (st := []) rfl (q := (RX9, TX9, 18)) rfl rfl (t_X9_quarrel F a7 h10) ky_X9_quarrel wm_X9_quarrel we_X9_quarrel wz_RL_126 (rm_L_law_X9_quarrel) (Nat.le_of_ble_eq_true rfl) dL_law_1242 (fun x123 h122 => (?_)))
        refine z_aload_n (pc := 1245) dL_law_1245 rfl 2 rfl (z_callV_I (pc := 1246) (avs := []) (st := [vi x123]) rfl (q := (RX10, TX10, 62)) rfl rfl (t_X10_quarrel F a8 h122) ky_X10_quarrel wm_X10_quarrel we_X10_quarrel wz_RL_130 (rm_L_law_X10_quarrel) (Nat.le_of_ble_eq_true rfl) dL_law_1246 (fun x125 h124 => (?_)))
        refine z_icmp_eq (pc := 1249) (tgt := 1929) dL_law_1249 (by decide) ?_ ?_
        · exact qj1929_11 h124
        · refine z_iconst (pc := 1252) dL_law_1252 ic_0 (?_)
          exact z_iret (pc := 1253) dL_law_1253 rfl rfl
      refine z_ite (fun e => z_tblC (tgt := 1254) (off := 1221) e dL_law_33 (by decide) (by decide) (by decide) (by decide) ?_) (fun _ => ?_)
      · refine z_aload_n (pc := 1254) dL_law_1254 rfl 1 rfl (z_aload_n (pc := 1255) dL_law_1255 rfl 0 rfl (z_iload_n (pc := 1256) dL_law_1256 rfl 3 rfl (z_iconst (pc := 1257) dL_law_1257 ic_1 (z_iadd (pc := 1258) dL_law_1258 (z_iald0 (pc := 1259) (by decide) dL_law_1259 (z_callV_I (pc := 1260) (avs := [vi (hI h10 4 (ix (x9 + 1)))]) (st := []) rfl (q := (RX9, TX9, 18)) rfl rfl (t_X9_orders F a7 (hI h10 4 (ix (x9 + 1))) h10) ky_X9_orders wm_X9_orders we_X9_orders wz_RL_131 (rm_L_law_X9_orders) (Nat.le_of_ble_eq_true rfl) dL_law_1260 (fun x127 h126 => (?_))))))))
        refine z_aload_n (pc := 1263) dL_law_1263 rfl 2 rfl (z_aload_n (pc := 1264) dL_law_1264 rfl 0 rfl (z_iload_n (pc := 1265) dL_law_1265 rfl 3 rfl (z_iconst (pc := 1266) dL_law_1266 ic_1 (z_iadd (pc := 1267) dL_law_1267 (z_iald0 (pc := 1268) (by decide) dL_law_1268 (z_callV_I (pc := 1269) (avs := [vi (hI h126 4 (ix (x9 + 1)))]) (st := [vi x127]) rfl (q := (RX10, TX10, 62)) rfl rfl (t_X10_orders F a8 (hI h126 4 (ix (x9 + 1))) h126) ky_X10_orders wm_X10_orders we_X10_orders wz_RL_134 (rm_L_law_X10_orders) (Nat.le_of_ble_eq_true rfl) dL_law_1269 (fun x129 h128 => (?_))))))))
        refine z_icmp_eq (pc := 1272) (tgt := 1929) dL_law_1272 (by decide) ?_ ?_
        · exact qj1929_11 h128
        · refine z_iconst (pc := 1275) dL_law_1275 ic_0 (?_)
          exact z_iret (pc := 1276) dL_law_1276 rfl rfl
      refine z_ite (fun e => z_tblC (tgt := 1277) (off := 1244) e dL_law_33 (by decide) (by decide) (by decide) (by decide) ?_) (fun _ => ?_)
      · refine z_aload_n (pc := 1277) dL_law_1277 rfl 1 rfl (z_aload_n (pc := 1278) dL_law_1278 rfl 0 rfl (z_iload_n (pc := 1279) dL_law_1279 rfl 3 rfl (z_iconst (pc := 1280) dL_law_1280 ic_1 (z_iadd (pc := 1281) dL_law_1281 (z_iald0 (pc := 1282) (by decide) dL_law_1282 (z_aload_n (pc := 1283) dL_law_1283 rfl 0 rfl (z_iload_n (pc := 1284) dL_law_1284 rfl 3 rfl (?_))))))))
        refine z_iconst (pc := 1285) dL_law_1285 ic_2 (z_iadd (pc := 1286) dL_law_1286 (z_iald0 (pc := 1287) (by decide) dL_law_1287 (z_callV_I (pc := 1288) (avs := [vi (hI h10 4 (ix (x9 + 1))), vi (hI h10 4 (ix (x9 + 2)))]) (st := []) rfl (q := (RX9, TX9, 18)) rfl rfl (t_X9_standsAhead F a7 (hI h10 4 (ix (x9 + 1))) (hI h10 4 (ix (x9 + 2))) h10) ky_X9_standsAhead wm_X9_standsAhead we_X9_standsAhead wz_RL_135 (rm_L_law_X9_standsAhead) (Nat.le_of_ble_eq_true rfl) dL_law_1288 (fun x131 h130 => (?_)))))
        refine z_aload_n (pc := 1291) dL_law_1291 rfl 2 rfl (z_aload_n (pc := 1292) dL_law_1292 rfl 0 rfl (z_iload_n (pc := 1293) dL_law_1293 rfl 3 rfl (z_iconst (pc := 1294) dL_law_1294 ic_1 (z_iadd (pc := 1295) dL_law_1295 (z_iald0 (pc := 1296) (by decide) dL_law_1296 (z_aload_n (pc := 1297) dL_law_1297 rfl 0 rfl (z_iload_n (pc := 1298) dL_law_1298 rfl 3 rfl (?_))))))))
        refine z_iconst (pc := 1299) dL_law_1299 ic_2 (z_iadd (pc := 1300) dL_law_1300 (z_iald0 (pc := 1301) (by decide) dL_law_1301 (z_callV_I (pc := 1302) (avs := [vi (hI h130 4 (ix (x9 + 1))), vi (hI h130 4 (ix (x9 + 2)))]) (st := [vi x131]) rfl (q := (RX10, TX10, 62)) rfl rfl (t_X10_standsAhead F a8 (hI h130 4 (ix (x9 + 1))) (hI h130 4 (ix (x9 + 2))) h130) ky_X10_standsAhead wm_X10_standsAhead we_X10_standsAhead wz_RL_138 (rm_L_law_X10_standsAhead) (Nat.le_of_ble_eq_true rfl) dL_law_1302 (fun x133 h132 => (?_)))))
        refine z_icmp_eq (pc := 1305) (tgt := 1929) dL_law_1305 (by decide) ?_ ?_
        · exact qj1929_11 h132
        · refine z_iconst (pc := 1308) dL_law_1308 ic_0 (?_)
          exact z_iret (pc := 1309) dL_law_1309 rfl rfl
      refine z_ite (fun e => z_tblC (tgt := 1310) (off := 1277) e dL_law_33 (by decide) (by decide) (by decide) (by decide) ?_) (fun _ => ?_)
      · refine z_aload_n (pc := 1310) dL_law_1310 rfl 1 rfl (z_aload_n (pc := 1311) dL_law_1311 rfl 0 rfl (z_iload_n (pc := 1312) dL_law_1312 rfl 3 rfl (z_iconst (pc := 1313) dL_law_1313 ic_1 (z_iadd (pc := 1314) dL_law_1314 (z_iald0 (pc := 1315) (by decide) dL_law_1315 (z_aload_n (pc := 1316) dL_law_1316 rfl 0 rfl (z_iload_n (pc := 1317) dL_law_1317 rfl 3 rfl (?_))))))))
        refine z_iconst (pc := 1318) dL_law_1318 ic_2 (z_iadd (pc := 1319) dL_law_1319 (z_iald0 (pc := 1320) (by decide) dL_law_1320 (z_callV_I (pc := 1321) (avs := [vi (hI h10 4 (ix (x9 + 1))), vi (hI h10 4 (ix (x9 + 2)))]) (st := []) rfl (q := (RX9, TX9, 18)) rfl rfl (t_X9_judgeOrder F a7 (hI h10 4 (ix (x9 + 1))) (hI h10 4 (ix (x9 + 2))) h10) ky_X9_judgeOrder wm_X9_judgeOrder we_X9_judgeOrder wz_RL_139 (rm_L_law_X9_judgeOrder) (Nat.le_of_ble_eq_true rfl) dL_law_1321 (fun x135 h134 => (?_)))))
        refine z_aload_n (pc := 1324) dL_law_1324 rfl 2 rfl (z_aload_n (pc := 1325) dL_law_1325 rfl 0 rfl (z_iload_n (pc := 1326) dL_law_1326 rfl 3 rfl (z_iconst (pc := 1327) dL_law_1327 ic_1 (z_iadd (pc := 1328) dL_law_1328 (z_iald0 (pc := 1329) (by decide) dL_law_1329 (z_aload_n (pc := 1330) dL_law_1330 rfl 0 rfl (z_iload_n (pc := 1331) dL_law_1331 rfl 3 rfl (?_))))))))
        refine z_iconst (pc := 1332) dL_law_1332 ic_2 (z_iadd (pc := 1333) dL_law_1333 (z_iald0 (pc := 1334) (by decide) dL_law_1334 (z_callV_I (pc := 1335) (avs := [vi (hI h134 4 (ix (x9 + 1))), vi (hI h134 4 (ix (x9 + 2)))]) (st := [vi x135]) rfl (q := (RX10, TX10, 62)) rfl rfl (t_X10_judgeOrder F a8 (hI h134 4 (ix (x9 + 1))) (hI h134 4 (ix (x9 + 2))) h134) ky_X10_judgeOrder wm_X10_judgeOrder we_X10_judgeOrder wz_RL_142 (rm_L_law_X10_judgeOrder) (Nat.le_of_ble_eq_true rfl) dL_law_1335 (fun x137 h136 => (?_)))))
        refine z_icmp_eq (pc := 1338) (tgt := 1929) dL_law_1338 (by decide) ?_ ?_
        · exact qj1929_11 h136
        · refine z_iconst (pc := 1341) dL_law_1341 ic_0 (?_)
          exact z_iret (pc := 1342) dL_law_1342 rfl rfl
      refine z_ite (fun e => z_tblC (tgt := 1343) (off := 1310) e dL_law_33 (by decide) (by decide) (by decide) (by decide) ?_) (fun _ => ?_)
      · refine z_aload_n (pc := 1343) dL_law_1343 rfl 1 rfl (z_aload_n (pc := 1344) dL_law_1344 rfl 0 rfl (z_iload_n (pc := 1345) dL_law_1345 rfl 3 rfl (z_iconst (pc := 1346) dL_law_1346 ic_1 (z_iadd (pc := 1347) dL_law_1347 (z_iald0 (pc := 1348) (by decide) dL_law_1348 (z_aload_n (pc := 1349) dL_law_1349 rfl 0 rfl (z_iload_n (pc := 1350) dL_law_1350 rfl 3 rfl (?_))))))))
        refine z_iconst (pc := 1351) dL_law_1351 ic_2 (z_iadd (pc := 1352) dL_law_1352 (z_iald0 (pc := 1353) (by decide) dL_law_1353 (?_)))
        refine z_jn (P := fun (j : Int32 → z_Hp → Option (Int32 × z_Hp)) => ∀ (x139 : Int32) (h140 : z_Hp), z_G zi mi_L_law 1362 [(0, vr (some 4)), (1, vr (some a7)), (2, vr (some a8)), (3, vi x9)] [vi x139, vi (hI h10 4 (ix (x9 + 1))), vr (some a7)] h140 (j x139 h140)) (fun x139 h140 => ?_) (fun j1362_138 qj1362_138 => ?_)
        · refine z_callV_I (pc := 1362) (avs := [vi (hI h10 4 (ix (x9 + 1))), vi x139]) (st := []) rfl (q := (RX9, TX9, 18)) rfl rfl (t_X9_year F a7 (hI h10 4 (ix (x9 + 1))) x139 h140) ky_X9_year wm_X9_year we_X9_year wz_RL_143 (rm_L_law_X9_year) (Nat.le_of_ble_eq_true rfl) dL_law_1362 (fun x142 h141 => (?_))
          refine z_aload_n (pc := 1365) dL_law_1365 rfl 2 rfl (z_aload_n (pc := 1366) dL_law_1366 rfl 0 rfl (z_iload_n (pc := 1367) dL_law_1367 rfl 3 rfl (z_iconst (pc := 1368) dL_law_1368 ic_1 (z_iadd (pc := 1369) dL_law_1369 (z_iald0 (pc := 1370) (by decide) dL_law_1370 (z_aload_n (pc := 1371) dL_law_1371 rfl 0 rfl (z_iload_n (pc := 1372) dL_law_1372 rfl 3 rfl (?_))))))))
          refine z_iconst (pc := 1373) dL_law_1373 ic_2 (z_iadd (pc := 1374) dL_law_1374 (z_iald0 (pc := 1375) (by decide) dL_law_1375 (?_)))
          refine z_jn (P := fun (j : Int32 → z_Hp → Option (Int32 × z_Hp)) => ∀ (x144 : Int32) (h145 : z_Hp), z_G zi mi_L_law 1384 [(0, vr (some 4)), (1, vr (some a7)), (2, vr (some a8)), (3, vi x9)] [vi x144, vi (hI h141 4 (ix (x9 + 1))), vr (some a8), vi x142] h145 (j x144 h145)) (fun x144 h145 => ?_) (fun j1384_143 qj1384_143 => ?_)
          · refine z_callV_I (pc := 1384) (avs := [vi (hI h141 4 (ix (x9 + 1))), vi x144]) (st := [vi x142]) rfl (q := (RX10, TX10, 62)) rfl rfl (t_X10_year F a8 (hI h141 4 (ix (x9 + 1))) x144 h145) ky_X10_year wm_X10_year we_X10_year wz_RL_147 (rm_L_law_X10_year) (Nat.le_of_ble_eq_true rfl) dL_law_1384 (fun x147 h146 => (?_))
            refine z_icmp_eq (pc := 1387) (tgt := 1929) dL_law_1387 (by decide) ?_ ?_
            · exact qj1929_11 h146
            · refine z_iconst (pc := 1390) dL_law_1390 ic_0 (?_)
              exact z_iret (pc := 1391) dL_law_1391 rfl rfl
          refine z_if_eq (pc := 1376) (tgt := 1383) dL_law_1376 (by decide) ?_ ?_
          · refine z_iconst (pc := 1383) dL_law_1383 ic_0 (?_)
            exact qj1384_143 0 h141
          · refine z_iconst (pc := 1379) dL_law_1379 ic_1 (z_goto (pc := 1380) (tgt := 1384) dL_law_1380 (by decide) (?_))
            exact qj1384_143 1 h141
        refine z_if_eq (pc := 1354) (tgt := 1361) dL_law_1354 (by decide) ?_ ?_
        · refine z_iconst (pc := 1361) dL_law_1361 ic_0 (?_)
          exact qj1362_138 0 h10
        · refine z_iconst (pc := 1357) dL_law_1357 ic_1 (z_goto (pc := 1358) (tgt := 1362) dL_law_1358 (by decide) (?_))
          exact qj1362_138 1 h10
      refine z_ite (fun e => z_tblC (tgt := 1392) (off := 1359) e dL_law_33 (by decide) (by decide) (by decide) (by decide) ?_) (fun _ => ?_)
      · refine z_aload_n (pc := 1392) dL_law_1392 rfl 1 rfl (z_callV_I (pc := 1393) (avs := []) (st := []) rfl (q := (RX9, TX9, 18)) rfl rfl (t_X9_doubts F a7 h10) ky_X9_doubts wm_X9_doubts we_X9_doubts wz_RL_148 (rm_L_law_X9_doubts) (Nat.le_of_ble_eq_true rfl) dL_law_1393 (fun x149 h148 => (?_)))
        refine z_aload_n (pc := 1396) dL_law_1396 rfl 2 rfl (z_callV_I (pc := 1397) (avs := []) (st := [vi x149]) rfl (q := (RX10, TX10, 62)) rfl rfl (t_X10_doubts F a8 h148) ky_X10_doubts wm_X10_doubts we_X10_doubts wz_RL_151 (rm_L_law_X10_doubts) (Nat.le_of_ble_eq_true rfl) dL_law_1397 (fun x151 h150 => (?_)))
        refine z_icmp_eq (pc := 1400) (tgt := 1929) dL_law_1400 (by decide) ?_ ?_
        · exact qj1929_11 h150
        · refine z_iconst (pc := 1403) dL_law_1403 ic_0 (?_)
          exact z_iret (pc := 1404) dL_law_1404 rfl rfl
      refine z_ite (fun e => z_tblC (tgt := 1405) (off := 1372) e dL_law_33 (by decide) (by decide) (by decide) (by decide) ?_) (fun _ => ?_)
      · refine z_aload_n (pc := 1405) dL_law_1405 rfl 1 rfl (z_aload_n (pc := 1406) dL_law_1406 rfl 0 rfl (z_iload_n (pc := 1407) dL_law_1407 rfl 3 rfl (z_iconst (pc := 1408) dL_law_1408 ic_1 (z_iadd (pc := 1409) dL_law_1409 (z_iald0 (pc := 1410) (by decide) dL_law_1410 (z_aload_n (pc := 1411) dL_law_1411 rfl 0 rfl (z_iload_n (pc := 1412) dL_law_1412 rfl 3 rfl (?_))))))))
        refine z_iconst (pc := 1413) dL_law_1413 ic_2 (z_iadd (pc := 1414) dL_law_1414 (z_iald0 (pc := 1415) (by decide) dL_law_1415 (z_callV_I (pc := 1416) (avs := [vi (hI h10 4 (ix (x9 + 1))), vi (hI h10 4 (ix (x9 + 2)))]) (st := []) rfl (q := (RX9, TX9, 18)) rfl rfl (t_X9_changes F a7 (hI h10 4 (ix (x9 + 1))) (hI h10 4 (ix (x9 + 2))) h10) ky_X9_changes wm_X9_changes we_X9_changes wz_RL_152 (rm_L_law_X9_changes) (Nat.le_of_ble_eq_true rfl) dL_law_1416 (fun x153 h152 => (?_)))))
        refine z_aload_n (pc := 1419) dL_law_1419 rfl 2 rfl (z_aload_n (pc := 1420) dL_law_1420 rfl 0 rfl (z_iload_n (pc := 1421) dL_law_1421 rfl 3 rfl (z_iconst (pc := 1422) dL_law_1422 ic_1 (z_iadd (pc := 1423) dL_law_1423 (z_iald0 (pc := 1424) (by decide) dL_law_1424 (z_aload_n (pc := 1425) dL_law_1425 rfl 0 rfl (z_iload_n (pc := 1426) dL_law_1426 rfl 3 rfl (?_))))))))
        refine z_iconst (pc := 1427) dL_law_1427 ic_2 (z_iadd (pc := 1428) dL_law_1428 (z_iald0 (pc := 1429) (by decide) dL_law_1429 (z_callV_I (pc := 1430) (avs := [vi (hI h152 4 (ix (x9 + 1))), vi (hI h152 4 (ix (x9 + 2)))]) (st := [vi x153]) rfl (q := (RX10, TX10, 62)) rfl rfl (t_X10_changes F a8 (hI h152 4 (ix (x9 + 1))) (hI h152 4 (ix (x9 + 2))) h152) ky_X10_changes wm_X10_changes we_X10_changes wz_RL_155 (rm_L_law_X10_changes) (Nat.le_of_ble_eq_true rfl) dL_law_1430 (fun x155 h154 => (?_)))))
        refine z_icmp_eq (pc := 1433) (tgt := 1929) dL_law_1433 (by decide) ?_ ?_
        · exact qj1929_11 h154
        · refine z_iconst (pc := 1436) dL_law_1436 ic_0 (?_)
          exact z_iret (pc := 1437) dL_law_1437 rfl rfl
      refine z_ite (fun e => z_tblC (tgt := 1438) (off := 1405) e dL_law_33 (by decide) (by decide) (by decide) (by decide) ?_) (fun _ => ?_)
      · refine z_aload_n (pc := 1438) dL_law_1438 rfl 1 rfl (z_aload_n (pc := 1439) dL_law_1439 rfl 0 rfl (z_iload_n (pc := 1440) dL_law_1440 rfl 3 rfl (z_iconst (pc := 1441) dL_law_1441 ic_1 (z_iadd (pc := 1442) dL_law_1442 (z_iald0 (pc := 1443) (by decide) dL_law_1443 (z_callV_I (pc := 1444) (avs := [vi (hI h10 4 (ix (x9 + 1)))]) (st := []) rfl (q := (RX9, TX9, 18)) rfl rfl (t_X9_family F a7 (hI h10 4 (ix (x9 + 1))) h10) ky_X9_family wm_X9_family we_X9_family wz_RL_156 (rm_L_law_X9_family) (Nat.le_of_ble_eq_true rfl) dL_law_1444 (fun x157 h156 => (?_))))))))
        refine z_aload_n (pc := 1447) dL_law_1447 rfl 2 rfl (z_aload_n (pc := 1448) dL_law_1448 rfl 0 rfl (z_iload_n (pc := 1449) dL_law_1449 rfl 3 rfl (z_iconst (pc := 1450) dL_law_1450 ic_1 (z_iadd (pc := 1451) dL_law_1451 (z_iald0 (pc := 1452) (by decide) dL_law_1452 (z_callV_I (pc := 1453) (avs := [vi (hI h156 4 (ix (x9 + 1)))]) (st := [vi x157]) rfl (q := (RX10, TX10, 62)) rfl rfl (t_X10_family F a8 (hI h156 4 (ix (x9 + 1))) h156) ky_X10_family wm_X10_family we_X10_family wz_RL_159 (rm_L_law_X10_family) (Nat.le_of_ble_eq_true rfl) dL_law_1453 (fun x159 h158 => (?_))))))))
        refine z_icmp_eq (pc := 1456) (tgt := 1929) dL_law_1456 (by decide) ?_ ?_
        · exact qj1929_11 h158
        · refine z_iconst (pc := 1459) dL_law_1459 ic_0 (?_)
          exact z_iret (pc := 1460) dL_law_1460 rfl rfl
      refine z_ite (fun e => z_tblC (tgt := 1461) (off := 1428) e dL_law_33 (by decide) (by decide) (by decide) (by decide) ?_) (fun _ => ?_)
      · refine z_aload_n (pc := 1461) dL_law_1461 rfl 1 rfl (z_aload_n (pc := 1462) dL_law_1462 rfl 0 rfl (z_iload_n (pc := 1463) dL_law_1463 rfl 3 rfl (z_iconst (pc := 1464) dL_law_1464 ic_1 (z_iadd (pc := 1465) dL_law_1465 (z_iald0 (pc := 1466) (by decide) dL_law_1466 (z_aload_n (pc := 1467) dL_law_1467 rfl 0 rfl (z_iload_n (pc := 1468) dL_law_1468 rfl 3 rfl (?_))))))))
        refine z_iconst (pc := 1469) dL_law_1469 ic_2 (z_iadd (pc := 1470) dL_law_1470 (z_iald0 (pc := 1471) (by decide) dL_law_1471 (z_callV_I (pc := 1472) (avs := [vi (hI h10 4 (ix (x9 + 1))), vi (hI h10 4 (ix (x9 + 2)))]) (st := []) rfl (q := (RX9, TX9, 18)) rfl rfl (t_X9_judge F a7 (hI h10 4 (ix (x9 + 1))) (hI h10 4 (ix (x9 + 2))) h10) ky_X9_judge wm_X9_judge we_X9_judge wz_RL_160 (rm_L_law_X9_judge) (Nat.le_of_ble_eq_true rfl) dL_law_1472 (fun x161 h160 => (?_)))))
        refine z_aload_n (pc := 1475) dL_law_1475 rfl 2 rfl (z_aload_n (pc := 1476) dL_law_1476 rfl 0 rfl (z_iload_n (pc := 1477) dL_law_1477 rfl 3 rfl (z_iconst (pc := 1478) dL_law_1478 ic_1 (z_iadd (pc := 1479) dL_law_1479 (z_iald0 (pc := 1480) (by decide) dL_law_1480 (z_aload_n (pc := 1481) dL_law_1481 rfl 0 rfl (z_iload_n (pc := 1482) dL_law_1482 rfl 3 rfl (?_))))))))
        refine z_iconst (pc := 1483) dL_law_1483 ic_2 (z_iadd (pc := 1484) dL_law_1484 (z_iald0 (pc := 1485) (by decide) dL_law_1485 (z_callV_I (pc := 1486) (avs := [vi (hI h160 4 (ix (x9 + 1))), vi (hI h160 4 (ix (x9 + 2)))]) (st := [vi x161]) rfl (q := (RX10, TX10, 62)) rfl rfl (t_X10_judge F a8 (hI h160 4 (ix (x9 + 1))) (hI h160 4 (ix (x9 + 2))) h160) ky_X10_judge wm_X10_judge we_X10_judge wz_RL_163 (rm_L_law_X10_judge) (Nat.le_of_ble_eq_true rfl) dL_law_1486 (fun x163 h162 => (?_)))))
        refine z_icmp_eq (pc := 1489) (tgt := 1929) dL_law_1489 (by decide) ?_ ?_
        · exact qj1929_11 h162
        · refine z_iconst (pc := 1492) dL_law_1492 ic_0 (?_)
          exact z_iret (pc := 1493) dL_law_1493 rfl rfl
      refine z_ite (fun e => z_tblC (tgt := 1494) (off := 1461) e dL_law_33 (by decide) (by decide) (by decide) (by decide) ?_) (fun _ => ?_)
      · refine z_aload_n (pc := 1494) dL_law_1494 rfl 1 rfl (z_aload_n (pc := 1495) dL_law_1495 rfl 0 rfl (z_iload_n (pc := 1496) dL_law_1496 rfl 3 rfl (z_iconst (pc := 1497) dL_law_1497 ic_1 (z_iadd (pc := 1498) dL_law_1498 (z_iald0 (pc := 1499) (by decide) dL_law_1499 (z_aload_n (pc := 1500) dL_law_1500 rfl 0 rfl (z_iload_n (pc := 1501) dL_law_1501 rfl 3 rfl (?_))))))))
        refine z_iconst (pc := 1502) dL_law_1502 ic_2 (z_iadd (pc := 1503) dL_law_1503 (z_iald0 (pc := 1504) (by decide) dL_law_1504 (z_callV_I (pc := 1505) (avs := [vi (hI h10 4 (ix (x9 + 1))), vi (hI h10 4 (ix (x9 + 2)))]) (st := []) rfl (q := (RX9, TX9, 18)) rfl rfl (t_X9_taken F a7 (hI h10 4 (ix (x9 + 1))) (hI h10 4 (ix (x9 + 2))) h10) ky_X9_taken wm_X9_taken we_X9_taken wz_RL_164 (rm_L_law_X9_taken) (Nat.le_of_ble_eq_true rfl) dL_law_1505 (fun x165 h164 => (?_)))))
        refine z_aload_n (pc := 1508) dL_law_1508 rfl 2 rfl (z_aload_n (pc := 1509) dL_law_1509 rfl 0 rfl (z_iload_n (pc := 1510) dL_law_1510 rfl 3 rfl (z_iconst (pc := 1511) dL_law_1511 ic_1 (z_iadd (pc := 1512) dL_law_1512 (z_iald0 (pc := 1513) (by decide) dL_law_1513 (z_aload_n (pc := 1514) dL_law_1514 rfl 0 rfl (z_iload_n (pc := 1515) dL_law_1515 rfl 3 rfl (?_))))))))
        refine z_iconst (pc := 1516) dL_law_1516 ic_2 (z_iadd (pc := 1517) dL_law_1517 (z_iald0 (pc := 1518) (by decide) dL_law_1518 (z_callV_I (pc := 1519) (avs := [vi (hI h164 4 (ix (x9 + 1))), vi (hI h164 4 (ix (x9 + 2)))]) (st := [vi x165]) rfl (q := (RX10, TX10, 62)) rfl rfl (t_X10_taken F a8 (hI h164 4 (ix (x9 + 1))) (hI h164 4 (ix (x9 + 2))) h164) ky_X10_taken wm_X10_taken we_X10_taken wz_RL_167 (rm_L_law_X10_taken) (Nat.le_of_ble_eq_true rfl) dL_law_1519 (fun x167 h166 => (?_)))))
        refine z_icmp_eq (pc := 1522) (tgt := 1929) dL_law_1522 (by decide) ?_ ?_
        · exact qj1929_11 h166
        · refine z_iconst (pc := 1525) dL_law_1525 ic_0 (?_)
          exact z_iret (pc := 1526) dL_law_1526 rfl rfl
      refine z_ite (fun e => z_tblC (tgt := 1527) (off := 1494) e dL_law_33 (by decide) (by decide) (by decide) (by decide) ?_) (fun _ => ?_)
      · refine z_aload_n (pc := 1527) dL_law_1527 rfl 1 rfl (z_aload_n (pc := 1528) dL_law_1528 rfl 0 rfl (z_iload_n (pc := 1529) dL_law_1529 rfl 3 rfl (z_iconst (pc := 1530) dL_law_1530 ic_1 (z_iadd (pc := 1531) dL_law_1531 (z_iald0 (pc := 1532) (by decide) dL_law_1532 (z_aload_n (pc := 1533) dL_law_1533 rfl 0 rfl (z_iload_n (pc := 1534) dL_law_1534 rfl 3 rfl (?_))))))))
        refine z_iconst (pc := 1535) dL_law_1535 ic_2 (z_iadd (pc := 1536) dL_law_1536 (z_iald0 (pc := 1537) (by decide) dL_law_1537 (z_aload_n (pc := 1538) dL_law_1538 rfl 0 rfl (z_iload_n (pc := 1539) dL_law_1539 rfl 3 rfl (z_iconst (pc := 1540) dL_law_1540 ic_3 (z_iadd (pc := 1541) dL_law_1541 (z_iald0 (pc := 1542) (by decide) dL_law_1542 (?_))))))))
        refine z_callV_I (pc := 1543) (avs := [vi (hI h10 4 (ix (x9 + 1))), vi (hI h10 4 (ix (x9 + 2))), vi (hI h10 4 (ix (x9 + 3)))]) (st := []) rfl (q := (RX9, TX9, 18)) rfl rfl (t_X9_register F a7 (hI h10 4 (ix (x9 + 1))) (hI h10 4 (ix (x9 + 2))) (hI h10 4 (ix (x9 + 3))) h10) ky_X9_register wm_X9_register we_X9_register wz_RL_168 (rm_L_law_X9_register) (Nat.le_of_ble_eq_true rfl) dL_law_1543 (fun x169 h168 => (?_))
        refine z_aload_n (pc := 1546) dL_law_1546 rfl 2 rfl (z_aload_n (pc := 1547) dL_law_1547 rfl 0 rfl (z_iload_n (pc := 1548) dL_law_1548 rfl 3 rfl (z_iconst (pc := 1549) dL_law_1549 ic_1 (z_iadd (pc := 1550) dL_law_1550 (z_iald0 (pc := 1551) (by decide) dL_law_1551 (z_aload_n (pc := 1552) dL_law_1552 rfl 0 rfl (z_iload_n (pc := 1553) dL_law_1553 rfl 3 rfl (?_))))))))
        refine z_iconst (pc := 1554) dL_law_1554 ic_2 (z_iadd (pc := 1555) dL_law_1555 (z_iald0 (pc := 1556) (by decide) dL_law_1556 (z_aload_n (pc := 1557) dL_law_1557 rfl 0 rfl (z_iload_n (pc := 1558) dL_law_1558 rfl 3 rfl (z_iconst (pc := 1559) dL_law_1559 ic_3 (z_iadd (pc := 1560) dL_law_1560 (z_iald0 (pc := 1561) (by decide) dL_law_1561 (?_))))))))
        refine z_callV_I (pc := 1562) (avs := [vi (hI h168 4 (ix (x9 + 1))), vi (hI h168 4 (ix (x9 + 2))), vi (hI h168 4 (ix (x9 + 3)))]) (st := [vi x169]) rfl (q := (RX10, TX10, 62)) rfl rfl (t_X10_register F a8 (hI h168 4 (ix (x9 + 1))) (hI h168 4 (ix (x9 + 2))) (hI h168 4 (ix (x9 + 3))) h168) ky_X10_register wm_X10_register we_X10_register wz_RL_171 (rm_L_law_X10_register) (Nat.le_of_ble_eq_true rfl) dL_law_1562 (fun x171 h170 => (?_))
        refine z_icmp_eq (pc := 1565) (tgt := 1929) dL_law_1565 (by decide) ?_ ?_
        · exact qj1929_11 h170
        · refine z_iconst (pc := 1568) dL_law_1568 ic_0 (?_)
          exact z_iret (pc := 1569) dL_law_1569 rfl rfl
      refine z_ite (fun e => z_tblC (tgt := 1570) (off := 1537) e dL_law_33 (by decide) (by decide) (by decide) (by decide) ?_) (fun _ => ?_)
      · refine z_aload_n (pc := 1570) dL_law_1570 rfl 1 rfl (z_aload_n (pc := 1571) dL_law_1571 rfl 0 rfl (z_iload_n (pc := 1572) dL_law_1572 rfl 3 rfl (z_iconst (pc := 1573) dL_law_1573 ic_1 (z_iadd (pc := 1574) dL_law_1574 (z_iald0 (pc := 1575) (by decide) dL_law_1575 (z_aload_n (pc := 1576) dL_law_1576 rfl 0 rfl (z_iload_n (pc := 1577) dL_law_1577 rfl 3 rfl (?_))))))))
        refine z_iconst (pc := 1578) dL_law_1578 ic_2 (z_iadd (pc := 1579) dL_law_1579 (z_iald0 (pc := 1580) (by decide) dL_law_1580 (z_callV_I (pc := 1581) (avs := [vi (hI h10 4 (ix (x9 + 1))), vi (hI h10 4 (ix (x9 + 2)))]) (st := []) rfl (q := (RX9, TX9, 18)) rfl rfl (t_X9_right F a7 (hI h10 4 (ix (x9 + 1))) (hI h10 4 (ix (x9 + 2))) h10) ky_X9_right wm_X9_right we_X9_right wz_RL_172 (rm_L_law_X9_right) (Nat.le_of_ble_eq_true rfl) dL_law_1581 (fun x173 h172 => (?_)))))
        refine z_aload_n (pc := 1584) dL_law_1584 rfl 2 rfl (z_aload_n (pc := 1585) dL_law_1585 rfl 0 rfl (z_iload_n (pc := 1586) dL_law_1586 rfl 3 rfl (z_iconst (pc := 1587) dL_law_1587 ic_1 (z_iadd (pc := 1588) dL_law_1588 (z_iald0 (pc := 1589) (by decide) dL_law_1589 (z_aload_n (pc := 1590) dL_law_1590 rfl 0 rfl (z_iload_n (pc := 1591) dL_law_1591 rfl 3 rfl (?_))))))))
        refine z_iconst (pc := 1592) dL_law_1592 ic_2 (z_iadd (pc := 1593) dL_law_1593 (z_iald0 (pc := 1594) (by decide) dL_law_1594 (z_callV_I (pc := 1595) (avs := [vi (hI h172 4 (ix (x9 + 1))), vi (hI h172 4 (ix (x9 + 2)))]) (st := [vi x173]) rfl (q := (RX10, TX10, 62)) rfl rfl (t_X10_right F a8 (hI h172 4 (ix (x9 + 1))) (hI h172 4 (ix (x9 + 2))) h172) ky_X10_right wm_X10_right we_X10_right wz_RL_175 (rm_L_law_X10_right) (Nat.le_of_ble_eq_true rfl) dL_law_1595 (fun x175 h174 => (?_)))))
        refine z_icmp_eq (pc := 1598) (tgt := 1929) dL_law_1598 (by decide) ?_ ?_
        · exact qj1929_11 h174
        · refine z_iconst (pc := 1601) dL_law_1601 ic_0 (?_)
          exact z_iret (pc := 1602) dL_law_1602 rfl rfl
      refine z_ite (fun e => z_tblC (tgt := 1603) (off := 1570) e dL_law_33 (by decide) (by decide) (by decide) (by decide) ?_) (fun _ => ?_)
      · refine z_aload_n (pc := 1603) dL_law_1603 rfl 1 rfl (z_aload_n (pc := 1604) dL_law_1604 rfl 0 rfl (z_iload_n (pc := 1605) dL_law_1605 rfl 3 rfl (z_iconst (pc := 1606) dL_law_1606 ic_1 (z_iadd (pc := 1607) dL_law_1607 (z_iald0 (pc := 1608) (by decide) dL_law_1608 (z_aload_n (pc := 1609) dL_law_1609 rfl 0 rfl (z_iload_n (pc := 1610) dL_law_1610 rfl 3 rfl (?_))))))))
        refine z_iconst (pc := 1611) dL_law_1611 ic_2 (z_iadd (pc := 1612) dL_law_1612 (z_iald0 (pc := 1613) (by decide) dL_law_1613 (z_callV_I (pc := 1614) (avs := [vi (hI h10 4 (ix (x9 + 1))), vi (hI h10 4 (ix (x9 + 2)))]) (st := []) rfl (q := (RX9, TX9, 18)) rfl rfl (t_X9_join F a7 (hI h10 4 (ix (x9 + 1))) (hI h10 4 (ix (x9 + 2))) h10) ky_X9_join wm_X9_join we_X9_join wz_RL_176 (rm_L_law_X9_join) (Nat.le_of_ble_eq_true rfl) dL_law_1614 (fun x177 h176 => (?_)))))
        refine z_aload_n (pc := 1617) dL_law_1617 rfl 2 rfl (z_aload_n (pc := 1618) dL_law_1618 rfl 0 rfl (z_iload_n (pc := 1619) dL_law_1619 rfl 3 rfl (z_iconst (pc := 1620) dL_law_1620 ic_1 (z_iadd (pc := 1621) dL_law_1621 (z_iald0 (pc := 1622) (by decide) dL_law_1622 (z_aload_n (pc := 1623) dL_law_1623 rfl 0 rfl (z_iload_n (pc := 1624) dL_law_1624 rfl 3 rfl (?_))))))))
        refine z_iconst (pc := 1625) dL_law_1625 ic_2 (z_iadd (pc := 1626) dL_law_1626 (z_iald0 (pc := 1627) (by decide) dL_law_1627 (z_callV_I (pc := 1628) (avs := [vi (hI h176 4 (ix (x9 + 1))), vi (hI h176 4 (ix (x9 + 2)))]) (st := [vi x177]) rfl (q := (RX10, TX10, 62)) rfl rfl (t_X10_join F a8 (hI h176 4 (ix (x9 + 1))) (hI h176 4 (ix (x9 + 2))) h176) ky_X10_join wm_X10_join we_X10_join wz_RL_179 (rm_L_law_X10_join) (Nat.le_of_ble_eq_true rfl) dL_law_1628 (fun x179 h178 => (?_)))))
        refine z_icmp_eq (pc := 1631) (tgt := 1929) dL_law_1631 (by decide) ?_ ?_
        · exact qj1929_11 h178
        · refine z_iconst (pc := 1634) dL_law_1634 ic_0 (?_)
          exact z_iret (pc := 1635) dL_law_1635 rfl rfl
      refine z_ite (fun e => z_tblC (tgt := 1636) (off := 1603) e dL_law_33 (by decide) (by decide) (by decide) (by decide) ?_) (fun _ => ?_)
      · refine z_aload_n (pc := 1636) dL_law_1636 rfl 1 rfl (z_aload_n (pc := 1637) dL_law_1637 rfl 0 rfl (z_iload_n (pc := 1638) dL_law_1638 rfl 3 rfl (z_iconst (pc := 1639) dL_law_1639 ic_1 (z_iadd (pc := 1640) dL_law_1640 (z_iald0 (pc := 1641) (by decide) dL_law_1641 (z_aload_n (pc := 1642) dL_law_1642 rfl 0 rfl (z_iload_n (pc := 1643) dL_law_1643 rfl 3 rfl (?_))))))))
        refine z_iconst (pc := 1644) dL_law_1644 ic_2 (z_iadd (pc := 1645) dL_law_1645 (z_iald0 (pc := 1646) (by decide) dL_law_1646 (z_callV_I (pc := 1647) (avs := [vi (hI h10 4 (ix (x9 + 1))), vi (hI h10 4 (ix (x9 + 2)))]) (st := []) rfl (q := (RX9, TX9, 18)) rfl rfl (t_X9_walk F a7 (hI h10 4 (ix (x9 + 1))) (hI h10 4 (ix (x9 + 2))) h10) ky_X9_walk wm_X9_walk we_X9_walk wz_RL_180 (rm_L_law_X9_walk) (Nat.le_of_ble_eq_true rfl) dL_law_1647 (fun x181 h180 => (?_)))))
        refine z_aload_n (pc := 1650) dL_law_1650 rfl 2 rfl (z_aload_n (pc := 1651) dL_law_1651 rfl 0 rfl (z_iload_n (pc := 1652) dL_law_1652 rfl 3 rfl (z_iconst (pc := 1653) dL_law_1653 ic_1 (z_iadd (pc := 1654) dL_law_1654 (z_iald0 (pc := 1655) (by decide) dL_law_1655 (z_aload_n (pc := 1656) dL_law_1656 rfl 0 rfl (z_iload_n (pc := 1657) dL_law_1657 rfl 3 rfl (?_))))))))
        refine z_iconst (pc := 1658) dL_law_1658 ic_2 (z_iadd (pc := 1659) dL_law_1659 (z_iald0 (pc := 1660) (by decide) dL_law_1660 (z_callV_I (pc := 1661) (avs := [vi (hI h180 4 (ix (x9 + 1))), vi (hI h180 4 (ix (x9 + 2)))]) (st := [vi x181]) rfl (q := (RX10, TX10, 62)) rfl rfl (t_X10_walk F a8 (hI h180 4 (ix (x9 + 1))) (hI h180 4 (ix (x9 + 2))) h180) ky_X10_walk wm_X10_walk we_X10_walk wz_RL_183 (rm_L_law_X10_walk) (Nat.le_of_ble_eq_true rfl) dL_law_1661 (fun x183 h182 => (?_)))))
        refine z_icmp_eq (pc := 1664) (tgt := 1929) dL_law_1664 (by decide) ?_ ?_
        · exact qj1929_11 h182
        · refine z_iconst (pc := 1667) dL_law_1667 ic_0 (?_)
          exact z_iret (pc := 1668) dL_law_1668 rfl rfl
      refine z_ite (fun e => z_tblC (tgt := 1669) (off := 1636) e dL_law_33 (by decide) (by decide) (by decide) (by decide) ?_) (fun _ => ?_)
      · refine z_aload_n (pc := 1669) dL_law_1669 rfl 1 rfl (z_aload_n (pc := 1670) dL_law_1670 rfl 0 rfl (z_iload_n (pc := 1671) dL_law_1671 rfl 3 rfl (z_iconst (pc := 1672) dL_law_1672 ic_1 (z_iadd (pc := 1673) dL_law_1673 (z_iald0 (pc := 1674) (by decide) dL_law_1674 (z_aload_n (pc := 1675) dL_law_1675 rfl 0 rfl (z_iload_n (pc := 1676) dL_law_1676 rfl 3 rfl (?_))))))))
        refine z_iconst (pc := 1677) dL_law_1677 ic_2 (z_iadd (pc := 1678) dL_law_1678 (z_iald0 (pc := 1679) (by decide) dL_law_1679 (z_aload_n (pc := 1680) dL_law_1680 rfl 0 rfl (z_iload_n (pc := 1681) dL_law_1681 rfl 3 rfl (z_iconst (pc := 1682) dL_law_1682 ic_3 (z_iadd (pc := 1683) dL_law_1683 (z_iald0 (pc := 1684) (by decide) dL_law_1684 (?_))))))))
        refine z_callV_I (pc := 1685) (avs := [vi (hI h10 4 (ix (x9 + 1))), vi (hI h10 4 (ix (x9 + 2))), vi (hI h10 4 (ix (x9 + 3)))]) (st := []) rfl (q := (RX9, TX9, 18)) rfl rfl (t_X9_sung F a7 (hI h10 4 (ix (x9 + 1))) (hI h10 4 (ix (x9 + 2))) (hI h10 4 (ix (x9 + 3))) h10) ky_X9_sung wm_X9_sung we_X9_sung wz_RL_184 (rm_L_law_X9_sung) (Nat.le_of_ble_eq_true rfl) dL_law_1685 (fun x185 h184 => (?_))
        refine z_aload_n (pc := 1688) dL_law_1688 rfl 2 rfl (z_aload_n (pc := 1689) dL_law_1689 rfl 0 rfl (z_iload_n (pc := 1690) dL_law_1690 rfl 3 rfl (z_iconst (pc := 1691) dL_law_1691 ic_1 (z_iadd (pc := 1692) dL_law_1692 (z_iald0 (pc := 1693) (by decide) dL_law_1693 (z_aload_n (pc := 1694) dL_law_1694 rfl 0 rfl (z_iload_n (pc := 1695) dL_law_1695 rfl 3 rfl (?_))))))))
        refine z_iconst (pc := 1696) dL_law_1696 ic_2 (z_iadd (pc := 1697) dL_law_1697 (z_iald0 (pc := 1698) (by decide) dL_law_1698 (z_aload_n (pc := 1699) dL_law_1699 rfl 0 rfl (z_iload_n (pc := 1700) dL_law_1700 rfl 3 rfl (z_iconst (pc := 1701) dL_law_1701 ic_3 (z_iadd (pc := 1702) dL_law_1702 (z_iald0 (pc := 1703) (by decide) dL_law_1703 (?_))))))))
        refine z_callV_I (pc := 1704) (avs := [vi (hI h184 4 (ix (x9 + 1))), vi (hI h184 4 (ix (x9 + 2))), vi (hI h184 4 (ix (x9 + 3)))]) (st := [vi x185]) rfl (q := (RX10, TX10, 62)) rfl rfl (t_X10_sung F a8 (hI h184 4 (ix (x9 + 1))) (hI h184 4 (ix (x9 + 2))) (hI h184 4 (ix (x9 + 3))) h184) ky_X10_sung wm_X10_sung we_X10_sung wz_RL_187 (rm_L_law_X10_sung) (Nat.le_of_ble_eq_true rfl) dL_law_1704 (fun x187 h186 => (?_))
        refine z_icmp_eq (pc := 1707) (tgt := 1929) dL_law_1707 (by decide) ?_ ?_
        · exact qj1929_11 h186
        · refine z_iconst (pc := 1710) dL_law_1710 ic_0 (?_)
          exact z_iret (pc := 1711) dL_law_1711 rfl rfl
      refine z_ite (fun e => z_tblC (tgt := 1712) (off := 1679) e dL_law_33 (by decide) (by decide) (by decide) (by decide) ?_) (fun _ => ?_)
      · refine z_aload_n (pc := 1712) dL_law_1712 rfl 1 rfl (z_aload_n (pc := 1713) dL_law_1713 rfl 0 rfl (z_iload_n (pc := 1714) dL_law_1714 rfl 3 rfl (z_iconst (pc := 1715) dL_law_1715 ic_1 (z_iadd (pc := 1716) dL_law_1716 (z_iald0 (pc := 1717) (by decide) dL_law_1717 (z_aload_n (pc := 1718) dL_law_1718 rfl 0 rfl (z_iload_n (pc := 1719) dL_law_1719 rfl 3 rfl (?_))))))))
        refine z_iconst (pc := 1720) dL_law_1720 ic_2 (z_iadd (pc := 1721) dL_law_1721 (z_iald0 (pc := 1722) (by decide) dL_law_1722 (z_aload_n (pc := 1723) dL_law_1723 rfl 0 rfl (z_iload_n (pc := 1724) dL_law_1724 rfl 3 rfl (z_iconst (pc := 1725) dL_law_1725 ic_3 (z_iadd (pc := 1726) dL_law_1726 (z_iald0 (pc := 1727) (by decide) dL_law_1727 (?_))))))))
        refine z_callV_I (pc := 1728) (avs := [vi (hI h10 4 (ix (x9 + 1))), vi (hI h10 4 (ix (x9 + 2))), vi (hI h10 4 (ix (x9 + 3)))]) (st := []) rfl (q := (RX9, TX9, 18)) rfl rfl (t_X9_can F a7 (hI h10 4 (ix (x9 + 1))) (hI h10 4 (ix (x9 + 2))) (hI h10 4 (ix (x9 + 3))) h10) ky_X9_can wm_X9_can we_X9_can wz_RL_188 (rm_L_law_X9_can) (Nat.le_of_ble_eq_true rfl) dL_law_1728 (fun x189 h188 => (?_))
        refine z_aload_n (pc := 1731) dL_law_1731 rfl 2 rfl (z_aload_n (pc := 1732) dL_law_1732 rfl 0 rfl (z_iload_n (pc := 1733) dL_law_1733 rfl 3 rfl (z_iconst (pc := 1734) dL_law_1734 ic_1 (z_iadd (pc := 1735) dL_law_1735 (z_iald0 (pc := 1736) (by decide) dL_law_1736 (z_aload_n (pc := 1737) dL_law_1737 rfl 0 rfl (z_iload_n (pc := 1738) dL_law_1738 rfl 3 rfl (?_))))))))
        refine z_iconst (pc := 1739) dL_law_1739 ic_2 (z_iadd (pc := 1740) dL_law_1740 (z_iald0 (pc := 1741) (by decide) dL_law_1741 (z_aload_n (pc := 1742) dL_law_1742 rfl 0 rfl (z_iload_n (pc := 1743) dL_law_1743 rfl 3 rfl (z_iconst (pc := 1744) dL_law_1744 ic_3 (z_iadd (pc := 1745) dL_law_1745 (z_iald0 (pc := 1746) (by decide) dL_law_1746 (?_))))))))
        refine z_callV_I (pc := 1747) (avs := [vi (hI h188 4 (ix (x9 + 1))), vi (hI h188 4 (ix (x9 + 2))), vi (hI h188 4 (ix (x9 + 3)))]) (st := [vi x189]) rfl (q := (RX10, TX10, 62)) rfl rfl (t_X10_can F a8 (hI h188 4 (ix (x9 + 1))) (hI h188 4 (ix (x9 + 2))) (hI h188 4 (ix (x9 + 3))) h188) ky_X10_can wm_X10_can we_X10_can wz_RL_191 (rm_L_law_X10_can) (Nat.le_of_ble_eq_true rfl) dL_law_1747 (fun x191 h190 => (?_))
        refine z_icmp_eq (pc := 1750) (tgt := 1929) dL_law_1750 (by decide) ?_ ?_
        · exact qj1929_11 h190
        · refine z_iconst (pc := 1753) dL_law_1753 ic_0 (?_)
          exact z_iret (pc := 1754) dL_law_1754 rfl rfl
      refine z_ite (fun e => z_tblC (tgt := 1755) (off := 1722) e dL_law_33 (by decide) (by decide) (by decide) (by decide) ?_) (fun _ => ?_)
      · refine z_aload_n (pc := 1755) dL_law_1755 rfl 1 rfl (z_aload_n (pc := 1756) dL_law_1756 rfl 0 rfl (z_iload_n (pc := 1757) dL_law_1757 rfl 3 rfl (z_iconst (pc := 1758) dL_law_1758 ic_1 (z_iadd (pc := 1759) dL_law_1759 (z_iald0 (pc := 1760) (by decide) dL_law_1760 (z_aload_n (pc := 1761) dL_law_1761 rfl 0 rfl (z_iload_n (pc := 1762) dL_law_1762 rfl 3 rfl (?_))))))))
        refine z_iconst (pc := 1763) dL_law_1763 ic_2 (z_iadd (pc := 1764) dL_law_1764 (z_iald0 (pc := 1765) (by decide) dL_law_1765 (z_callV_I (pc := 1766) (avs := [vi (hI h10 4 (ix (x9 + 1))), vi (hI h10 4 (ix (x9 + 2)))]) (st := []) rfl (q := (RX9, TX9, 18)) rfl rfl (t_X9_far F a7 (hI h10 4 (ix (x9 + 1))) (hI h10 4 (ix (x9 + 2))) h10) ky_X9_far wm_X9_far we_X9_far wz_RL_192 (rm_L_law_X9_far) (Nat.le_of_ble_eq_true rfl) dL_law_1766 (fun x193 h192 => (?_)))))
        refine z_aload_n (pc := 1769) dL_law_1769 rfl 2 rfl (z_aload_n (pc := 1770) dL_law_1770 rfl 0 rfl (z_iload_n (pc := 1771) dL_law_1771 rfl 3 rfl (z_iconst (pc := 1772) dL_law_1772 ic_1 (z_iadd (pc := 1773) dL_law_1773 (z_iald0 (pc := 1774) (by decide) dL_law_1774 (z_aload_n (pc := 1775) dL_law_1775 rfl 0 rfl (z_iload_n (pc := 1776) dL_law_1776 rfl 3 rfl (?_))))))))
        refine z_iconst (pc := 1777) dL_law_1777 ic_2 (z_iadd (pc := 1778) dL_law_1778 (z_iald0 (pc := 1779) (by decide) dL_law_1779 (z_callV_I (pc := 1780) (avs := [vi (hI h192 4 (ix (x9 + 1))), vi (hI h192 4 (ix (x9 + 2)))]) (st := [vi x193]) rfl (q := (RX10, TX10, 62)) rfl rfl (t_X10_far F a8 (hI h192 4 (ix (x9 + 1))) (hI h192 4 (ix (x9 + 2))) h192) ky_X10_far wm_X10_far we_X10_far wz_RL_195 (rm_L_law_X10_far) (Nat.le_of_ble_eq_true rfl) dL_law_1780 (fun x195 h194 => (?_)))))
        refine z_icmp_eq (pc := 1783) (tgt := 1929) dL_law_1783 (by decide) ?_ ?_
        · exact qj1929_11 h194
        · refine z_iconst (pc := 1786) dL_law_1786 ic_0 (?_)
          exact z_iret (pc := 1787) dL_law_1787 rfl rfl
      refine z_ite (fun e => z_tblC (tgt := 1788) (off := 1755) e dL_law_33 (by decide) (by decide) (by decide) (by decide) ?_) (fun _ => ?_)
      · refine z_aload_n (pc := 1788) dL_law_1788 rfl 1 rfl (z_callV_I (pc := 1789) (avs := []) (st := []) rfl (q := (RX9, TX9, 18)) rfl rfl (t_X9_lost F a7 h10) ky_X9_lost wm_X9_lost we_X9_lost wz_RL_196 (rm_L_law_X9_lost) (Nat.le_of_ble_eq_true rfl) dL_law_1789 (fun x197 h196 => (?_)))
        refine z_aload_n (pc := 1792) dL_law_1792 rfl 2 rfl (z_callV_I (pc := 1793) (avs := []) (st := [vi x197]) rfl (q := (RX10, TX10, 62)) rfl rfl (t_X10_lost F a8 h196) ky_X10_lost wm_X10_lost we_X10_lost wz_RL_199 (rm_L_law_X10_lost) (Nat.le_of_ble_eq_true rfl) dL_law_1793 (fun x199 h198 => (?_)))
        refine z_icmp_eq (pc := 1796) (tgt := 1929) dL_law_1796 (by decide) ?_ ?_
        · exact qj1929_11 h198
        · refine z_iconst (pc := 1799) dL_law_1799 ic_0 (?_)
          exact z_iret (pc := 1800) dL_law_1800 rfl rfl
      refine z_ite (fun e => z_tblC (tgt := 1801) (off := 1768) e dL_law_33 (by decide) (by decide) (by decide) (by decide) ?_) (fun _ => ?_)
      · refine z_aload_n (pc := 1801) dL_law_1801 rfl 1 rfl (z_callV_L (pc := 1802) (avs := []) (st := []) rfl (q := (RX9, TX9, 18)) rfl rfl (t_X9_many F a7 h10) ky_X9_many wm_X9_many we_X9_many wz_RL_200 (rm_L_law_X9_many) (Nat.le_of_ble_eq_true rfl) dL_law_1802 (fun y201 h200 => (?_)))
        refine z_aload_n (pc := 1805) dL_law_1805 rfl 2 rfl (z_callV_L (pc := 1806) (avs := []) (st := [vl y201]) rfl (q := (RX10, TX10, 62)) rfl rfl (t_X10_many F a8 h200) ky_X10_many wm_X10_many we_X10_many wz_RL_204 (rm_L_law_X10_many) (Nat.le_of_ble_eq_true rfl) dL_law_1806 (fun y203 h202 => (?_)))
        refine z_lcmp (pc := 1809) dL_law_1809 (?_)
        refine z_if_eq (pc := 1810) (tgt := 1929) dL_law_1810 (by decide) ?_ ?_
        · exact qj1929_11 h202
        · refine z_iconst (pc := 1813) dL_law_1813 ic_0 (?_)
          exact z_iret (pc := 1814) dL_law_1814 rfl rfl
      refine z_ite (fun e => z_tblC (tgt := 1815) (off := 1782) e dL_law_33 (by decide) (by decide) (by decide) (by decide) ?_) (fun _ => ?_)
      · refine z_aload_n (pc := 1815) dL_law_1815 rfl 1 rfl (z_callV_I (pc := 1816) (avs := []) (st := []) rfl (q := (RX9, TX9, 18)) rfl rfl (t_X9_asked F a7 h10) ky_X9_asked wm_X9_asked we_X9_asked wz_RL_205 (rm_L_law_X9_asked) (Nat.le_of_ble_eq_true rfl) dL_law_1816 (fun x205 h204 => (?_)))
        refine z_aload_n (pc := 1819) dL_law_1819 rfl 2 rfl (z_callV_I (pc := 1820) (avs := []) (st := [vi x205]) rfl (q := (RX10, TX10, 62)) rfl rfl (t_X10_asked F a8 h204) ky_X10_asked wm_X10_asked we_X10_asked wz_RL_208 (rm_L_law_X10_asked) (Nat.le_of_ble_eq_true rfl) dL_law_1820 (fun x207 h206 => (?_)))
        refine z_icmp_eq (pc := 1823) (tgt := 1929) dL_law_1823 (by decide) ?_ ?_
        · exact qj1929_11 h206
        · refine z_iconst (pc := 1826) dL_law_1826 ic_0 (?_)
          exact z_iret (pc := 1827) dL_law_1827 rfl rfl
      refine z_ite (fun e => z_tblC (tgt := 1828) (off := 1795) e dL_law_33 (by decide) (by decide) (by decide) (by decide) ?_) (fun _ => ?_)
      · refine z_aload_n (pc := 1828) dL_law_1828 rfl 1 rfl (z_callV_L (pc := 1829) (avs := []) (st := []) rfl (q := (RX9, TX9, 18)) rfl rfl (t_X9_upper F a7 h10) ky_X9_upper wm_X9_upper we_X9_upper wz_RL_209 (rm_L_law_X9_upper) (Nat.le_of_ble_eq_true rfl) dL_law_1829 (fun y209 h208 => (?_)))
        refine z_aload_n (pc := 1832) dL_law_1832 rfl 2 rfl (z_callV_L (pc := 1833) (avs := []) (st := [vl y209]) rfl (q := (RX10, TX10, 62)) rfl rfl (t_X10_upper F a8 h208) ky_X10_upper wm_X10_upper we_X10_upper wz_RL_212 (rm_L_law_X10_upper) (Nat.le_of_ble_eq_true rfl) dL_law_1833 (fun y211 h210 => (?_)))
        refine z_lcmp (pc := 1836) dL_law_1836 (?_)
        refine z_if_eq (pc := 1837) (tgt := 1929) dL_law_1837 (by decide) ?_ ?_
        · exact qj1929_11 h210
        · refine z_iconst (pc := 1840) dL_law_1840 ic_0 (?_)
          exact z_iret (pc := 1841) dL_law_1841 rfl rfl
      refine z_ite (fun e => z_tblC (tgt := 1842) (off := 1809) e dL_law_33 (by decide) (by decide) (by decide) (by decide) ?_) (fun _ => ?_)
      · refine z_aload_n (pc := 1842) dL_law_1842 rfl 1 rfl (z_callV_L (pc := 1843) (avs := []) (st := []) rfl (q := (RX9, TX9, 18)) rfl rfl (t_X9_lower F a7 h10) ky_X9_lower wm_X9_lower we_X9_lower wz_RL_213 (rm_L_law_X9_lower) (Nat.le_of_ble_eq_true rfl) dL_law_1843 (fun y213 h212 => (?_)))
        refine z_aload_n (pc := 1846) dL_law_1846 rfl 2 rfl (z_callV_L (pc := 1847) (avs := []) (st := [vl y213]) rfl (q := (RX10, TX10, 62)) rfl rfl (t_X10_lower F a8 h212) ky_X10_lower wm_X10_lower we_X10_lower wz_RL_216 (rm_L_law_X10_lower) (Nat.le_of_ble_eq_true rfl) dL_law_1847 (fun y215 h214 => (?_)))
        refine z_lcmp (pc := 1850) dL_law_1850 (?_)
        refine z_if_eq (pc := 1851) (tgt := 1929) dL_law_1851 (by decide) ?_ ?_
        · exact qj1929_11 h214
        · refine z_iconst (pc := 1854) dL_law_1854 ic_0 (?_)
          exact z_iret (pc := 1855) dL_law_1855 rfl rfl
      refine z_ite (fun e => z_tblC (tgt := 1856) (off := 1823) e dL_law_33 (by decide) (by decide) (by decide) (by decide) ?_) (fun _ => ?_)
      · refine z_aload_n (pc := 1856) dL_law_1856 rfl 1 rfl (z_aload_n (pc := 1857) dL_law_1857 rfl 0 rfl (z_iload_n (pc := 1858) dL_law_1858 rfl 3 rfl (z_iconst (pc := 1859) dL_law_1859 ic_1 (z_iadd (pc := 1860) dL_law_1860 (z_iald0 (pc := 1861) (by decide) dL_law_1861 (z_callV_I (pc := 1862) (avs := [vi (hI h10 4 (ix (x9 + 1)))]) (st := []) rfl (q := (RX9, TX9, 18)) rfl rfl (t_X9_count F a7 (hI h10 4 (ix (x9 + 1))) h10) ky_X9_count wm_X9_count we_X9_count wz_RL_217 (rm_L_law_X9_count) (Nat.le_of_ble_eq_true rfl) dL_law_1862 (fun x217 h216 => (?_))))))))
        refine z_aload_n (pc := 1865) dL_law_1865 rfl 2 rfl (z_aload_n (pc := 1866) dL_law_1866 rfl 0 rfl (z_iload_n (pc := 1867) dL_law_1867 rfl 3 rfl (z_iconst (pc := 1868) dL_law_1868 ic_1 (z_iadd (pc := 1869) dL_law_1869 (z_iald0 (pc := 1870) (by decide) dL_law_1870 (z_callV_I (pc := 1871) (avs := [vi (hI h216 4 (ix (x9 + 1)))]) (st := [vi x217]) rfl (q := (RX10, TX10, 62)) rfl rfl (t_X10_count F a8 (hI h216 4 (ix (x9 + 1))) h216) ky_X10_count wm_X10_count we_X10_count wz_RL_220 (rm_L_law_X10_count) (Nat.le_of_ble_eq_true rfl) dL_law_1871 (fun x219 h218 => (?_))))))))
        refine z_icmp_eq (pc := 1874) (tgt := 1929) dL_law_1874 (by decide) ?_ ?_
        · exact qj1929_11 h218
        · refine z_iconst (pc := 1877) dL_law_1877 ic_0 (?_)
          exact z_iret (pc := 1878) dL_law_1878 rfl rfl
      refine z_ite (fun e => z_tblC (tgt := 1879) (off := 1846) e dL_law_33 (by decide) (by decide) (by decide) (by decide) ?_) (fun _ => ?_)
      · refine z_aload_n (pc := 1879) dL_law_1879 rfl 1 rfl (z_callV_I (pc := 1880) (avs := []) (st := []) rfl (q := (RX9, TX9, 18)) rfl rfl (t_X9_finding F a7 h10) ky_X9_finding wm_X9_finding we_X9_finding wz_RL_221 (rm_L_law_X9_finding) (Nat.le_of_ble_eq_true rfl) dL_law_1880 (fun x221 h220 => (?_)))
        refine z_aload_n (pc := 1883) dL_law_1883 rfl 2 rfl (z_callV_I (pc := 1884) (avs := []) (st := [vi x221]) rfl (q := (RX10, TX10, 62)) rfl rfl (t_X10_finding F a8 h220) ky_X10_finding wm_X10_finding we_X10_finding wz_RL_224 (rm_L_law_X10_finding) (Nat.le_of_ble_eq_true rfl) dL_law_1884 (fun x223 h222 => (?_)))
        refine z_icmp_eq (pc := 1887) (tgt := 1929) dL_law_1887 (by decide) ?_ ?_
        · exact qj1929_11 h222
        · refine z_iconst (pc := 1890) dL_law_1890 ic_0 (?_)
          exact z_iret (pc := 1891) dL_law_1891 rfl rfl
      refine z_ite (fun e => z_tblC (tgt := 1892) (off := 1859) e dL_law_33 (by decide) (by decide) (by decide) (by decide) ?_) (fun _ => ?_)
      · refine z_aload_n (pc := 1892) dL_law_1892 rfl 1 rfl (z_aload_n (pc := 1893) dL_law_1893 rfl 0 rfl (z_iload_n (pc := 1894) dL_law_1894 rfl 3 rfl (z_iconst (pc := 1895) dL_law_1895 ic_1 (z_iadd (pc := 1896) dL_law_1896 (z_iald0 (pc := 1897) (by decide) dL_law_1897 (z_callV_I (pc := 1898) (avs := [vi (hI h10 4 (ix (x9 + 1)))]) (st := []) rfl (q := (RX9, TX9, 18)) rfl rfl (t_X9_findings F a7 (hI h10 4 (ix (x9 + 1))) h10) ky_X9_findings wm_X9_findings we_X9_findings wz_RL_225 (rm_L_law_X9_findings) (Nat.le_of_ble_eq_true rfl) dL_law_1898 (fun x225 h224 => (?_))))))))
        refine z_aload_n (pc := 1901) dL_law_1901 rfl 2 rfl (z_aload_n (pc := 1902) dL_law_1902 rfl 0 rfl (z_iload_n (pc := 1903) dL_law_1903 rfl 3 rfl (z_iconst (pc := 1904) dL_law_1904 ic_1 (z_iadd (pc := 1905) dL_law_1905 (z_iald0 (pc := 1906) (by decide) dL_law_1906 (z_callV_I (pc := 1907) (avs := [vi (hI h224 4 (ix (x9 + 1)))]) (st := [vi x225]) rfl (q := (RX10, TX10, 62)) rfl rfl (t_X10_findings F a8 (hI h224 4 (ix (x9 + 1))) h224) ky_X10_findings wm_X10_findings we_X10_findings wz_RL_228 (rm_L_law_X10_findings) (Nat.le_of_ble_eq_true rfl) dL_law_1907 (fun x227 h226 => (?_))))))))
        refine z_icmp_eq (pc := 1910) (tgt := 1929) dL_law_1910 (by decide) ?_ ?_
        · exact qj1929_11 h226
        · refine z_iconst (pc := 1913) dL_law_1913 ic_0 (?_)
          exact z_iret (pc := 1914) dL_law_1914 rfl rfl
      refine z_ite (fun e => z_tblC (tgt := 1915) (off := 1882) e dL_law_33 (by decide) (by decide) (by decide) (by decide) ?_) (fun _ => ?_)
      · refine z_aload_n (pc := 1915) dL_law_1915 rfl 1 rfl (z_callV_L (pc := 1916) (avs := []) (st := []) rfl (q := (RX9, TX9, 18)) rfl rfl (t_X9_digest F a7 h10) ky_X9_digest wm_X9_digest we_X9_digest wz_RL_229 (rm_L_law_X9_digest) (Nat.le_of_ble_eq_true rfl) dL_law_1916 (fun y229 h228 => (?_)))
        refine z_aload_n (pc := 1919) dL_law_1919 rfl 2 rfl (z_callV_L (pc := 1920) (avs := []) (st := [vl y229]) rfl (q := (RX10, TX10, 62)) rfl rfl (t_X10_digest F a8 h228) ky_X10_digest wm_X10_digest we_X10_digest wz_RL_232 (rm_L_law_X10_digest) (Nat.le_of_ble_eq_true rfl) dL_law_1920 (fun y231 h230 => (?_)))
        refine z_lcmp (pc := 1923) dL_law_1923 (?_)
        refine z_if_eq (pc := 1924) (tgt := 1929) dL_law_1924 (by decide) ?_ ?_
        · exact qj1929_11 h230
        · refine z_iconst (pc := 1927) dL_law_1927 ic_0 (?_)
          exact z_iret (pc := 1928) dL_law_1928 rfl rfl
      exact z_none
set_option maxRecDepth 50000 in
set_option maxHeartbeats 40000000 in
theorem t_L_law (F : Nat) (h0 : z_Hp) : z_G zi mi_L_law 0 [(0, vr (some 4))] [] h0 (c_L_law F h0) := by
  unfold c_L_law
  refine z_newl (pc := 0) (q := (RX9, TX9, 18)) cn_RL_7 dL_law_0 (fun a1 h2 => (z_dup (pc := 3) dL_law_3 rfl (z_callI_V (pc := 4) (avs := []) (st := [vr (some a1)]) rfl (t_X9_init F a1 h2) ky_X9_init rfl rfl wm_X9_init wz_RL_9 (rm_L_law_X9_init) (Nat.le_of_ble_eq_true rfl) dL_law_4 (fun h3 => (?_)))))
  refine z_astore_n (pc := 7) (L' := [(0, vr (some 4)), (1, vr (some a1))]) dL_law_7 rfl (Nat.le_of_ble_eq_true rfl) rfl (z_newl (pc := 8) (q := (RX10, TX10, 62)) cn_RL_10 dL_law_8 (fun a4 h5 => (z_dup (pc := 11) dL_law_11 rfl (z_callI_V (pc := 12) (avs := []) (st := [vr (some a4)]) rfl (t_X10_init F a4 h5) ky_X10_init rfl rfl wm_X10_init wz_RL_12 (rm_L_law_X10_init) (Nat.le_of_ble_eq_true rfl) dL_law_12 (fun h6 => (?_))))))
  refine z_astore_n (pc := 15) (L' := [(0, vr (some 4)), (1, vr (some a1)), (2, vr (some a4))]) dL_law_15 rfl (Nat.le_of_ble_eq_true rfl) rfl (z_iconst (pc := 16) dL_law_16 ic_0 (z_istore_n (pc := 17) (L' := [(0, vr (some 4)), (1, vr (some a1)), (2, vr (some a4)), (3, vi 0)]) dL_law_17 rfl (Nat.le_of_ble_eq_true rfl) rfl (?_)))
  refine g_L_law_L18 F a1 a4 F 0 h6
