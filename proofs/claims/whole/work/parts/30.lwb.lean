theorem d_Law_law_246 : decode code 246 = .ok (.iload_n 3, 1) := by decide +kernel
theorem d_Law_law_247 : decode code 247 = .ok (.iconst 2, 1) := by decide +kernel
theorem d_Law_law_248 : decode code 248 = .ok (.iadd, 1) := by decide +kernel
theorem d_Law_law_249 : decode code 249 = .ok (.iaload, 1) := by decide +kernel
theorem d_Law_law_250 : decode code 250 = .ok (.invokevirtual 27, 3) := by decide +kernel
theorem d_Law_law_253 : decode code 253 = .ok (.aload_n 2, 1) := by decide +kernel
theorem d_Law_law_254 : decode code 254 = .ok (.aload_n 0, 1) := by decide +kernel
theorem d_Law_law_255 : decode code 255 = .ok (.iload_n 3, 1) := by decide +kernel
theorem d_Law_law_256 : decode code 256 = .ok (.iconst 1, 1) := by decide +kernel
theorem d_Law_law_257 : decode code 257 = .ok (.iadd, 1) := by decide +kernel
theorem d_Law_law_258 : decode code 258 = .ok (.iaload, 1) := by decide +kernel
theorem d_Law_law_259 : decode code 259 = .ok (.aload_n 0, 1) := by decide +kernel
theorem d_Law_law_260 : decode code 260 = .ok (.iload_n 3, 1) := by decide +kernel
theorem d_Law_law_261 : decode code 261 = .ok (.iconst 2, 1) := by decide +kernel
theorem d_Law_law_262 : decode code 262 = .ok (.iadd, 1) := by decide +kernel
theorem d_Law_law_263 : decode code 263 = .ok (.iaload, 1) := by decide +kernel
theorem d_Law_law_264 : decode code 264 = .ok (.invokevirtual 30, 3) := by decide +kernel
theorem d_Law_law_267 : decode code 267 = .ok (.if_icmp .eq 381, 3) := by decide +kernel
theorem d_Law_law_270 : decode code 270 = .ok (.iconst 0, 1) := by decide +kernel
theorem d_Law_law_271 : decode code 271 = .ok (.ireturn, 1) := by decide +kernel
theorem d_Law_law_272 : decode code 272 = .ok (.aload_n 1, 1) := by decide +kernel
theorem d_Law_law_273 : decode code 273 = .ok (.aload_n 0, 1) := by decide +kernel
theorem d_Law_law_274 : decode code 274 = .ok (.iload_n 3, 1) := by decide +kernel
theorem d_Law_law_275 : decode code 275 = .ok (.iconst 1, 1) := by decide +kernel
theorem d_Law_law_276 : decode code 276 = .ok (.iadd, 1) := by decide +kernel
theorem d_Law_law_277 : decode code 277 = .ok (.iaload, 1) := by decide +kernel
theorem d_Law_law_278 : decode code 278 = .ok (.invokevirtual 31, 3) := by decide +kernel
theorem d_Law_law_281 : decode code 281 = .ok (.aload_n 2, 1) := by decide +kernel
theorem d_Law_law_282 : decode code 282 = .ok (.aload_n 0, 1) := by decide +kernel
theorem d_Law_law_283 : decode code 283 = .ok (.iload_n 3, 1) := by decide +kernel
theorem d_Law_law_284 : decode code 284 = .ok (.iconst 1, 1) := by decide +kernel
theorem d_Law_law_285 : decode code 285 = .ok (.iadd, 1) := by decide +kernel
theorem d_Law_law_286 : decode code 286 = .ok (.iaload, 1) := by decide +kernel
theorem d_Law_law_287 : decode code 287 = .ok (.invokevirtual 35, 3) := by decide +kernel
theorem d_Law_law_290 : decode code 290 = .ok (.if_icmp .eq 358, 3) := by decide +kernel
theorem d_Law_law_293 : decode code 293 = .ok (.iconst 0, 1) := by decide +kernel
theorem d_Law_law_294 : decode code 294 = .ok (.ireturn, 1) := by decide +kernel
theorem d_Law_law_295 : decode code 295 = .ok (.aload_n 1, 1) := by decide +kernel
theorem d_Law_law_296 : decode code 296 = .ok (.aload_n 0, 1) := by decide +kernel
theorem d_Law_law_297 : decode code 297 = .ok (.iload_n 3, 1) := by decide +kernel
theorem d_Law_law_298 : decode code 298 = .ok (.iconst 1, 1) := by decide +kernel
theorem d_Law_law_299 : decode code 299 = .ok (.iadd, 1) := by decide +kernel
theorem d_Law_law_300 : decode code 300 = .ok (.iaload, 1) := by decide +kernel
theorem d_Law_law_301 : decode code 301 = .ok (.invokevirtual 36, 3) := by decide +kernel
theorem d_Law_law_304 : decode code 304 = .ok (.aload_n 2, 1) := by decide +kernel
theorem d_Law_law_305 : decode code 305 = .ok (.aload_n 0, 1) := by decide +kernel
theorem d_Law_law_306 : decode code 306 = .ok (.iload_n 3, 1) := by decide +kernel
theorem d_Law_law_307 : decode code 307 = .ok (.iconst 1, 1) := by decide +kernel
theorem d_Law_law_308 : decode code 308 = .ok (.iadd, 1) := by decide +kernel
theorem d_Law_law_309 : decode code 309 = .ok (.iaload, 1) := by decide +kernel
theorem d_Law_law_310 : decode code 310 = .ok (.invokevirtual 39, 3) := by decide +kernel
theorem d_Law_law_313 : decode code 313 = .ok (.if_icmp .eq 335, 3) := by decide +kernel
theorem d_Law_law_316 : decode code 316 = .ok (.iconst 0, 1) := by decide +kernel
theorem d_Law_law_317 : decode code 317 = .ok (.ireturn, 1) := by decide +kernel
theorem d_Law_law_318 : decode code 318 = .ok (.aload_n 1, 1) := by decide +kernel
theorem d_Law_law_319 : decode code 319 = .ok (.aload_n 0, 1) := by decide +kernel
theorem d_Law_law_320 : decode code 320 = .ok (.iload_n 3, 1) := by decide +kernel
theorem d_Law_law_321 : decode code 321 = .ok (.iconst 1, 1) := by decide +kernel
theorem d_Law_law_322 : decode code 322 = .ok (.iadd, 1) := by decide +kernel
theorem d_Law_law_323 : decode code 323 = .ok (.iaload, 1) := by decide +kernel
theorem d_Law_law_324 : decode code 324 = .ok (.aload_n 0, 1) := by decide +kernel
theorem d_Law_law_325 : decode code 325 = .ok (.iload_n 3, 1) := by decide +kernel
theorem d_Law_law_326 : decode code 326 = .ok (.iconst 2, 1) := by decide +kernel
theorem d_Law_law_327 : decode code 327 = .ok (.iadd, 1) := by decide +kernel
theorem d_Law_law_328 : decode code 328 = .ok (.iaload, 1) := by decide +kernel
theorem d_Law_law_329 : decode code 329 = .ok (.invokevirtual 40, 3) := by decide +kernel
theorem d_Law_law_332 : decode code 332 = .ok (.aload_n 2, 1) := by decide +kernel
theorem d_Law_law_333 : decode code 333 = .ok (.aload_n 0, 1) := by decide +kernel
theorem d_Law_law_334 : decode code 334 = .ok (.iload_n 3, 1) := by decide +kernel
theorem d_Law_law_335 : decode code 335 = .ok (.iconst 1, 1) := by decide +kernel
theorem d_Law_law_336 : decode code 336 = .ok (.iadd, 1) := by decide +kernel
theorem d_Law_law_337 : decode code 337 = .ok (.iaload, 1) := by decide +kernel
theorem d_Law_law_338 : decode code 338 = .ok (.aload_n 0, 1) := by decide +kernel
theorem d_Law_law_339 : decode code 339 = .ok (.iload_n 3, 1) := by decide +kernel
theorem d_Law_law_340 : decode code 340 = .ok (.iconst 2, 1) := by decide +kernel
theorem d_Law_law_341 : decode code 341 = .ok (.iadd, 1) := by decide +kernel
theorem d_Law_law_342 : decode code 342 = .ok (.iaload, 1) := by decide +kernel
theorem d_Law_law_343 : decode code 343 = .ok (.invokevirtual 44, 3) := by decide +kernel
theorem d_Law_law_346 : decode code 346 = .ok (.if_icmp .eq 302, 3) := by decide +kernel
theorem d_Law_law_349 : decode code 349 = .ok (.iconst 0, 1) := by decide +kernel
theorem d_Law_law_350 : decode code 350 = .ok (.ireturn, 1) := by decide +kernel
theorem d_Law_law_351 : decode code 351 = .ok (.aload_n 1, 1) := by decide +kernel
theorem d_Law_law_352 : decode code 352 = .ok (.aload_n 0, 1) := by decide +kernel
theorem d_Law_law_353 : decode code 353 = .ok (.iload_n 3, 1) := by decide +kernel
theorem d_Law_law_354 : decode code 354 = .ok (.iconst 1, 1) := by decide +kernel
theorem d_Law_law_355 : decode code 355 = .ok (.iadd, 1) := by decide +kernel
theorem d_Law_law_356 : decode code 356 = .ok (.iaload, 1) := by decide +kernel
theorem d_Law_law_357 : decode code 357 = .ok (.invokevirtual 45, 3) := by decide +kernel
theorem d_Law_law_360 : decode code 360 = .ok (.aload_n 2, 1) := by decide +kernel
theorem d_Law_law_361 : decode code 361 = .ok (.aload_n 0, 1) := by decide +kernel
theorem d_Law_law_362 : decode code 362 = .ok (.iload_n 3, 1) := by decide +kernel
theorem d_Law_law_363 : decode code 363 = .ok (.iconst 1, 1) := by decide +kernel
theorem d_Law_law_364 : decode code 364 = .ok (.iadd, 1) := by decide +kernel
theorem d_Law_law_365 : decode code 365 = .ok (.iaload, 1) := by decide +kernel
theorem d_Law_law_366 : decode code 366 = .ok (.invokevirtual 49, 3) := by decide +kernel
theorem d_Law_law_369 : decode code 369 = .ok (.if_icmp .eq 279, 3) := by decide +kernel
theorem d_Law_law_372 : decode code 372 = .ok (.iconst 0, 1) := by decide +kernel
theorem d_Law_law_373 : decode code 373 = .ok (.ireturn, 1) := by decide +kernel
theorem d_Law_law_374 : decode code 374 = .ok (.aload_n 1, 1) := by decide +kernel
theorem d_Law_law_375 : decode code 375 = .ok (.aload_n 0, 1) := by decide +kernel
theorem d_Law_law_376 : decode code 376 = .ok (.iload_n 3, 1) := by decide +kernel
theorem d_Law_law_377 : decode code 377 = .ok (.iconst 1, 1) := by decide +kernel
theorem d_Law_law_378 : decode code 378 = .ok (.iadd, 1) := by decide +kernel
theorem d_Law_law_379 : decode code 379 = .ok (.iaload, 1) := by decide +kernel
theorem d_Law_law_380 : decode code 380 = .ok (.invokevirtual 50, 3) := by decide +kernel
theorem d_Law_law_383 : decode code 383 = .ok (.aload_n 2, 1) := by decide +kernel
theorem d_Law_law_384 : decode code 384 = .ok (.aload_n 0, 1) := by decide +kernel
theorem d_Law_law_385 : decode code 385 = .ok (.iload_n 3, 1) := by decide +kernel
theorem d_Law_law_386 : decode code 386 = .ok (.iconst 1, 1) := by decide +kernel
theorem d_Law_law_387 : decode code 387 = .ok (.iadd, 1) := by decide +kernel
theorem d_Law_law_388 : decode code 388 = .ok (.iaload, 1) := by decide +kernel
theorem d_Law_law_389 : decode code 389 = .ok (.invokevirtual 54, 3) := by decide +kernel
theorem d_Law_law_392 : decode code 392 = .ok (.lcmp, 1) := by decide +kernel
theorem d_Law_law_393 : decode code 393 = .ok (.ifCond .eq 255, 3) := by decide +kernel
theorem d_Law_law_396 : decode code 396 = .ok (.iconst 0, 1) := by decide +kernel
theorem d_Law_law_397 : decode code 397 = .ok (.ireturn, 1) := by decide +kernel
theorem d_Law_law_398 : decode code 398 = .ok (.aload_n 1, 1) := by decide +kernel
theorem d_Law_law_399 : decode code 399 = .ok (.aload_n 0, 1) := by decide +kernel
theorem d_Law_law_400 : decode code 400 = .ok (.iload_n 3, 1) := by decide +kernel
theorem d_Law_law_401 : decode code 401 = .ok (.iconst 1, 1) := by decide +kernel
theorem d_Law_law_402 : decode code 402 = .ok (.iadd, 1) := by decide +kernel
theorem d_Law_law_403 : decode code 403 = .ok (.iaload, 1) := by decide +kernel
theorem d_Law_law_404 : decode code 404 = .ok (.invokevirtual 55, 3) := by decide +kernel
theorem d_Law_law_407 : decode code 407 = .ok (.aload_n 2, 1) := by decide +kernel
theorem d_Law_law_408 : decode code 408 = .ok (.aload_n 0, 1) := by decide +kernel
theorem d_Law_law_409 : decode code 409 = .ok (.iload_n 3, 1) := by decide +kernel
theorem d_Law_law_410 : decode code 410 = .ok (.iconst 1, 1) := by decide +kernel
theorem d_Law_law_411 : decode code 411 = .ok (.iadd, 1) := by decide +kernel
theorem d_Law_law_412 : decode code 412 = .ok (.iaload, 1) := by decide +kernel
theorem d_Law_law_413 : decode code 413 = .ok (.invokevirtual 58, 3) := by decide +kernel
theorem d_Law_law_416 : decode code 416 = .ok (.lcmp, 1) := by decide +kernel
theorem d_Law_law_417 : decode code 417 = .ok (.ifCond .eq 231, 3) := by decide +kernel
theorem d_Law_law_420 : decode code 420 = .ok (.iconst 0, 1) := by decide +kernel
theorem d_Law_law_421 : decode code 421 = .ok (.ireturn, 1) := by decide +kernel
theorem d_Law_law_422 : decode code 422 = .ok (.aload_n 1, 1) := by decide +kernel
theorem d_Law_law_423 : decode code 423 = .ok (.aload_n 0, 1) := by decide +kernel
theorem d_Law_law_424 : decode code 424 = .ok (.iload_n 3, 1) := by decide +kernel
theorem d_Law_law_425 : decode code 425 = .ok (.iconst 1, 1) := by decide +kernel
theorem d_Law_law_426 : decode code 426 = .ok (.iadd, 1) := by decide +kernel
theorem d_Law_law_427 : decode code 427 = .ok (.iaload, 1) := by decide +kernel
theorem d_Law_law_428 : decode code 428 = .ok (.invokevirtual 59, 3) := by decide +kernel
theorem d_Law_law_431 : decode code 431 = .ok (.aload_n 2, 1) := by decide +kernel
theorem d_Law_law_432 : decode code 432 = .ok (.aload_n 0, 1) := by decide +kernel
theorem d_Law_law_433 : decode code 433 = .ok (.iload_n 3, 1) := by decide +kernel
theorem d_Law_law_434 : decode code 434 = .ok (.iconst 1, 1) := by decide +kernel
theorem d_Law_law_435 : decode code 435 = .ok (.iadd, 1) := by decide +kernel
theorem d_Law_law_436 : decode code 436 = .ok (.iaload, 1) := by decide +kernel
theorem d_Law_law_437 : decode code 437 = .ok (.invokevirtual 62, 3) := by decide +kernel
theorem d_Law_law_440 : decode code 440 = .ok (.lcmp, 1) := by decide +kernel
theorem d_Law_law_441 : decode code 441 = .ok (.ifCond .eq 207, 3) := by decide +kernel
theorem d_Law_law_444 : decode code 444 = .ok (.iconst 0, 1) := by decide +kernel
theorem d_Law_law_445 : decode code 445 = .ok (.ireturn, 1) := by decide +kernel
theorem d_Law_law_446 : decode code 446 = .ok (.aload_n 1, 1) := by decide +kernel
theorem d_Law_law_447 : decode code 447 = .ok (.aload_n 0, 1) := by decide +kernel
theorem d_Law_law_448 : decode code 448 = .ok (.iload_n 3, 1) := by decide +kernel
theorem d_Law_law_449 : decode code 449 = .ok (.iconst 1, 1) := by decide +kernel
theorem d_Law_law_450 : decode code 450 = .ok (.iadd, 1) := by decide +kernel
theorem d_Law_law_451 : decode code 451 = .ok (.iaload, 1) := by decide +kernel
theorem d_Law_law_452 : decode code 452 = .ok (.invokevirtual 63, 3) := by decide +kernel
theorem d_Law_law_455 : decode code 455 = .ok (.aload_n 2, 1) := by decide +kernel
theorem d_Law_law_456 : decode code 456 = .ok (.aload_n 0, 1) := by decide +kernel
theorem d_Law_law_457 : decode code 457 = .ok (.iload_n 3, 1) := by decide +kernel
theorem d_Law_law_458 : decode code 458 = .ok (.iconst 1, 1) := by decide +kernel
theorem d_Law_law_459 : decode code 459 = .ok (.iadd, 1) := by decide +kernel
theorem d_Law_law_460 : decode code 460 = .ok (.iaload, 1) := by decide +kernel
theorem d_Law_law_461 : decode code 461 = .ok (.invokevirtual 66, 3) := by decide +kernel
theorem d_Law_law_464 : decode code 464 = .ok (.lcmp, 1) := by decide +kernel
theorem d_Law_law_465 : decode code 465 = .ok (.ifCond .eq 183, 3) := by decide +kernel
theorem d_Law_law_468 : decode code 468 = .ok (.iconst 0, 1) := by decide +kernel
theorem d_Law_law_469 : decode code 469 = .ok (.ireturn, 1) := by decide +kernel
theorem d_Law_law_470 : decode code 470 = .ok (.aload_n 1, 1) := by decide +kernel
theorem d_Law_law_471 : decode code 471 = .ok (.invokevirtual 67, 3) := by decide +kernel
theorem d_Law_law_474 : decode code 474 = .ok (.aload_n 2, 1) := by decide +kernel
theorem d_Law_law_475 : decode code 475 = .ok (.invokevirtual 71, 3) := by decide +kernel
theorem d_Law_law_478 : decode code 478 = .ok (.if_icmp .eq 170, 3) := by decide +kernel
theorem d_Law_law_481 : decode code 481 = .ok (.iconst 0, 1) := by decide +kernel
theorem d_Law_law_482 : decode code 482 = .ok (.ireturn, 1) := by decide +kernel
theorem d_Law_law_483 : decode code 483 = .ok (.aload_n 1, 1) := by decide +kernel
theorem d_Law_law_484 : decode code 484 = .ok (.aload_n 0, 1) := by decide +kernel
theorem d_Law_law_485 : decode code 485 = .ok (.iload_n 3, 1) := by decide +kernel
theorem d_Law_law_486 : decode code 486 = .ok (.iconst 1, 1) := by decide +kernel
theorem d_Law_law_487 : decode code 487 = .ok (.iadd, 1) := by decide +kernel
theorem d_Law_law_488 : decode code 488 = .ok (.iaload, 1) := by decide +kernel
theorem d_Law_law_489 : decode code 489 = .ok (.i2l, 1) := by decide +kernel
theorem d_Law_law_490 : decode code 490 = .ok (.bipush 32, 2) := by decide +kernel
theorem d_Law_law_492 : decode code 492 = .ok (.lshl, 1) := by decide +kernel
theorem d_Law_law_493 : decode code 493 = .ok (.aload_n 0, 1) := by decide +kernel
theorem d_Law_law_494 : decode code 494 = .ok (.iload_n 3, 1) := by decide +kernel
theorem d_Law_law_495 : decode code 495 = .ok (.iconst 2, 1) := by decide +kernel
theorem d_Law_law_496 : decode code 496 = .ok (.iadd, 1) := by decide +kernel
theorem d_Law_law_497 : decode code 497 = .ok (.iaload, 1) := by decide +kernel
theorem d_Law_law_498 : decode code 498 = .ok (.i2l, 1) := by decide +kernel
theorem d_Law_law_499 : decode code 499 = .ok (.ldc2_w 72, 3) := by decide +kernel
theorem d_Law_law_502 : decode code 502 = .ok (.land, 1) := by decide +kernel
theorem d_Law_law_503 : decode code 503 = .ok (.lor, 1) := by decide +kernel
theorem d_Law_law_504 : decode code 504 = .ok (.invokevirtual 74, 3) := by decide +kernel
theorem d_Law_law_507 : decode code 507 = .ok (.aload_n 2, 1) := by decide +kernel
theorem d_Law_law_508 : decode code 508 = .ok (.aload_n 0, 1) := by decide +kernel
theorem d_Law_law_509 : decode code 509 = .ok (.iload_n 3, 1) := by decide +kernel
theorem d_Law_law_510 : decode code 510 = .ok (.iconst 1, 1) := by decide +kernel
theorem d_Law_law_511 : decode code 511 = .ok (.iadd, 1) := by decide +kernel
theorem d_Law_law_512 : decode code 512 = .ok (.iaload, 1) := by decide +kernel
theorem d_Law_law_513 : decode code 513 = .ok (.i2l, 1) := by decide +kernel
theorem d_Law_law_514 : decode code 514 = .ok (.bipush 32, 2) := by decide +kernel
theorem d_Law_law_516 : decode code 516 = .ok (.lshl, 1) := by decide +kernel
theorem d_Law_law_517 : decode code 517 = .ok (.aload_n 0, 1) := by decide +kernel
theorem d_Law_law_518 : decode code 518 = .ok (.iload_n 3, 1) := by decide +kernel
theorem d_Law_law_519 : decode code 519 = .ok (.iconst 2, 1) := by decide +kernel
theorem d_Law_law_520 : decode code 520 = .ok (.iadd, 1) := by decide +kernel
theorem d_Law_law_521 : decode code 521 = .ok (.iaload, 1) := by decide +kernel
theorem d_Law_law_522 : decode code 522 = .ok (.i2l, 1) := by decide +kernel
theorem d_Law_law_523 : decode code 523 = .ok (.ldc2_w 72, 3) := by decide +kernel
theorem d_Law_law_526 : decode code 526 = .ok (.land, 1) := by decide +kernel
theorem d_Law_law_527 : decode code 527 = .ok (.lor, 1) := by decide +kernel
theorem d_Law_law_528 : decode code 528 = .ok (.invokevirtual 78, 3) := by decide +kernel
theorem d_Law_law_531 : decode code 531 = .ok (.if_icmp .eq 117, 3) := by decide +kernel
theorem d_Law_law_534 : decode code 534 = .ok (.iconst 0, 1) := by decide +kernel
theorem d_Law_law_535 : decode code 535 = .ok (.ireturn, 1) := by decide +kernel
theorem d_Law_law_536 : decode code 536 = .ok (.aload_n 1, 1) := by decide +kernel
theorem d_Law_law_537 : decode code 537 = .ok (.aload_n 0, 1) := by decide +kernel
theorem d_Law_law_538 : decode code 538 = .ok (.iload_n 3, 1) := by decide +kernel
theorem d_Law_law_539 : decode code 539 = .ok (.iconst 1, 1) := by decide +kernel
theorem d_Law_law_540 : decode code 540 = .ok (.iadd, 1) := by decide +kernel
theorem d_Law_law_541 : decode code 541 = .ok (.iaload, 1) := by decide +kernel
theorem d_Law_law_542 : decode code 542 = .ok (.aload_n 0, 1) := by decide +kernel
theorem d_Law_law_543 : decode code 543 = .ok (.iload_n 3, 1) := by decide +kernel
theorem d_Law_law_544 : decode code 544 = .ok (.iconst 2, 1) := by decide +kernel
theorem d_Law_law_545 : decode code 545 = .ok (.iadd, 1) := by decide +kernel
theorem d_Law_law_546 : decode code 546 = .ok (.iaload, 1) := by decide +kernel
theorem d_Law_law_547 : decode code 547 = .ok (.aload_n 0, 1) := by decide +kernel
theorem d_Law_law_548 : decode code 548 = .ok (.iload_n 3, 1) := by decide +kernel
theorem d_Law_law_549 : decode code 549 = .ok (.iconst 3, 1) := by decide +kernel
theorem d_Law_law_550 : decode code 550 = .ok (.iadd, 1) := by decide +kernel
theorem d_Law_law_551 : decode code 551 = .ok (.iaload, 1) := by decide +kernel
theorem d_Law_law_552 : decode code 552 = .ok (.aload_n 0, 1) := by decide +kernel
theorem d_Law_law_553 : decode code 553 = .ok (.iload_n 3, 1) := by decide +kernel
theorem d_Law_law_554 : decode code 554 = .ok (.iconst 4, 1) := by decide +kernel
theorem d_Law_law_555 : decode code 555 = .ok (.iadd, 1) := by decide +kernel
theorem d_Law_law_556 : decode code 556 = .ok (.iaload, 1) := by decide +kernel
theorem d_Law_law_557 : decode code 557 = .ok (.invokevirtual 79, 3) := by decide +kernel
theorem d_Law_law_560 : decode code 560 = .ok (.aload_n 2, 1) := by decide +kernel
theorem d_Law_law_561 : decode code 561 = .ok (.aload_n 0, 1) := by decide +kernel
theorem d_Law_law_562 : decode code 562 = .ok (.iload_n 3, 1) := by decide +kernel
theorem d_Law_law_563 : decode code 563 = .ok (.iconst 1, 1) := by decide +kernel
theorem d_Law_law_564 : decode code 564 = .ok (.iadd, 1) := by decide +kernel
theorem d_Law_law_565 : decode code 565 = .ok (.iaload, 1) := by decide +kernel
theorem d_Law_law_566 : decode code 566 = .ok (.aload_n 0, 1) := by decide +kernel
theorem d_Law_law_567 : decode code 567 = .ok (.iload_n 3, 1) := by decide +kernel
theorem d_Law_law_568 : decode code 568 = .ok (.iconst 2, 1) := by decide +kernel
theorem d_Law_law_569 : decode code 569 = .ok (.iadd, 1) := by decide +kernel
theorem d_Law_law_570 : decode code 570 = .ok (.iaload, 1) := by decide +kernel
theorem d_Law_law_571 : decode code 571 = .ok (.aload_n 0, 1) := by decide +kernel
theorem d_Law_law_572 : decode code 572 = .ok (.iload_n 3, 1) := by decide +kernel
theorem d_Law_law_573 : decode code 573 = .ok (.iconst 3, 1) := by decide +kernel
theorem d_Law_law_574 : decode code 574 = .ok (.iadd, 1) := by decide +kernel
theorem d_Law_law_575 : decode code 575 = .ok (.iaload, 1) := by decide +kernel
theorem d_Law_law_576 : decode code 576 = .ok (.aload_n 0, 1) := by decide +kernel
theorem d_Law_law_577 : decode code 577 = .ok (.iload_n 3, 1) := by decide +kernel
theorem d_Law_law_578 : decode code 578 = .ok (.iconst 4, 1) := by decide +kernel
theorem d_Law_law_579 : decode code 579 = .ok (.iadd, 1) := by decide +kernel
theorem d_Law_law_580 : decode code 580 = .ok (.iaload, 1) := by decide +kernel
theorem d_Law_law_581 : decode code 581 = .ok (.invokevirtual 83, 3) := by decide +kernel
theorem d_Law_law_584 : decode code 584 = .ok (.if_icmp .eq 64, 3) := by decide +kernel
theorem d_Law_law_587 : decode code 587 = .ok (.iconst 0, 1) := by decide +kernel
theorem d_Law_law_588 : decode code 588 = .ok (.ireturn, 1) := by decide +kernel
theorem d_Law_law_589 : decode code 589 = .ok (.aload_n 1, 1) := by decide +kernel
theorem d_Law_law_590 : decode code 590 = .ok (.aload_n 0, 1) := by decide +kernel
theorem d_Law_law_591 : decode code 591 = .ok (.iload_n 3, 1) := by decide +kernel
theorem d_Law_law_592 : decode code 592 = .ok (.iconst 1, 1) := by decide +kernel
theorem d_Law_law_593 : decode code 593 = .ok (.iadd, 1) := by decide +kernel
theorem d_Law_law_594 : decode code 594 = .ok (.iaload, 1) := by decide +kernel
theorem d_Law_law_595 : decode code 595 = .ok (.invokevirtual 84, 3) := by decide +kernel
theorem d_Law_law_598 : decode code 598 = .ok (.aload_n 2, 1) := by decide +kernel
theorem d_Law_law_599 : decode code 599 = .ok (.aload_n 0, 1) := by decide +kernel
theorem d_Law_law_600 : decode code 600 = .ok (.iload_n 3, 1) := by decide +kernel
theorem d_Law_law_601 : decode code 601 = .ok (.iconst 1, 1) := by decide +kernel
theorem d_Law_law_602 : decode code 602 = .ok (.iadd, 1) := by decide +kernel
theorem d_Law_law_603 : decode code 603 = .ok (.iaload, 1) := by decide +kernel
theorem d_Law_law_604 : decode code 604 = .ok (.invokevirtual 87, 3) := by decide +kernel
theorem d_Law_law_607 : decode code 607 = .ok (.if_icmp .eq 41, 3) := by decide +kernel
theorem d_Law_law_610 : decode code 610 = .ok (.iconst 0, 1) := by decide +kernel
theorem d_Law_law_611 : decode code 611 = .ok (.ireturn, 1) := by decide +kernel
theorem d_Law_law_612 : decode code 612 = .ok (.aload_n 1, 1) := by decide +kernel
theorem d_Law_law_613 : decode code 613 = .ok (.aload_n 0, 1) := by decide +kernel
theorem d_Law_law_614 : decode code 614 = .ok (.iload_n 3, 1) := by decide +kernel
theorem d_Law_law_615 : decode code 615 = .ok (.iconst 1, 1) := by decide +kernel
theorem d_Law_law_616 : decode code 616 = .ok (.iadd, 1) := by decide +kernel
theorem d_Law_law_617 : decode code 617 = .ok (.iaload, 1) := by decide +kernel
theorem d_Law_law_618 : decode code 618 = .ok (.invokevirtual 88, 3) := by decide +kernel
theorem d_Law_law_621 : decode code 621 = .ok (.aload_n 2, 1) := by decide +kernel
theorem d_Law_law_622 : decode code 622 = .ok (.aload_n 0, 1) := by decide +kernel
theorem d_Law_law_623 : decode code 623 = .ok (.iload_n 3, 1) := by decide +kernel
theorem d_Law_law_624 : decode code 624 = .ok (.iconst 1, 1) := by decide +kernel
theorem d_Law_law_625 : decode code 625 = .ok (.iadd, 1) := by decide +kernel
theorem d_Law_law_626 : decode code 626 = .ok (.iaload, 1) := by decide +kernel
theorem d_Law_law_627 : decode code 627 = .ok (.invokevirtual 91, 3) := by decide +kernel
theorem d_Law_law_630 : decode code 630 = .ok (.if_icmp .eq 18, 3) := by decide +kernel
theorem d_Law_law_633 : decode code 633 = .ok (.iconst 0, 1) := by decide +kernel
theorem d_Law_law_634 : decode code 634 = .ok (.ireturn, 1) := by decide +kernel
theorem d_Law_law_635 : decode code 635 = .ok (.aload_n 1, 1) := by decide +kernel
theorem d_Law_law_636 : decode code 636 = .ok (.invokevirtual 92, 3) := by decide +kernel
theorem d_Law_law_639 : decode code 639 = .ok (.aload_n 2, 1) := by decide +kernel
theorem d_Law_law_640 : decode code 640 = .ok (.invokevirtual 95, 3) := by decide +kernel
theorem d_Law_law_643 : decode code 643 = .ok (.if_icmp .eq 5, 3) := by decide +kernel
theorem d_Law_law_646 : decode code 646 = .ok (.iconst 0, 1) := by decide +kernel
theorem d_Law_law_647 : decode code 647 = .ok (.ireturn, 1) := by decide +kernel
theorem d_Law_law_648 : decode code 648 = .ok (.iinc 3 5, 3) := by decide +kernel
theorem d_Law_law_651 : decode code 651 = .ok (.goto (-633), 3) := by decide +kernel
theorem d_Law_law_654 : decode code 654 = .ok (.iconst 1, 1) := by decide +kernel
theorem d_Law_law_655 : decode code 655 = .ok (.ireturn, 1) := by decide +kernel

theorem law_in0 {k L : Nat} (hL : L ≤ 2560) (h : 5 * k < L) : vp_in (nI (5 * k)) L := vp_in_nI h (by omega)
theorem law_in {k L : Nat} (hL : L ≤ 2560) (j : Nat) (h : 5 * k + j < L) : vp_in (nI (5 * k) + nI j) L := by rw [nI_add]; exact vp_in_nI h (by omega)
theorem law_i5 (k : Nat) : nI (5 * k) + Int32.ofInt 5 = nI (5 * (k + 1)) := by
  show nI (5 * k) + nI 5 = _
  rw [nI_add]; rfl
def LH (p : Program) (l : Launch) (e : Env) (s : State) (m : MethodId) (below : List Frame) (meth : Method) (c : Code) (dC : Nat → ClassId) (dI : Nat → Nat → Nat) (cI cL cZ : ClassId) (b : Nat) (x0 aS bS aT bT1 bT2 bT3 aK bK1 bK2 aG bG1 bG2 bG3 bG4 aP aL bL1 bL2 bL3 bL4 y0 eS eP eM eK eG eR eN eW eV eA eH eX eY eZ : Nat) (k : Nat) : Prop := ∀ (nm : Int32) (th : Nat → Int32) (tc : Int32) (tm : Nat → Int32) (tk : Nat → Int32) (tg : Nat → Int32) (sb : Int32) (cam : Int64) (gma : Int64) (he : Int64) (gi : Int64) (fl : Int64) (gr : Nat → Int64) (rt : Nat → Int32) (us : Int32) (mo : Int32) (rk : Nat → Int32) (nd : Nat → Int32) (gv : Nat → Int64) (od : Nat → Int32) (pn : Int32) (pl : Nat) (pk : Nat → Int64) (fo : Int32) (lg : Nat → Int32) (lc : Nat → Int32) (lx : Nat → Int32) (lt : Nat → Int32) (Mac : Nat → Int64) (Mhl : Nat → Int32) (Mpl : Int32) (bP : Nat) (H : Heap) (locs : List Loc) (ls : Array Slot), Inv k nm th tc tm tk tg sb cam gma he gi fl gr rt us mo rk nd gv od pn pl pk fo lg lc lx lt Mac Mhl Mpl → va_P (dC, dI) vwCl [(x0, .inr (0, [.ref aS, .ref aT, .ref aK, .ref aG, .ref aP, .ref aL, .int nm])), (aS, .inr (1, [.ref bS])), (bS, .inl (cI, 12, .inl th)), (aT, .inr (2, [.ref bT1, .ref bT2, .ref bT3, .int tc])), (bT1, .inl (cI, 30, .inl tm)), (bT2, .inl (cI, 30, .inl tk)), (bT3, .inl (cI, 30, .inl tg)), (aK, .inr (3, [.ref bK1, .ref bK2, .int sb, .long cam, .long gma])), (bK1, .inl (cL, 4, .inr (.inl gr))), (bK2, .inl (cI, 3, .inl rt)), (aG, .inr (4, [.ref bG1, .ref bG2, .ref bG3, .ref bG4, .int us, .int mo, .long he, .long gi, .long fl])), (bG1, .inl (cI, 4, .inl rk)), (bG2, .inl (cI, 4, .inl nd)), (bG3, .inl (cL, 4, .inr (.inl gv))), (bG4, .inl (cI, 4, .inl od)), (aP, .inr (5, [.ref bP, .int pn])), (bP, .inl (cL, pl, .inr (.inl pk))), (aL, .inr (6, [.ref bL1, .ref bL2, .ref bL3, .ref bL4, .int fo])), (bL1, .inl (cI, 4, .inl lg)), (bL2, .inl (cI, 4, .inl lc)), (bL3, .inl (cI, 4, .inl lx)), (bL4, .inl (cI, 4, .inl lt)), (y0, .inr (7, [.ref eS, .ref eP, .int tc, .ref eM, .ref eK, .ref eG, .ref eR, .long (Int32.toInt64 sb), .long (Int32.toInt64 mo), .int us, .ref eN, .ref eW, .ref eV, .int nm, .ref eA, .long cam, .long gma, .long gi, .long fl, .long he, .ref eH, .ref eX, .ref eY, .ref eZ, .int fo, .int Mpl])), (eS, .inl (cI, 12, .inl th)), (eP, .inl (cL, 4, .inr (.inl gr))), (eM, .inl (cI, 30, .inl tm)), (eK, .inl (cI, 30, .inl tk)), (eG, .inl (cI, 30, .inl tg)), (eR, .inl (cI, 3, .inl rt)), (eN, .inl (cI, 4, .inl rk)), (eW, .inl (cI, 4, .inl nd)), (eV, .inl (cL, 4, .inr (.inl gv))), (eA, .inl (cL, 10000, .inr (.inl Mac))), (eH, .inl (cZ, 4, .inl Mhl)), (eX, .inl (cI, 4, .inl lg)), (eY, .inl (cI, 4, .inl lc)), (eZ, .inl (cI, 4, .inl lx))] H → va_D (fun q : Nat => s.heap.size ≤ q) [(x0, .inr (0, [.ref aS, .ref aT, .ref aK, .ref aG, .ref aP, .ref aL, .int nm])), (aS, .inr (1, [.ref bS])), (bS, .inl (cI, 12, .inl th)), (aT, .inr (2, [.ref bT1, .ref bT2, .ref bT3, .int tc])), (bT1, .inl (cI, 30, .inl tm)), (bT2, .inl (cI, 30, .inl tk)), (bT3, .inl (cI, 30, .inl tg)), (aK, .inr (3, [.ref bK1, .ref bK2, .int sb, .long cam, .long gma])), (bK1, .inl (cL, 4, .inr (.inl gr))), (bK2, .inl (cI, 3, .inl rt)), (aG, .inr (4, [.ref bG1, .ref bG2, .ref bG3, .ref bG4, .int us, .int mo, .long he, .long gi, .long fl])), (bG1, .inl (cI, 4, .inl rk)), (bG2, .inl (cI, 4, .inl nd)), (bG3, .inl (cL, 4, .inr (.inl gv))), (bG4, .inl (cI, 4, .inl od)), (aP, .inr (5, [.ref bP, .int pn])), (bP, .inl (cL, pl, .inr (.inl pk))), (aL, .inr (6, [.ref bL1, .ref bL2, .ref bL3, .ref bL4, .int fo])), (bL1, .inl (cI, 4, .inl lg)), (bL2, .inl (cI, 4, .inl lc)), (bL3, .inl (cI, 4, .inl lx)), (bL4, .inl (cI, 4, .inl lt)), (y0, .inr (7, [.ref eS, .ref eP, .int tc, .ref eM, .ref eK, .ref eG, .ref eR, .long (Int32.toInt64 sb), .long (Int32.toInt64 mo), .int us, .ref eN, .ref eW, .ref eV, .int nm, .ref eA, .long cam, .long gma, .long gi, .long fl, .long he, .ref eH, .ref eX, .ref eY, .ref eZ, .int fo, .int Mpl])), (eS, .inl (cI, 12, .inl th)), (eP, .inl (cL, 4, .inr (.inl gr))), (eM, .inl (cI, 30, .inl tm)), (eK, .inl (cI, 30, .inl tk)), (eG, .inl (cI, 30, .inl tg)), (eR, .inl (cI, 3, .inl rt)), (eN, .inl (cI, 4, .inl rk)), (eW, .inl (cI, 4, .inl nd)), (eV, .inl (cL, 4, .inr (.inl gv))), (eA, .inl (cL, 10000, .inr (.inl Mac))), (eH, .inl (cZ, 4, .inl Mhl)), (eX, .inl (cI, 4, .inl lg)), (eY, .inl (cI, 4, .inl lc)), (eZ, .inl (cI, 4, .inl lx))] → va_S (fun q : Nat => s.heap.size ≤ q) s.heap H locs → lv_has ls 4 [(0, .ref b), (1, .ref x0), (2, .ref y0), (3, .int (nI (5 * k)))] → W p l e room_1 s m #[Value.ref b] below meth c H locs (40 + k) (11000 + 10000 * k) (lw_Z below #[Value.ref b] s) (F0 m 18 ls [])
