theorem f306_18 : fetch 306 18 = some (.iload_n 3, 0, 0, 0) := rfl
theorem f306_19 : fetch 306 19 = some (.aload_n 0, 0, 0, 0) := rfl
theorem f306_20 : fetch 306 20 = some (.arraylength, 0, 0, 0) := rfl
theorem f306_21 : fetch 306 21 = some (.bipush 8, 0, 0, 0) := rfl
theorem f306_23 : fetch 306 23 = some (.isub, 0, 0, 0) := rfl
theorem f306_24 : fetch 306 24 = some (.if_icmp .gt 2102, 2126, 0, 0) := rfl
theorem f306_27 : fetch 306 27 = some (.aload_n 0, 0, 0, 0) := rfl
theorem f306_28 : fetch 306 28 = some (.iload_n 3, 0, 0, 0) := rfl
theorem f306_29 : fetch 306 29 = some (.iaload, 0, 0, 0) := rfl
theorem f306_30 : fetch 306 30 = some (.bipush 63, 0, 0, 0) := rfl
theorem f306_32 : fetch 306 32 = some (.iand, 0, 0, 0) := rfl
theorem f306_33 : fetch 306 33 = some (.tableswitch 2087 0 51 #[223, 246, 269, 342, 375, 418, 461, 494, 567, 590, 603, 626, 649, 682, 705, 758, 781, 804, 891, 914, 947, 990, 1033, 1066, 1089, 1132, 1165, 1218, 1251, 1314, 1337, 1360, 1383, 1466, 1515, 1558, 1571, 1604, 1628, 1641, 1684, 1727, 1760, 1793, 1826, 1875, 1898, 1911, 1944, 1977, 2041, 2064], 0, 0, 0) := rfl
theorem f306_256 : fetch 306 256 = some (.aload_n 1, 0, 0, 0) := rfl
theorem f306_257 : fetch 306 257 = some (.aload_n 0, 0, 0, 0) := rfl
theorem f306_258 : fetch 306 258 = some (.iload_n 3, 0, 0, 0) := rfl
theorem f306_259 : fetch 306 259 = some (.iconst 1, 0, 0, 0) := rfl
theorem f306_260 : fetch 306 260 = some (.iadd, 0, 0, 0) := rfl
theorem f306_261 : fetch 306 261 = some (.iaload, 0, 0, 0) := rfl
theorem f306_262 : fetch 306 262 = some (.invokevirtual 13, 114, 1, 0) := rfl
theorem f306_265 : fetch 306 265 = some (.aload_n 2, 0, 0, 0) := rfl
theorem f306_266 : fetch 306 266 = some (.aload_n 0, 0, 0, 0) := rfl
theorem f306_267 : fetch 306 267 = some (.iload_n 3, 0, 0, 0) := rfl
theorem f306_268 : fetch 306 268 = some (.iconst 1, 0, 0, 0) := rfl
theorem f306_269 : fetch 306 269 = some (.iadd, 0, 0, 0) := rfl
theorem f306_270 : fetch 306 270 = some (.iaload, 0, 0, 0) := rfl
theorem f306_271 : fetch 306 271 = some (.invokevirtual 17, 190, 1, 0) := rfl
theorem f306_274 : fetch 306 274 = some (.if_icmp .eq 1846, 2120, 0, 0) := rfl
theorem f306_277 : fetch 306 277 = some (.iconst 0, 0, 0, 0) := rfl
theorem f306_278 : fetch 306 278 = some (.ireturn, 0, 0, 1) := rfl
theorem f306_279 : fetch 306 279 = some (.aload_n 1, 0, 0, 0) := rfl
theorem f306_280 : fetch 306 280 = some (.aload_n 0, 0, 0, 0) := rfl
theorem f306_281 : fetch 306 281 = some (.iload_n 3, 0, 0, 0) := rfl
theorem f306_282 : fetch 306 282 = some (.iconst 1, 0, 0, 0) := rfl
theorem f306_283 : fetch 306 283 = some (.iadd, 0, 0, 0) := rfl
theorem f306_284 : fetch 306 284 = some (.iaload, 0, 0, 0) := rfl
theorem f306_285 : fetch 306 285 = some (.invokevirtual 18, 115, 1, 0) := rfl
theorem f306_288 : fetch 306 288 = some (.aload_n 2, 0, 0, 0) := rfl
theorem f306_289 : fetch 306 289 = some (.aload_n 0, 0, 0, 0) := rfl
theorem f306_290 : fetch 306 290 = some (.iload_n 3, 0, 0, 0) := rfl
theorem f306_291 : fetch 306 291 = some (.iconst 1, 0, 0, 0) := rfl
theorem f306_292 : fetch 306 292 = some (.iadd, 0, 0, 0) := rfl
theorem f306_293 : fetch 306 293 = some (.iaload, 0, 0, 0) := rfl
theorem f306_294 : fetch 306 294 = some (.invokevirtual 22, 191, 1, 0) := rfl
theorem f306_297 : fetch 306 297 = some (.if_icmp .eq 1823, 2120, 0, 0) := rfl
theorem f306_300 : fetch 306 300 = some (.iconst 0, 0, 0, 0) := rfl
theorem f306_301 : fetch 306 301 = some (.ireturn, 0, 0, 1) := rfl
theorem f306_302 : fetch 306 302 = some (.aload_n 1, 0, 0, 0) := rfl
theorem f306_303 : fetch 306 303 = some (.aload_n 0, 0, 0, 0) := rfl
theorem f306_304 : fetch 306 304 = some (.iload_n 3, 0, 0, 0) := rfl
theorem f306_305 : fetch 306 305 = some (.iconst 1, 0, 0, 0) := rfl
theorem f306_306 : fetch 306 306 = some (.iadd, 0, 0, 0) := rfl
theorem f306_307 : fetch 306 307 = some (.iaload, 0, 0, 0) := rfl
theorem f306_308 : fetch 306 308 = some (.aload_n 0, 0, 0, 0) := rfl
theorem f306_309 : fetch 306 309 = some (.iload_n 3, 0, 0, 0) := rfl
theorem f306_310 : fetch 306 310 = some (.iconst 2, 0, 0, 0) := rfl
theorem f306_311 : fetch 306 311 = some (.iadd, 0, 0, 0) := rfl
theorem f306_312 : fetch 306 312 = some (.iaload, 0, 0, 0) := rfl
theorem f306_313 : fetch 306 313 = some (.aload_n 0, 0, 0, 0) := rfl
theorem f306_314 : fetch 306 314 = some (.iload_n 3, 0, 0, 0) := rfl
theorem f306_315 : fetch 306 315 = some (.iconst 3, 0, 0, 0) := rfl
theorem f306_316 : fetch 306 316 = some (.iadd, 0, 0, 0) := rfl
theorem f306_317 : fetch 306 317 = some (.iaload, 0, 0, 0) := rfl
theorem f306_318 : fetch 306 318 = some (.i2l, 0, 0, 0) := rfl
theorem f306_319 : fetch 306 319 = some (.bipush 32, 0, 0, 0) := rfl
theorem f306_321 : fetch 306 321 = some (.lshl, 0, 0, 0) := rfl
theorem f306_322 : fetch 306 322 = some (.aload_n 0, 0, 0, 0) := rfl
theorem f306_323 : fetch 306 323 = some (.iload_n 3, 0, 0, 0) := rfl
theorem f306_324 : fetch 306 324 = some (.iconst 4, 0, 0, 0) := rfl
theorem f306_325 : fetch 306 325 = some (.iadd, 0, 0, 0) := rfl
theorem f306_326 : fetch 306 326 = some (.iaload, 0, 0, 0) := rfl
theorem f306_327 : fetch 306 327 = some (.i2l, 0, 0, 0) := rfl
theorem f306_328 : fetch 306 328 = some (.ldc2_w 23, 0, 0, 4294967295) := rfl
theorem f306_331 : fetch 306 331 = some (.land, 0, 0, 0) := rfl
theorem f306_332 : fetch 306 332 = some (.lor, 0, 0, 0) := rfl
theorem f306_333 : fetch 306 333 = some (.invokevirtual 25, 116, 3, 0) := rfl
theorem f306_336 : fetch 306 336 = some (.aload_n 2, 0, 0, 0) := rfl
theorem f306_337 : fetch 306 337 = some (.aload_n 0, 0, 0, 0) := rfl
theorem f306_338 : fetch 306 338 = some (.iload_n 3, 0, 0, 0) := rfl
theorem f306_339 : fetch 306 339 = some (.iconst 1, 0, 0, 0) := rfl
theorem f306_340 : fetch 306 340 = some (.iadd, 0, 0, 0) := rfl
theorem f306_341 : fetch 306 341 = some (.iaload, 0, 0, 0) := rfl
theorem f306_342 : fetch 306 342 = some (.aload_n 0, 0, 0, 0) := rfl
theorem f306_343 : fetch 306 343 = some (.iload_n 3, 0, 0, 0) := rfl
theorem f306_344 : fetch 306 344 = some (.iconst 2, 0, 0, 0) := rfl
theorem f306_345 : fetch 306 345 = some (.iadd, 0, 0, 0) := rfl
theorem f306_346 : fetch 306 346 = some (.iaload, 0, 0, 0) := rfl
theorem f306_347 : fetch 306 347 = some (.aload_n 0, 0, 0, 0) := rfl
theorem f306_348 : fetch 306 348 = some (.iload_n 3, 0, 0, 0) := rfl
theorem f306_349 : fetch 306 349 = some (.iconst 3, 0, 0, 0) := rfl
theorem f306_350 : fetch 306 350 = some (.iadd, 0, 0, 0) := rfl
theorem f306_351 : fetch 306 351 = some (.iaload, 0, 0, 0) := rfl
theorem f306_352 : fetch 306 352 = some (.i2l, 0, 0, 0) := rfl
theorem f306_353 : fetch 306 353 = some (.bipush 32, 0, 0, 0) := rfl
theorem f306_355 : fetch 306 355 = some (.lshl, 0, 0, 0) := rfl
theorem f306_356 : fetch 306 356 = some (.aload_n 0, 0, 0, 0) := rfl
theorem f306_357 : fetch 306 357 = some (.iload_n 3, 0, 0, 0) := rfl
theorem f306_358 : fetch 306 358 = some (.iconst 4, 0, 0, 0) := rfl
theorem f306_359 : fetch 306 359 = some (.iadd, 0, 0, 0) := rfl
theorem f306_360 : fetch 306 360 = some (.iaload, 0, 0, 0) := rfl
theorem f306_361 : fetch 306 361 = some (.i2l, 0, 0, 0) := rfl
theorem f306_362 : fetch 306 362 = some (.ldc2_w 23, 0, 0, 4294967295) := rfl
theorem f306_365 : fetch 306 365 = some (.land, 0, 0, 0) := rfl
theorem f306_366 : fetch 306 366 = some (.lor, 0, 0, 0) := rfl
theorem f306_367 : fetch 306 367 = some (.invokevirtual 29, 192, 3, 0) := rfl
theorem f306_370 : fetch 306 370 = some (.if_icmp .eq 1750, 2120, 0, 0) := rfl
theorem f306_373 : fetch 306 373 = some (.iconst 0, 0, 0, 0) := rfl
theorem f306_374 : fetch 306 374 = some (.ireturn, 0, 0, 1) := rfl
theorem f306_375 : fetch 306 375 = some (.aload_n 1, 0, 0, 0) := rfl
theorem f306_376 : fetch 306 376 = some (.aload_n 0, 0, 0, 0) := rfl
theorem f306_377 : fetch 306 377 = some (.iload_n 3, 0, 0, 0) := rfl
theorem f306_378 : fetch 306 378 = some (.iconst 1, 0, 0, 0) := rfl
theorem f306_379 : fetch 306 379 = some (.iadd, 0, 0, 0) := rfl
theorem f306_380 : fetch 306 380 = some (.iaload, 0, 0, 0) := rfl
theorem f306_381 : fetch 306 381 = some (.aload_n 0, 0, 0, 0) := rfl
theorem f306_382 : fetch 306 382 = some (.iload_n 3, 0, 0, 0) := rfl
theorem f306_383 : fetch 306 383 = some (.iconst 2, 0, 0, 0) := rfl
theorem f306_384 : fetch 306 384 = some (.iadd, 0, 0, 0) := rfl
theorem f306_385 : fetch 306 385 = some (.iaload, 0, 0, 0) := rfl
theorem f306_386 : fetch 306 386 = some (.invokevirtual 30, 117, 2, 0) := rfl
theorem f306_389 : fetch 306 389 = some (.aload_n 2, 0, 0, 0) := rfl
theorem f306_390 : fetch 306 390 = some (.aload_n 0, 0, 0, 0) := rfl
theorem f306_391 : fetch 306 391 = some (.iload_n 3, 0, 0, 0) := rfl
theorem f306_392 : fetch 306 392 = some (.iconst 1, 0, 0, 0) := rfl
theorem f306_393 : fetch 306 393 = some (.iadd, 0, 0, 0) := rfl
theorem f306_394 : fetch 306 394 = some (.iaload, 0, 0, 0) := rfl
theorem f306_395 : fetch 306 395 = some (.aload_n 0, 0, 0, 0) := rfl
theorem f306_396 : fetch 306 396 = some (.iload_n 3, 0, 0, 0) := rfl
theorem f306_397 : fetch 306 397 = some (.iconst 2, 0, 0, 0) := rfl
theorem f306_398 : fetch 306 398 = some (.iadd, 0, 0, 0) := rfl
theorem f306_399 : fetch 306 399 = some (.iaload, 0, 0, 0) := rfl
theorem f306_400 : fetch 306 400 = some (.invokevirtual 34, 194, 2, 0) := rfl
theorem f306_403 : fetch 306 403 = some (.if_icmp .eq 1717, 2120, 0, 0) := rfl
theorem f306_406 : fetch 306 406 = some (.iconst 0, 0, 0, 0) := rfl
theorem f306_407 : fetch 306 407 = some (.ireturn, 0, 0, 1) := rfl
theorem f306_408 : fetch 306 408 = some (.aload_n 1, 0, 0, 0) := rfl
theorem f306_409 : fetch 306 409 = some (.aload_n 0, 0, 0, 0) := rfl
theorem f306_410 : fetch 306 410 = some (.iload_n 3, 0, 0, 0) := rfl
theorem f306_411 : fetch 306 411 = some (.iconst 1, 0, 0, 0) := rfl
theorem f306_412 : fetch 306 412 = some (.iadd, 0, 0, 0) := rfl
theorem f306_413 : fetch 306 413 = some (.iaload, 0, 0, 0) := rfl
theorem f306_414 : fetch 306 414 = some (.aload_n 0, 0, 0, 0) := rfl
theorem f306_415 : fetch 306 415 = some (.iload_n 3, 0, 0, 0) := rfl
theorem f306_416 : fetch 306 416 = some (.iconst 2, 0, 0, 0) := rfl
theorem f306_417 : fetch 306 417 = some (.iadd, 0, 0, 0) := rfl
theorem f306_418 : fetch 306 418 = some (.iaload, 0, 0, 0) := rfl
theorem f306_419 : fetch 306 419 = some (.aload_n 0, 0, 0, 0) := rfl
theorem f306_420 : fetch 306 420 = some (.iload_n 3, 0, 0, 0) := rfl
theorem f306_421 : fetch 306 421 = some (.iconst 3, 0, 0, 0) := rfl
theorem f306_422 : fetch 306 422 = some (.iadd, 0, 0, 0) := rfl
theorem f306_423 : fetch 306 423 = some (.iaload, 0, 0, 0) := rfl
theorem f306_424 : fetch 306 424 = some (.invokevirtual 35, 118, 3, 0) := rfl
theorem f306_427 : fetch 306 427 = some (.aload_n 2, 0, 0, 0) := rfl
theorem f306_428 : fetch 306 428 = some (.aload_n 0, 0, 0, 0) := rfl
theorem f306_429 : fetch 306 429 = some (.iload_n 3, 0, 0, 0) := rfl
theorem f306_430 : fetch 306 430 = some (.iconst 1, 0, 0, 0) := rfl
theorem f306_431 : fetch 306 431 = some (.iadd, 0, 0, 0) := rfl
theorem f306_432 : fetch 306 432 = some (.iaload, 0, 0, 0) := rfl
theorem f306_433 : fetch 306 433 = some (.aload_n 0, 0, 0, 0) := rfl
theorem f306_434 : fetch 306 434 = some (.iload_n 3, 0, 0, 0) := rfl
theorem f306_435 : fetch 306 435 = some (.iconst 2, 0, 0, 0) := rfl
theorem f306_436 : fetch 306 436 = some (.iadd, 0, 0, 0) := rfl
theorem f306_437 : fetch 306 437 = some (.iaload, 0, 0, 0) := rfl
theorem f306_438 : fetch 306 438 = some (.aload_n 0, 0, 0, 0) := rfl
theorem f306_439 : fetch 306 439 = some (.iload_n 3, 0, 0, 0) := rfl
theorem f306_440 : fetch 306 440 = some (.iconst 3, 0, 0, 0) := rfl
theorem f306_441 : fetch 306 441 = some (.iadd, 0, 0, 0) := rfl
theorem f306_442 : fetch 306 442 = some (.iaload, 0, 0, 0) := rfl
theorem f306_443 : fetch 306 443 = some (.invokevirtual 39, 196, 3, 0) := rfl
theorem f306_446 : fetch 306 446 = some (.if_icmp .eq 1674, 2120, 0, 0) := rfl
theorem f306_449 : fetch 306 449 = some (.iconst 0, 0, 0, 0) := rfl
theorem f306_450 : fetch 306 450 = some (.ireturn, 0, 0, 1) := rfl
theorem f306_451 : fetch 306 451 = some (.aload_n 1, 0, 0, 0) := rfl
theorem f306_452 : fetch 306 452 = some (.aload_n 0, 0, 0, 0) := rfl
theorem f306_453 : fetch 306 453 = some (.iload_n 3, 0, 0, 0) := rfl
theorem f306_454 : fetch 306 454 = some (.iconst 1, 0, 0, 0) := rfl
theorem f306_455 : fetch 306 455 = some (.iadd, 0, 0, 0) := rfl
theorem f306_456 : fetch 306 456 = some (.iaload, 0, 0, 0) := rfl
theorem f306_457 : fetch 306 457 = some (.aload_n 0, 0, 0, 0) := rfl
theorem f306_458 : fetch 306 458 = some (.iload_n 3, 0, 0, 0) := rfl
theorem f306_459 : fetch 306 459 = some (.iconst 2, 0, 0, 0) := rfl
theorem f306_460 : fetch 306 460 = some (.iadd, 0, 0, 0) := rfl
theorem f306_461 : fetch 306 461 = some (.iaload, 0, 0, 0) := rfl
theorem f306_462 : fetch 306 462 = some (.aload_n 0, 0, 0, 0) := rfl
theorem f306_463 : fetch 306 463 = some (.iload_n 3, 0, 0, 0) := rfl
theorem f306_464 : fetch 306 464 = some (.iconst 3, 0, 0, 0) := rfl
theorem f306_465 : fetch 306 465 = some (.iadd, 0, 0, 0) := rfl
theorem f306_466 : fetch 306 466 = some (.iaload, 0, 0, 0) := rfl
theorem f306_467 : fetch 306 467 = some (.invokevirtual 40, 119, 3, 0) := rfl
theorem f306_470 : fetch 306 470 = some (.aload_n 2, 0, 0, 0) := rfl
theorem f306_471 : fetch 306 471 = some (.aload_n 0, 0, 0, 0) := rfl
theorem f306_472 : fetch 306 472 = some (.iload_n 3, 0, 0, 0) := rfl
theorem f306_473 : fetch 306 473 = some (.iconst 1, 0, 0, 0) := rfl
theorem f306_474 : fetch 306 474 = some (.iadd, 0, 0, 0) := rfl
theorem f306_475 : fetch 306 475 = some (.iaload, 0, 0, 0) := rfl
theorem f306_476 : fetch 306 476 = some (.aload_n 0, 0, 0, 0) := rfl
theorem f306_477 : fetch 306 477 = some (.iload_n 3, 0, 0, 0) := rfl
theorem f306_478 : fetch 306 478 = some (.iconst 2, 0, 0, 0) := rfl
theorem f306_479 : fetch 306 479 = some (.iadd, 0, 0, 0) := rfl
theorem f306_480 : fetch 306 480 = some (.iaload, 0, 0, 0) := rfl
theorem f306_481 : fetch 306 481 = some (.aload_n 0, 0, 0, 0) := rfl
theorem f306_482 : fetch 306 482 = some (.iload_n 3, 0, 0, 0) := rfl
theorem f306_483 : fetch 306 483 = some (.iconst 3, 0, 0, 0) := rfl
theorem f306_484 : fetch 306 484 = some (.iadd, 0, 0, 0) := rfl
theorem f306_485 : fetch 306 485 = some (.iaload, 0, 0, 0) := rfl
theorem f306_486 : fetch 306 486 = some (.invokevirtual 43, 201, 3, 0) := rfl
theorem f306_489 : fetch 306 489 = some (.if_icmp .eq 1631, 2120, 0, 0) := rfl
theorem f306_492 : fetch 306 492 = some (.iconst 0, 0, 0, 0) := rfl
theorem f306_493 : fetch 306 493 = some (.ireturn, 0, 0, 1) := rfl
theorem f306_494 : fetch 306 494 = some (.aload_n 1, 0, 0, 0) := rfl
theorem f306_495 : fetch 306 495 = some (.aload_n 0, 0, 0, 0) := rfl
theorem f306_496 : fetch 306 496 = some (.iload_n 3, 0, 0, 0) := rfl
theorem f306_497 : fetch 306 497 = some (.iconst 1, 0, 0, 0) := rfl
theorem f306_498 : fetch 306 498 = some (.iadd, 0, 0, 0) := rfl
theorem f306_499 : fetch 306 499 = some (.iaload, 0, 0, 0) := rfl
theorem f306_500 : fetch 306 500 = some (.aload_n 0, 0, 0, 0) := rfl
theorem f306_501 : fetch 306 501 = some (.iload_n 3, 0, 0, 0) := rfl
theorem f306_502 : fetch 306 502 = some (.iconst 2, 0, 0, 0) := rfl
theorem f306_503 : fetch 306 503 = some (.iadd, 0, 0, 0) := rfl
theorem f306_504 : fetch 306 504 = some (.iaload, 0, 0, 0) := rfl
theorem f306_505 : fetch 306 505 = some (.invokevirtual 44, 120, 2, 0) := rfl
theorem f306_508 : fetch 306 508 = some (.aload_n 2, 0, 0, 0) := rfl
theorem f306_509 : fetch 306 509 = some (.aload_n 0, 0, 0, 0) := rfl
theorem f306_510 : fetch 306 510 = some (.iload_n 3, 0, 0, 0) := rfl
theorem f306_511 : fetch 306 511 = some (.iconst 1, 0, 0, 0) := rfl
theorem f306_512 : fetch 306 512 = some (.iadd, 0, 0, 0) := rfl
theorem f306_513 : fetch 306 513 = some (.iaload, 0, 0, 0) := rfl
theorem f306_514 : fetch 306 514 = some (.aload_n 0, 0, 0, 0) := rfl
theorem f306_515 : fetch 306 515 = some (.iload_n 3, 0, 0, 0) := rfl
theorem f306_516 : fetch 306 516 = some (.iconst 2, 0, 0, 0) := rfl
theorem f306_517 : fetch 306 517 = some (.iadd, 0, 0, 0) := rfl
theorem f306_518 : fetch 306 518 = some (.iaload, 0, 0, 0) := rfl
theorem f306_519 : fetch 306 519 = some (.invokevirtual 47, 202, 2, 0) := rfl
theorem f306_522 : fetch 306 522 = some (.if_icmp .eq 1598, 2120, 0, 0) := rfl
theorem f306_525 : fetch 306 525 = some (.iconst 0, 0, 0, 0) := rfl
theorem f306_526 : fetch 306 526 = some (.ireturn, 0, 0, 1) := rfl
theorem f306_527 : fetch 306 527 = some (.aload_n 1, 0, 0, 0) := rfl
theorem f306_528 : fetch 306 528 = some (.aload_n 0, 0, 0, 0) := rfl
theorem f306_529 : fetch 306 529 = some (.iload_n 3, 0, 0, 0) := rfl
theorem f306_530 : fetch 306 530 = some (.iconst 1, 0, 0, 0) := rfl
theorem f306_531 : fetch 306 531 = some (.iadd, 0, 0, 0) := rfl
theorem f306_532 : fetch 306 532 = some (.iaload, 0, 0, 0) := rfl
theorem f306_533 : fetch 306 533 = some (.aload_n 0, 0, 0, 0) := rfl
theorem f306_534 : fetch 306 534 = some (.iload_n 3, 0, 0, 0) := rfl
theorem f306_535 : fetch 306 535 = some (.iconst 2, 0, 0, 0) := rfl
theorem f306_536 : fetch 306 536 = some (.iadd, 0, 0, 0) := rfl
theorem f306_537 : fetch 306 537 = some (.iaload, 0, 0, 0) := rfl
theorem f306_538 : fetch 306 538 = some (.aload_n 0, 0, 0, 0) := rfl
theorem f306_539 : fetch 306 539 = some (.iload_n 3, 0, 0, 0) := rfl
theorem f306_540 : fetch 306 540 = some (.iconst 3, 0, 0, 0) := rfl
theorem f306_541 : fetch 306 541 = some (.iadd, 0, 0, 0) := rfl
theorem f306_542 : fetch 306 542 = some (.iaload, 0, 0, 0) := rfl
theorem f306_543 : fetch 306 543 = some (.i2l, 0, 0, 0) := rfl
theorem f306_544 : fetch 306 544 = some (.bipush 32, 0, 0, 0) := rfl
theorem f306_546 : fetch 306 546 = some (.lshl, 0, 0, 0) := rfl
theorem f306_547 : fetch 306 547 = some (.aload_n 0, 0, 0, 0) := rfl
theorem f306_548 : fetch 306 548 = some (.iload_n 3, 0, 0, 0) := rfl
theorem f306_549 : fetch 306 549 = some (.iconst 4, 0, 0, 0) := rfl
theorem f306_550 : fetch 306 550 = some (.iadd, 0, 0, 0) := rfl
theorem f306_551 : fetch 306 551 = some (.iaload, 0, 0, 0) := rfl
theorem f306_552 : fetch 306 552 = some (.i2l, 0, 0, 0) := rfl
theorem f306_553 : fetch 306 553 = some (.ldc2_w 23, 0, 0, 4294967295) := rfl
theorem f306_556 : fetch 306 556 = some (.land, 0, 0, 0) := rfl
theorem f306_557 : fetch 306 557 = some (.lor, 0, 0, 0) := rfl
theorem f306_558 : fetch 306 558 = some (.invokevirtual 48, 121, 3, 0) := rfl
theorem f306_561 : fetch 306 561 = some (.aload_n 2, 0, 0, 0) := rfl
theorem f306_562 : fetch 306 562 = some (.aload_n 0, 0, 0, 0) := rfl
theorem f306_563 : fetch 306 563 = some (.iload_n 3, 0, 0, 0) := rfl
theorem f306_564 : fetch 306 564 = some (.iconst 1, 0, 0, 0) := rfl
theorem f306_565 : fetch 306 565 = some (.iadd, 0, 0, 0) := rfl
theorem f306_566 : fetch 306 566 = some (.iaload, 0, 0, 0) := rfl
theorem f306_567 : fetch 306 567 = some (.aload_n 0, 0, 0, 0) := rfl
theorem f306_568 : fetch 306 568 = some (.iload_n 3, 0, 0, 0) := rfl
theorem f306_569 : fetch 306 569 = some (.iconst 2, 0, 0, 0) := rfl
theorem f306_570 : fetch 306 570 = some (.iadd, 0, 0, 0) := rfl
theorem f306_571 : fetch 306 571 = some (.iaload, 0, 0, 0) := rfl
theorem f306_572 : fetch 306 572 = some (.aload_n 0, 0, 0, 0) := rfl
theorem f306_573 : fetch 306 573 = some (.iload_n 3, 0, 0, 0) := rfl
theorem f306_574 : fetch 306 574 = some (.iconst 3, 0, 0, 0) := rfl
theorem f306_575 : fetch 306 575 = some (.iadd, 0, 0, 0) := rfl
theorem f306_576 : fetch 306 576 = some (.iaload, 0, 0, 0) := rfl
theorem f306_577 : fetch 306 577 = some (.i2l, 0, 0, 0) := rfl
theorem f306_578 : fetch 306 578 = some (.bipush 32, 0, 0, 0) := rfl
theorem f306_580 : fetch 306 580 = some (.lshl, 0, 0, 0) := rfl
theorem f306_581 : fetch 306 581 = some (.aload_n 0, 0, 0, 0) := rfl
theorem f306_582 : fetch 306 582 = some (.iload_n 3, 0, 0, 0) := rfl
theorem f306_583 : fetch 306 583 = some (.iconst 4, 0, 0, 0) := rfl
theorem f306_584 : fetch 306 584 = some (.iadd, 0, 0, 0) := rfl
theorem f306_585 : fetch 306 585 = some (.iaload, 0, 0, 0) := rfl
theorem f306_586 : fetch 306 586 = some (.i2l, 0, 0, 0) := rfl
theorem f306_587 : fetch 306 587 = some (.ldc2_w 23, 0, 0, 4294967295) := rfl
theorem f306_590 : fetch 306 590 = some (.land, 0, 0, 0) := rfl
theorem f306_591 : fetch 306 591 = some (.lor, 0, 0, 0) := rfl
theorem f306_592 : fetch 306 592 = some (.invokevirtual 51, 203, 3, 0) := rfl
theorem f306_595 : fetch 306 595 = some (.if_icmp .eq 1525, 2120, 0, 0) := rfl
theorem f306_598 : fetch 306 598 = some (.iconst 0, 0, 0, 0) := rfl
theorem f306_599 : fetch 306 599 = some (.ireturn, 0, 0, 1) := rfl
theorem f306_600 : fetch 306 600 = some (.aload_n 1, 0, 0, 0) := rfl
theorem f306_601 : fetch 306 601 = some (.aload_n 0, 0, 0, 0) := rfl
theorem f306_602 : fetch 306 602 = some (.iload_n 3, 0, 0, 0) := rfl
theorem f306_603 : fetch 306 603 = some (.iconst 1, 0, 0, 0) := rfl
theorem f306_604 : fetch 306 604 = some (.iadd, 0, 0, 0) := rfl
theorem f306_605 : fetch 306 605 = some (.iaload, 0, 0, 0) := rfl
theorem f306_606 : fetch 306 606 = some (.invokevirtual 52, 122, 1, 0) := rfl
theorem f306_609 : fetch 306 609 = some (.aload_n 2, 0, 0, 0) := rfl
theorem f306_610 : fetch 306 610 = some (.aload_n 0, 0, 0, 0) := rfl
theorem f306_611 : fetch 306 611 = some (.iload_n 3, 0, 0, 0) := rfl
theorem f306_612 : fetch 306 612 = some (.iconst 1, 0, 0, 0) := rfl
theorem f306_613 : fetch 306 613 = some (.iadd, 0, 0, 0) := rfl
theorem f306_614 : fetch 306 614 = some (.iaload, 0, 0, 0) := rfl
theorem f306_615 : fetch 306 615 = some (.invokevirtual 55, 207, 1, 0) := rfl
theorem f306_618 : fetch 306 618 = some (.if_icmp .eq 1502, 2120, 0, 0) := rfl
theorem f306_621 : fetch 306 621 = some (.iconst 0, 0, 0, 0) := rfl
theorem f306_622 : fetch 306 622 = some (.ireturn, 0, 0, 1) := rfl
theorem f306_623 : fetch 306 623 = some (.aload_n 1, 0, 0, 0) := rfl
theorem f306_624 : fetch 306 624 = some (.invokevirtual 56, 123, 0, 0) := rfl
theorem f306_627 : fetch 306 627 = some (.aload_n 2, 0, 0, 0) := rfl
theorem f306_628 : fetch 306 628 = some (.invokevirtual 60, 204, 0, 0) := rfl
theorem f306_631 : fetch 306 631 = some (.if_icmp .eq 1489, 2120, 0, 0) := rfl
theorem f306_634 : fetch 306 634 = some (.iconst 0, 0, 0, 0) := rfl
theorem f306_635 : fetch 306 635 = some (.ireturn, 0, 0, 1) := rfl
theorem f306_636 : fetch 306 636 = some (.aload_n 1, 0, 0, 0) := rfl
theorem f306_637 : fetch 306 637 = some (.aload_n 0, 0, 0, 0) := rfl
theorem f306_638 : fetch 306 638 = some (.iload_n 3, 0, 0, 0) := rfl
theorem f306_639 : fetch 306 639 = some (.iconst 1, 0, 0, 0) := rfl
theorem f306_640 : fetch 306 640 = some (.iadd, 0, 0, 0) := rfl
theorem f306_641 : fetch 306 641 = some (.iaload, 0, 0, 0) := rfl
theorem f306_642 : fetch 306 642 = some (.invokevirtual 61, 124, 1, 0) := rfl
theorem f306_645 : fetch 306 645 = some (.aload_n 2, 0, 0, 0) := rfl
theorem f306_646 : fetch 306 646 = some (.aload_n 0, 0, 0, 0) := rfl
theorem f306_647 : fetch 306 647 = some (.iload_n 3, 0, 0, 0) := rfl
theorem f306_648 : fetch 306 648 = some (.iconst 1, 0, 0, 0) := rfl
theorem f306_649 : fetch 306 649 = some (.iadd, 0, 0, 0) := rfl
theorem f306_650 : fetch 306 650 = some (.iaload, 0, 0, 0) := rfl
theorem f306_651 : fetch 306 651 = some (.invokevirtual 64, 208, 1, 0) := rfl
theorem f306_654 : fetch 306 654 = some (.if_icmp .eq 1466, 2120, 0, 0) := rfl
theorem f306_657 : fetch 306 657 = some (.iconst 0, 0, 0, 0) := rfl
theorem f306_658 : fetch 306 658 = some (.ireturn, 0, 0, 1) := rfl
theorem f306_659 : fetch 306 659 = some (.aload_n 1, 0, 0, 0) := rfl
theorem f306_660 : fetch 306 660 = some (.aload_n 0, 0, 0, 0) := rfl
theorem f306_661 : fetch 306 661 = some (.iload_n 3, 0, 0, 0) := rfl
theorem f306_662 : fetch 306 662 = some (.iconst 1, 0, 0, 0) := rfl
theorem f306_663 : fetch 306 663 = some (.iadd, 0, 0, 0) := rfl
theorem f306_664 : fetch 306 664 = some (.iaload, 0, 0, 0) := rfl
theorem f306_665 : fetch 306 665 = some (.invokevirtual 65, 125, 1, 0) := rfl
theorem f306_668 : fetch 306 668 = some (.aload_n 2, 0, 0, 0) := rfl
theorem f306_669 : fetch 306 669 = some (.aload_n 0, 0, 0, 0) := rfl
theorem f306_670 : fetch 306 670 = some (.iload_n 3, 0, 0, 0) := rfl
theorem f306_671 : fetch 306 671 = some (.iconst 1, 0, 0, 0) := rfl
theorem f306_672 : fetch 306 672 = some (.iadd, 0, 0, 0) := rfl
theorem f306_673 : fetch 306 673 = some (.iaload, 0, 0, 0) := rfl
theorem f306_674 : fetch 306 674 = some (.invokevirtual 68, 209, 1, 0) := rfl
theorem f306_677 : fetch 306 677 = some (.if_icmp .eq 1443, 2120, 0, 0) := rfl
theorem f306_680 : fetch 306 680 = some (.iconst 0, 0, 0, 0) := rfl
theorem f306_681 : fetch 306 681 = some (.ireturn, 0, 0, 1) := rfl
theorem f306_682 : fetch 306 682 = some (.aload_n 1, 0, 0, 0) := rfl
theorem f306_683 : fetch 306 683 = some (.aload_n 0, 0, 0, 0) := rfl
theorem f306_684 : fetch 306 684 = some (.iload_n 3, 0, 0, 0) := rfl
theorem f306_685 : fetch 306 685 = some (.iconst 1, 0, 0, 0) := rfl
theorem f306_686 : fetch 306 686 = some (.iadd, 0, 0, 0) := rfl
theorem f306_687 : fetch 306 687 = some (.iaload, 0, 0, 0) := rfl
theorem f306_688 : fetch 306 688 = some (.aload_n 0, 0, 0, 0) := rfl
theorem f306_689 : fetch 306 689 = some (.iload_n 3, 0, 0, 0) := rfl
theorem f306_690 : fetch 306 690 = some (.iconst 2, 0, 0, 0) := rfl
theorem f306_691 : fetch 306 691 = some (.iadd, 0, 0, 0) := rfl
theorem f306_692 : fetch 306 692 = some (.iaload, 0, 0, 0) := rfl
theorem f306_693 : fetch 306 693 = some (.invokevirtual 69, 126, 2, 0) := rfl
theorem f306_696 : fetch 306 696 = some (.aload_n 2, 0, 0, 0) := rfl
theorem f306_697 : fetch 306 697 = some (.aload_n 0, 0, 0, 0) := rfl
theorem f306_698 : fetch 306 698 = some (.iload_n 3, 0, 0, 0) := rfl
theorem f306_699 : fetch 306 699 = some (.iconst 1, 0, 0, 0) := rfl
theorem f306_700 : fetch 306 700 = some (.iadd, 0, 0, 0) := rfl
theorem f306_701 : fetch 306 701 = some (.iaload, 0, 0, 0) := rfl
theorem f306_702 : fetch 306 702 = some (.aload_n 0, 0, 0, 0) := rfl
theorem f306_703 : fetch 306 703 = some (.iload_n 3, 0, 0, 0) := rfl
theorem f306_704 : fetch 306 704 = some (.iconst 2, 0, 0, 0) := rfl
theorem f306_705 : fetch 306 705 = some (.iadd, 0, 0, 0) := rfl
theorem f306_706 : fetch 306 706 = some (.iaload, 0, 0, 0) := rfl
theorem f306_707 : fetch 306 707 = some (.invokevirtual 72, 211, 2, 0) := rfl
theorem f306_710 : fetch 306 710 = some (.if_icmp .eq 1410, 2120, 0, 0) := rfl
theorem f306_713 : fetch 306 713 = some (.iconst 0, 0, 0, 0) := rfl
theorem f306_714 : fetch 306 714 = some (.ireturn, 0, 0, 1) := rfl
theorem f306_715 : fetch 306 715 = some (.aload_n 1, 0, 0, 0) := rfl
theorem f306_716 : fetch 306 716 = some (.aload_n 0, 0, 0, 0) := rfl
theorem f306_717 : fetch 306 717 = some (.iload_n 3, 0, 0, 0) := rfl
theorem f306_718 : fetch 306 718 = some (.iconst 1, 0, 0, 0) := rfl
theorem f306_719 : fetch 306 719 = some (.iadd, 0, 0, 0) := rfl
theorem f306_720 : fetch 306 720 = some (.iaload, 0, 0, 0) := rfl
theorem f306_721 : fetch 306 721 = some (.invokevirtual 73, 127, 1, 0) := rfl
theorem f306_724 : fetch 306 724 = some (.aload_n 2, 0, 0, 0) := rfl
theorem f306_725 : fetch 306 725 = some (.aload_n 0, 0, 0, 0) := rfl
theorem f306_726 : fetch 306 726 = some (.iload_n 3, 0, 0, 0) := rfl
theorem f306_727 : fetch 306 727 = some (.iconst 1, 0, 0, 0) := rfl
theorem f306_728 : fetch 306 728 = some (.iadd, 0, 0, 0) := rfl
theorem f306_729 : fetch 306 729 = some (.iaload, 0, 0, 0) := rfl
theorem f306_730 : fetch 306 730 = some (.invokevirtual 76, 212, 1, 0) := rfl
theorem f306_733 : fetch 306 733 = some (.if_icmp .eq 1387, 2120, 0, 0) := rfl
theorem f306_736 : fetch 306 736 = some (.iconst 0, 0, 0, 0) := rfl
theorem f306_737 : fetch 306 737 = some (.ireturn, 0, 0, 1) := rfl
theorem f306_738 : fetch 306 738 = some (.aload_n 1, 0, 0, 0) := rfl
theorem f306_739 : fetch 306 739 = some (.aload_n 0, 0, 0, 0) := rfl
theorem f306_740 : fetch 306 740 = some (.iload_n 3, 0, 0, 0) := rfl
theorem f306_741 : fetch 306 741 = some (.iconst 1, 0, 0, 0) := rfl
theorem f306_742 : fetch 306 742 = some (.iadd, 0, 0, 0) := rfl
theorem f306_743 : fetch 306 743 = some (.iaload, 0, 0, 0) := rfl
theorem f306_744 : fetch 306 744 = some (.aload_n 0, 0, 0, 0) := rfl
theorem f306_745 : fetch 306 745 = some (.iload_n 3, 0, 0, 0) := rfl
theorem f306_746 : fetch 306 746 = some (.iconst 2, 0, 0, 0) := rfl
theorem f306_747 : fetch 306 747 = some (.iadd, 0, 0, 0) := rfl
theorem f306_748 : fetch 306 748 = some (.iaload, 0, 0, 0) := rfl
theorem f306_749 : fetch 306 749 = some (.aload_n 0, 0, 0, 0) := rfl
theorem f306_750 : fetch 306 750 = some (.iload_n 3, 0, 0, 0) := rfl
theorem f306_751 : fetch 306 751 = some (.iconst 3, 0, 0, 0) := rfl
theorem f306_752 : fetch 306 752 = some (.iadd, 0, 0, 0) := rfl
theorem f306_753 : fetch 306 753 = some (.iaload, 0, 0, 0) := rfl
theorem f306_754 : fetch 306 754 = some (.aload_n 0, 0, 0, 0) := rfl
theorem f306_755 : fetch 306 755 = some (.iload_n 3, 0, 0, 0) := rfl
theorem f306_756 : fetch 306 756 = some (.iconst 4, 0, 0, 0) := rfl
theorem f306_757 : fetch 306 757 = some (.iadd, 0, 0, 0) := rfl
theorem f306_758 : fetch 306 758 = some (.iaload, 0, 0, 0) := rfl
theorem f306_759 : fetch 306 759 = some (.invokevirtual 77, 128, 4, 0) := rfl
theorem f306_762 : fetch 306 762 = some (.aload_n 2, 0, 0, 0) := rfl
theorem f306_763 : fetch 306 763 = some (.aload_n 0, 0, 0, 0) := rfl
theorem f306_764 : fetch 306 764 = some (.iload_n 3, 0, 0, 0) := rfl
theorem f306_765 : fetch 306 765 = some (.iconst 1, 0, 0, 0) := rfl
theorem f306_766 : fetch 306 766 = some (.iadd, 0, 0, 0) := rfl
theorem f306_767 : fetch 306 767 = some (.iaload, 0, 0, 0) := rfl
theorem f306_768 : fetch 306 768 = some (.aload_n 0, 0, 0, 0) := rfl
theorem f306_769 : fetch 306 769 = some (.iload_n 3, 0, 0, 0) := rfl
theorem f306_770 : fetch 306 770 = some (.iconst 2, 0, 0, 0) := rfl
theorem f306_771 : fetch 306 771 = some (.iadd, 0, 0, 0) := rfl
theorem f306_772 : fetch 306 772 = some (.iaload, 0, 0, 0) := rfl
theorem f306_773 : fetch 306 773 = some (.aload_n 0, 0, 0, 0) := rfl
theorem f306_774 : fetch 306 774 = some (.iload_n 3, 0, 0, 0) := rfl
theorem f306_775 : fetch 306 775 = some (.iconst 3, 0, 0, 0) := rfl
theorem f306_776 : fetch 306 776 = some (.iadd, 0, 0, 0) := rfl
theorem f306_777 : fetch 306 777 = some (.iaload, 0, 0, 0) := rfl
theorem f306_778 : fetch 306 778 = some (.aload_n 0, 0, 0, 0) := rfl
theorem f306_779 : fetch 306 779 = some (.iload_n 3, 0, 0, 0) := rfl
theorem f306_780 : fetch 306 780 = some (.iconst 4, 0, 0, 0) := rfl
theorem f306_781 : fetch 306 781 = some (.iadd, 0, 0, 0) := rfl
theorem f306_782 : fetch 306 782 = some (.iaload, 0, 0, 0) := rfl
theorem f306_783 : fetch 306 783 = some (.invokevirtual 81, 214, 4, 0) := rfl
theorem f306_786 : fetch 306 786 = some (.if_icmp .eq 1334, 2120, 0, 0) := rfl
theorem f306_789 : fetch 306 789 = some (.iconst 0, 0, 0, 0) := rfl
theorem f306_790 : fetch 306 790 = some (.ireturn, 0, 0, 1) := rfl
theorem f306_791 : fetch 306 791 = some (.aload_n 1, 0, 0, 0) := rfl
theorem f306_792 : fetch 306 792 = some (.aload_n 0, 0, 0, 0) := rfl
theorem f306_793 : fetch 306 793 = some (.iload_n 3, 0, 0, 0) := rfl
theorem f306_794 : fetch 306 794 = some (.iconst 1, 0, 0, 0) := rfl
theorem f306_795 : fetch 306 795 = some (.iadd, 0, 0, 0) := rfl
theorem f306_796 : fetch 306 796 = some (.iaload, 0, 0, 0) := rfl
theorem f306_797 : fetch 306 797 = some (.invokevirtual 82, 129, 1, 0) := rfl
theorem f306_800 : fetch 306 800 = some (.aload_n 2, 0, 0, 0) := rfl
theorem f306_801 : fetch 306 801 = some (.aload_n 0, 0, 0, 0) := rfl
theorem f306_802 : fetch 306 802 = some (.iload_n 3, 0, 0, 0) := rfl
theorem f306_803 : fetch 306 803 = some (.iconst 1, 0, 0, 0) := rfl
theorem f306_804 : fetch 306 804 = some (.iadd, 0, 0, 0) := rfl
theorem f306_805 : fetch 306 805 = some (.iaload, 0, 0, 0) := rfl
theorem f306_806 : fetch 306 806 = some (.invokevirtual 85, 215, 1, 0) := rfl
theorem f306_809 : fetch 306 809 = some (.if_icmp .eq 1311, 2120, 0, 0) := rfl
theorem f306_812 : fetch 306 812 = some (.iconst 0, 0, 0, 0) := rfl
theorem f306_813 : fetch 306 813 = some (.ireturn, 0, 0, 1) := rfl
theorem f306_814 : fetch 306 814 = some (.aload_n 1, 0, 0, 0) := rfl
theorem f306_815 : fetch 306 815 = some (.aload_n 0, 0, 0, 0) := rfl
theorem f306_816 : fetch 306 816 = some (.iload_n 3, 0, 0, 0) := rfl
theorem f306_817 : fetch 306 817 = some (.iconst 1, 0, 0, 0) := rfl
theorem f306_818 : fetch 306 818 = some (.iadd, 0, 0, 0) := rfl
theorem f306_819 : fetch 306 819 = some (.iaload, 0, 0, 0) := rfl
theorem f306_820 : fetch 306 820 = some (.invokevirtual 86, 130, 1, 0) := rfl
theorem f306_823 : fetch 306 823 = some (.aload_n 2, 0, 0, 0) := rfl
theorem f306_824 : fetch 306 824 = some (.aload_n 0, 0, 0, 0) := rfl
theorem f306_825 : fetch 306 825 = some (.iload_n 3, 0, 0, 0) := rfl
theorem f306_826 : fetch 306 826 = some (.iconst 1, 0, 0, 0) := rfl
theorem f306_827 : fetch 306 827 = some (.iadd, 0, 0, 0) := rfl
theorem f306_828 : fetch 306 828 = some (.iaload, 0, 0, 0) := rfl
theorem f306_829 : fetch 306 829 = some (.invokevirtual 89, 217, 1, 0) := rfl
theorem f306_832 : fetch 306 832 = some (.if_icmp .eq 1288, 2120, 0, 0) := rfl
theorem f306_835 : fetch 306 835 = some (.iconst 0, 0, 0, 0) := rfl
theorem f306_836 : fetch 306 836 = some (.ireturn, 0, 0, 1) := rfl
theorem f306_837 : fetch 306 837 = some (.aload_n 1, 0, 0, 0) := rfl
theorem f306_838 : fetch 306 838 = some (.aload_n 0, 0, 0, 0) := rfl
theorem f306_839 : fetch 306 839 = some (.iload_n 3, 0, 0, 0) := rfl
theorem f306_840 : fetch 306 840 = some (.iconst 1, 0, 0, 0) := rfl
theorem f306_841 : fetch 306 841 = some (.iadd, 0, 0, 0) := rfl
theorem f306_842 : fetch 306 842 = some (.iaload, 0, 0, 0) := rfl
theorem f306_843 : fetch 306 843 = some (.aload_n 0, 0, 0, 0) := rfl
theorem f306_844 : fetch 306 844 = some (.iload_n 3, 0, 0, 0) := rfl
theorem f306_845 : fetch 306 845 = some (.iconst 2, 0, 0, 0) := rfl
theorem f306_846 : fetch 306 846 = some (.iadd, 0, 0, 0) := rfl
theorem f306_847 : fetch 306 847 = some (.iaload, 0, 0, 0) := rfl
theorem f306_848 : fetch 306 848 = some (.aload_n 0, 0, 0, 0) := rfl
theorem f306_849 : fetch 306 849 = some (.iload_n 3, 0, 0, 0) := rfl
theorem f306_850 : fetch 306 850 = some (.iconst 3, 0, 0, 0) := rfl
theorem f306_851 : fetch 306 851 = some (.iadd, 0, 0, 0) := rfl
theorem f306_852 : fetch 306 852 = some (.iaload, 0, 0, 0) := rfl
theorem f306_853 : fetch 306 853 = some (.aload_n 0, 0, 0, 0) := rfl
theorem f306_854 : fetch 306 854 = some (.iload_n 3, 0, 0, 0) := rfl
theorem f306_855 : fetch 306 855 = some (.iconst 4, 0, 0, 0) := rfl
theorem f306_856 : fetch 306 856 = some (.iadd, 0, 0, 0) := rfl
theorem f306_857 : fetch 306 857 = some (.iaload, 0, 0, 0) := rfl
theorem f306_858 : fetch 306 858 = some (.aload_n 0, 0, 0, 0) := rfl
theorem f306_859 : fetch 306 859 = some (.iload_n 3, 0, 0, 0) := rfl
theorem f306_860 : fetch 306 860 = some (.iconst 5, 0, 0, 0) := rfl
theorem f306_861 : fetch 306 861 = some (.iadd, 0, 0, 0) := rfl
theorem f306_862 : fetch 306 862 = some (.iaload, 0, 0, 0) := rfl
theorem f306_863 : fetch 306 863 = some (.aload_n 0, 0, 0, 0) := rfl
theorem f306_864 : fetch 306 864 = some (.iload_n 3, 0, 0, 0) := rfl
theorem f306_865 : fetch 306 865 = some (.bipush 6, 0, 0, 0) := rfl
theorem f306_867 : fetch 306 867 = some (.iadd, 0, 0, 0) := rfl
theorem f306_868 : fetch 306 868 = some (.iaload, 0, 0, 0) := rfl
theorem f306_869 : fetch 306 869 = some (.aload_n 0, 0, 0, 0) := rfl
theorem f306_870 : fetch 306 870 = some (.iload_n 3, 0, 0, 0) := rfl
theorem f306_871 : fetch 306 871 = some (.bipush 7, 0, 0, 0) := rfl
theorem f306_873 : fetch 306 873 = some (.iadd, 0, 0, 0) := rfl
theorem f306_874 : fetch 306 874 = some (.iaload, 0, 0, 0) := rfl
theorem f306_875 : fetch 306 875 = some (.invokevirtual 90, 131, 7, 0) := rfl
theorem f306_878 : fetch 306 878 = some (.aload_n 2, 0, 0, 0) := rfl
theorem f306_879 : fetch 306 879 = some (.aload_n 0, 0, 0, 0) := rfl
theorem f306_880 : fetch 306 880 = some (.iload_n 3, 0, 0, 0) := rfl
theorem f306_881 : fetch 306 881 = some (.iconst 1, 0, 0, 0) := rfl
theorem f306_882 : fetch 306 882 = some (.iadd, 0, 0, 0) := rfl
theorem f306_883 : fetch 306 883 = some (.iaload, 0, 0, 0) := rfl
theorem f306_884 : fetch 306 884 = some (.aload_n 0, 0, 0, 0) := rfl
theorem f306_885 : fetch 306 885 = some (.iload_n 3, 0, 0, 0) := rfl
theorem f306_886 : fetch 306 886 = some (.iconst 2, 0, 0, 0) := rfl
theorem f306_887 : fetch 306 887 = some (.iadd, 0, 0, 0) := rfl
theorem f306_888 : fetch 306 888 = some (.iaload, 0, 0, 0) := rfl
theorem f306_889 : fetch 306 889 = some (.aload_n 0, 0, 0, 0) := rfl
theorem f306_890 : fetch 306 890 = some (.iload_n 3, 0, 0, 0) := rfl
theorem f306_891 : fetch 306 891 = some (.iconst 3, 0, 0, 0) := rfl
theorem f306_892 : fetch 306 892 = some (.iadd, 0, 0, 0) := rfl
theorem f306_893 : fetch 306 893 = some (.iaload, 0, 0, 0) := rfl
theorem f306_894 : fetch 306 894 = some (.aload_n 0, 0, 0, 0) := rfl
theorem f306_895 : fetch 306 895 = some (.iload_n 3, 0, 0, 0) := rfl
theorem f306_896 : fetch 306 896 = some (.iconst 4, 0, 0, 0) := rfl
theorem f306_897 : fetch 306 897 = some (.iadd, 0, 0, 0) := rfl
theorem f306_898 : fetch 306 898 = some (.iaload, 0, 0, 0) := rfl
theorem f306_899 : fetch 306 899 = some (.aload_n 0, 0, 0, 0) := rfl
theorem f306_900 : fetch 306 900 = some (.iload_n 3, 0, 0, 0) := rfl
theorem f306_901 : fetch 306 901 = some (.iconst 5, 0, 0, 0) := rfl
theorem f306_902 : fetch 306 902 = some (.iadd, 0, 0, 0) := rfl
theorem f306_903 : fetch 306 903 = some (.iaload, 0, 0, 0) := rfl
theorem f306_904 : fetch 306 904 = some (.aload_n 0, 0, 0, 0) := rfl
theorem f306_905 : fetch 306 905 = some (.iload_n 3, 0, 0, 0) := rfl
theorem f306_906 : fetch 306 906 = some (.bipush 6, 0, 0, 0) := rfl
theorem f306_908 : fetch 306 908 = some (.iadd, 0, 0, 0) := rfl
theorem f306_909 : fetch 306 909 = some (.iaload, 0, 0, 0) := rfl
theorem f306_910 : fetch 306 910 = some (.aload_n 0, 0, 0, 0) := rfl
theorem f306_911 : fetch 306 911 = some (.iload_n 3, 0, 0, 0) := rfl
theorem f306_912 : fetch 306 912 = some (.bipush 7, 0, 0, 0) := rfl
theorem f306_914 : fetch 306 914 = some (.iadd, 0, 0, 0) := rfl
theorem f306_915 : fetch 306 915 = some (.iaload, 0, 0, 0) := rfl
theorem f306_916 : fetch 306 916 = some (.invokevirtual 94, 219, 7, 0) := rfl
theorem f306_919 : fetch 306 919 = some (.if_icmp .eq 1201, 2120, 0, 0) := rfl
theorem f306_922 : fetch 306 922 = some (.iconst 0, 0, 0, 0) := rfl
theorem f306_923 : fetch 306 923 = some (.ireturn, 0, 0, 1) := rfl
theorem f306_924 : fetch 306 924 = some (.aload_n 1, 0, 0, 0) := rfl
theorem f306_925 : fetch 306 925 = some (.aload_n 0, 0, 0, 0) := rfl
theorem f306_926 : fetch 306 926 = some (.iload_n 3, 0, 0, 0) := rfl
theorem f306_927 : fetch 306 927 = some (.iconst 1, 0, 0, 0) := rfl
theorem f306_928 : fetch 306 928 = some (.iadd, 0, 0, 0) := rfl
theorem f306_929 : fetch 306 929 = some (.iaload, 0, 0, 0) := rfl
theorem f306_930 : fetch 306 930 = some (.invokevirtual 95, 132, 1, 0) := rfl
theorem f306_933 : fetch 306 933 = some (.aload_n 2, 0, 0, 0) := rfl
theorem f306_934 : fetch 306 934 = some (.aload_n 0, 0, 0, 0) := rfl
theorem f306_935 : fetch 306 935 = some (.iload_n 3, 0, 0, 0) := rfl
theorem f306_936 : fetch 306 936 = some (.iconst 1, 0, 0, 0) := rfl
theorem f306_937 : fetch 306 937 = some (.iadd, 0, 0, 0) := rfl
theorem f306_938 : fetch 306 938 = some (.iaload, 0, 0, 0) := rfl
theorem f306_939 : fetch 306 939 = some (.invokevirtual 98, 221, 1, 0) := rfl
theorem f306_942 : fetch 306 942 = some (.if_icmp .eq 1178, 2120, 0, 0) := rfl
theorem f306_945 : fetch 306 945 = some (.iconst 0, 0, 0, 0) := rfl
theorem f306_946 : fetch 306 946 = some (.ireturn, 0, 0, 1) := rfl
theorem f306_947 : fetch 306 947 = some (.aload_n 1, 0, 0, 0) := rfl
theorem f306_948 : fetch 306 948 = some (.aload_n 0, 0, 0, 0) := rfl
theorem f306_949 : fetch 306 949 = some (.iload_n 3, 0, 0, 0) := rfl
theorem f306_950 : fetch 306 950 = some (.iconst 1, 0, 0, 0) := rfl
theorem f306_951 : fetch 306 951 = some (.iadd, 0, 0, 0) := rfl
theorem f306_952 : fetch 306 952 = some (.iaload, 0, 0, 0) := rfl
theorem f306_953 : fetch 306 953 = some (.aload_n 0, 0, 0, 0) := rfl
theorem f306_954 : fetch 306 954 = some (.iload_n 3, 0, 0, 0) := rfl
theorem f306_955 : fetch 306 955 = some (.iconst 2, 0, 0, 0) := rfl
theorem f306_956 : fetch 306 956 = some (.iadd, 0, 0, 0) := rfl
theorem f306_957 : fetch 306 957 = some (.iaload, 0, 0, 0) := rfl
theorem f306_958 : fetch 306 958 = some (.invokevirtual 99, 133, 2, 0) := rfl
theorem f306_961 : fetch 306 961 = some (.aload_n 2, 0, 0, 0) := rfl
theorem f306_962 : fetch 306 962 = some (.aload_n 0, 0, 0, 0) := rfl
theorem f306_963 : fetch 306 963 = some (.iload_n 3, 0, 0, 0) := rfl
theorem f306_964 : fetch 306 964 = some (.iconst 1, 0, 0, 0) := rfl
theorem f306_965 : fetch 306 965 = some (.iadd, 0, 0, 0) := rfl
theorem f306_966 : fetch 306 966 = some (.iaload, 0, 0, 0) := rfl
theorem f306_967 : fetch 306 967 = some (.aload_n 0, 0, 0, 0) := rfl
theorem f306_968 : fetch 306 968 = some (.iload_n 3, 0, 0, 0) := rfl
theorem f306_969 : fetch 306 969 = some (.iconst 2, 0, 0, 0) := rfl
theorem f306_970 : fetch 306 970 = some (.iadd, 0, 0, 0) := rfl
theorem f306_971 : fetch 306 971 = some (.iaload, 0, 0, 0) := rfl
theorem f306_972 : fetch 306 972 = some (.invokevirtual 102, 224, 2, 0) := rfl
theorem f306_975 : fetch 306 975 = some (.if_icmp .eq 1145, 2120, 0, 0) := rfl
theorem f306_978 : fetch 306 978 = some (.iconst 0, 0, 0, 0) := rfl
theorem f306_979 : fetch 306 979 = some (.ireturn, 0, 0, 1) := rfl
theorem f306_980 : fetch 306 980 = some (.aload_n 1, 0, 0, 0) := rfl
theorem f306_981 : fetch 306 981 = some (.aload_n 0, 0, 0, 0) := rfl
theorem f306_982 : fetch 306 982 = some (.iload_n 3, 0, 0, 0) := rfl
theorem f306_983 : fetch 306 983 = some (.iconst 1, 0, 0, 0) := rfl
theorem f306_984 : fetch 306 984 = some (.iadd, 0, 0, 0) := rfl
theorem f306_985 : fetch 306 985 = some (.iaload, 0, 0, 0) := rfl
theorem f306_986 : fetch 306 986 = some (.aload_n 0, 0, 0, 0) := rfl
theorem f306_987 : fetch 306 987 = some (.iload_n 3, 0, 0, 0) := rfl
theorem f306_988 : fetch 306 988 = some (.iconst 2, 0, 0, 0) := rfl
theorem f306_989 : fetch 306 989 = some (.iadd, 0, 0, 0) := rfl
theorem f306_990 : fetch 306 990 = some (.iaload, 0, 0, 0) := rfl
theorem f306_991 : fetch 306 991 = some (.aload_n 0, 0, 0, 0) := rfl
theorem f306_992 : fetch 306 992 = some (.iload_n 3, 0, 0, 0) := rfl
theorem f306_993 : fetch 306 993 = some (.iconst 3, 0, 0, 0) := rfl
theorem f306_994 : fetch 306 994 = some (.iadd, 0, 0, 0) := rfl
theorem f306_995 : fetch 306 995 = some (.iaload, 0, 0, 0) := rfl
theorem f306_996 : fetch 306 996 = some (.invokevirtual 103, 134, 3, 0) := rfl
theorem f306_999 : fetch 306 999 = some (.aload_n 2, 0, 0, 0) := rfl
theorem f306_1000 : fetch 306 1000 = some (.aload_n 0, 0, 0, 0) := rfl
theorem f306_1001 : fetch 306 1001 = some (.iload_n 3, 0, 0, 0) := rfl
theorem f306_1002 : fetch 306 1002 = some (.iconst 1, 0, 0, 0) := rfl
theorem f306_1003 : fetch 306 1003 = some (.iadd, 0, 0, 0) := rfl
theorem f306_1004 : fetch 306 1004 = some (.iaload, 0, 0, 0) := rfl
theorem f306_1005 : fetch 306 1005 = some (.aload_n 0, 0, 0, 0) := rfl
theorem f306_1006 : fetch 306 1006 = some (.iload_n 3, 0, 0, 0) := rfl
theorem f306_1007 : fetch 306 1007 = some (.iconst 2, 0, 0, 0) := rfl
theorem f306_1008 : fetch 306 1008 = some (.iadd, 0, 0, 0) := rfl
theorem f306_1009 : fetch 306 1009 = some (.iaload, 0, 0, 0) := rfl
theorem f306_1010 : fetch 306 1010 = some (.aload_n 0, 0, 0, 0) := rfl
theorem f306_1011 : fetch 306 1011 = some (.iload_n 3, 0, 0, 0) := rfl
theorem f306_1012 : fetch 306 1012 = some (.iconst 3, 0, 0, 0) := rfl
theorem f306_1013 : fetch 306 1013 = some (.iadd, 0, 0, 0) := rfl
theorem f306_1014 : fetch 306 1014 = some (.iaload, 0, 0, 0) := rfl
theorem f306_1015 : fetch 306 1015 = some (.invokevirtual 106, 227, 3, 0) := rfl
theorem f306_1018 : fetch 306 1018 = some (.if_icmp .eq 1102, 2120, 0, 0) := rfl
theorem f306_1021 : fetch 306 1021 = some (.iconst 0, 0, 0, 0) := rfl
theorem f306_1022 : fetch 306 1022 = some (.ireturn, 0, 0, 1) := rfl
theorem f306_1023 : fetch 306 1023 = some (.aload_n 1, 0, 0, 0) := rfl
theorem f306_1024 : fetch 306 1024 = some (.aload_n 0, 0, 0, 0) := rfl
theorem f306_1025 : fetch 306 1025 = some (.iload_n 3, 0, 0, 0) := rfl
theorem f306_1026 : fetch 306 1026 = some (.iconst 1, 0, 0, 0) := rfl
theorem f306_1027 : fetch 306 1027 = some (.iadd, 0, 0, 0) := rfl
theorem f306_1028 : fetch 306 1028 = some (.iaload, 0, 0, 0) := rfl
theorem f306_1029 : fetch 306 1029 = some (.aload_n 0, 0, 0, 0) := rfl
theorem f306_1030 : fetch 306 1030 = some (.iload_n 3, 0, 0, 0) := rfl
theorem f306_1031 : fetch 306 1031 = some (.iconst 2, 0, 0, 0) := rfl
theorem f306_1032 : fetch 306 1032 = some (.iadd, 0, 0, 0) := rfl
theorem f306_1033 : fetch 306 1033 = some (.iaload, 0, 0, 0) := rfl
theorem f306_1034 : fetch 306 1034 = some (.aload_n 0, 0, 0, 0) := rfl
theorem f306_1035 : fetch 306 1035 = some (.iload_n 3, 0, 0, 0) := rfl
theorem f306_1036 : fetch 306 1036 = some (.iconst 3, 0, 0, 0) := rfl
theorem f306_1037 : fetch 306 1037 = some (.iadd, 0, 0, 0) := rfl
theorem f306_1038 : fetch 306 1038 = some (.iaload, 0, 0, 0) := rfl
theorem f306_1039 : fetch 306 1039 = some (.invokevirtual 107, 135, 3, 0) := rfl
theorem f306_1042 : fetch 306 1042 = some (.aload_n 2, 0, 0, 0) := rfl
theorem f306_1043 : fetch 306 1043 = some (.aload_n 0, 0, 0, 0) := rfl
theorem f306_1044 : fetch 306 1044 = some (.iload_n 3, 0, 0, 0) := rfl
theorem f306_1045 : fetch 306 1045 = some (.iconst 1, 0, 0, 0) := rfl
theorem f306_1046 : fetch 306 1046 = some (.iadd, 0, 0, 0) := rfl
theorem f306_1047 : fetch 306 1047 = some (.iaload, 0, 0, 0) := rfl
theorem f306_1048 : fetch 306 1048 = some (.aload_n 0, 0, 0, 0) := rfl
theorem f306_1049 : fetch 306 1049 = some (.iload_n 3, 0, 0, 0) := rfl
theorem f306_1050 : fetch 306 1050 = some (.iconst 2, 0, 0, 0) := rfl
theorem f306_1051 : fetch 306 1051 = some (.iadd, 0, 0, 0) := rfl
theorem f306_1052 : fetch 306 1052 = some (.iaload, 0, 0, 0) := rfl
theorem f306_1053 : fetch 306 1053 = some (.aload_n 0, 0, 0, 0) := rfl
theorem f306_1054 : fetch 306 1054 = some (.iload_n 3, 0, 0, 0) := rfl
theorem f306_1055 : fetch 306 1055 = some (.iconst 3, 0, 0, 0) := rfl
theorem f306_1056 : fetch 306 1056 = some (.iadd, 0, 0, 0) := rfl
theorem f306_1057 : fetch 306 1057 = some (.iaload, 0, 0, 0) := rfl
theorem f306_1058 : fetch 306 1058 = some (.invokevirtual 110, 229, 3, 0) := rfl
theorem f306_1061 : fetch 306 1061 = some (.if_icmp .eq 1059, 2120, 0, 0) := rfl
theorem f306_1064 : fetch 306 1064 = some (.iconst 0, 0, 0, 0) := rfl
theorem f306_1065 : fetch 306 1065 = some (.ireturn, 0, 0, 1) := rfl
theorem f306_1066 : fetch 306 1066 = some (.aload_n 1, 0, 0, 0) := rfl
theorem f306_1067 : fetch 306 1067 = some (.aload_n 0, 0, 0, 0) := rfl
theorem f306_1068 : fetch 306 1068 = some (.iload_n 3, 0, 0, 0) := rfl
theorem f306_1069 : fetch 306 1069 = some (.iconst 1, 0, 0, 0) := rfl
theorem f306_1070 : fetch 306 1070 = some (.iadd, 0, 0, 0) := rfl
theorem f306_1071 : fetch 306 1071 = some (.iaload, 0, 0, 0) := rfl
theorem f306_1072 : fetch 306 1072 = some (.aload_n 0, 0, 0, 0) := rfl
theorem f306_1073 : fetch 306 1073 = some (.iload_n 3, 0, 0, 0) := rfl
theorem f306_1074 : fetch 306 1074 = some (.iconst 2, 0, 0, 0) := rfl
theorem f306_1075 : fetch 306 1075 = some (.iadd, 0, 0, 0) := rfl
theorem f306_1076 : fetch 306 1076 = some (.iaload, 0, 0, 0) := rfl
theorem f306_1077 : fetch 306 1077 = some (.invokevirtual 111, 136, 2, 0) := rfl
theorem f306_1080 : fetch 306 1080 = some (.aload_n 2, 0, 0, 0) := rfl
theorem f306_1081 : fetch 306 1081 = some (.aload_n 0, 0, 0, 0) := rfl
theorem f306_1082 : fetch 306 1082 = some (.iload_n 3, 0, 0, 0) := rfl
theorem f306_1083 : fetch 306 1083 = some (.iconst 1, 0, 0, 0) := rfl
theorem f306_1084 : fetch 306 1084 = some (.iadd, 0, 0, 0) := rfl
theorem f306_1085 : fetch 306 1085 = some (.iaload, 0, 0, 0) := rfl
theorem f306_1086 : fetch 306 1086 = some (.aload_n 0, 0, 0, 0) := rfl
theorem f306_1087 : fetch 306 1087 = some (.iload_n 3, 0, 0, 0) := rfl
theorem f306_1088 : fetch 306 1088 = some (.iconst 2, 0, 0, 0) := rfl
theorem f306_1089 : fetch 306 1089 = some (.iadd, 0, 0, 0) := rfl
theorem f306_1090 : fetch 306 1090 = some (.iaload, 0, 0, 0) := rfl
theorem f306_1091 : fetch 306 1091 = some (.invokevirtual 114, 232, 2, 0) := rfl
theorem f306_1094 : fetch 306 1094 = some (.if_icmp .eq 1026, 2120, 0, 0) := rfl
theorem f306_1097 : fetch 306 1097 = some (.iconst 0, 0, 0, 0) := rfl
theorem f306_1098 : fetch 306 1098 = some (.ireturn, 0, 0, 1) := rfl
theorem f306_1099 : fetch 306 1099 = some (.aload_n 1, 0, 0, 0) := rfl
theorem f306_1100 : fetch 306 1100 = some (.aload_n 0, 0, 0, 0) := rfl
theorem f306_1101 : fetch 306 1101 = some (.iload_n 3, 0, 0, 0) := rfl
theorem f306_1102 : fetch 306 1102 = some (.iconst 1, 0, 0, 0) := rfl
theorem f306_1103 : fetch 306 1103 = some (.iadd, 0, 0, 0) := rfl
theorem f306_1104 : fetch 306 1104 = some (.iaload, 0, 0, 0) := rfl
theorem f306_1105 : fetch 306 1105 = some (.invokevirtual 115, 137, 1, 0) := rfl
theorem f306_1108 : fetch 306 1108 = some (.aload_n 2, 0, 0, 0) := rfl
theorem f306_1109 : fetch 306 1109 = some (.aload_n 0, 0, 0, 0) := rfl
theorem f306_1110 : fetch 306 1110 = some (.iload_n 3, 0, 0, 0) := rfl
theorem f306_1111 : fetch 306 1111 = some (.iconst 1, 0, 0, 0) := rfl
theorem f306_1112 : fetch 306 1112 = some (.iadd, 0, 0, 0) := rfl
theorem f306_1113 : fetch 306 1113 = some (.iaload, 0, 0, 0) := rfl
theorem f306_1114 : fetch 306 1114 = some (.invokevirtual 118, 234, 1, 0) := rfl
theorem f306_1117 : fetch 306 1117 = some (.if_icmp .eq 1003, 2120, 0, 0) := rfl
theorem f306_1120 : fetch 306 1120 = some (.iconst 0, 0, 0, 0) := rfl
theorem f306_1121 : fetch 306 1121 = some (.ireturn, 0, 0, 1) := rfl
theorem f306_1122 : fetch 306 1122 = some (.aload_n 1, 0, 0, 0) := rfl
theorem f306_1123 : fetch 306 1123 = some (.aload_n 0, 0, 0, 0) := rfl
theorem f306_1124 : fetch 306 1124 = some (.iload_n 3, 0, 0, 0) := rfl
theorem f306_1125 : fetch 306 1125 = some (.iconst 1, 0, 0, 0) := rfl
theorem f306_1126 : fetch 306 1126 = some (.iadd, 0, 0, 0) := rfl
theorem f306_1127 : fetch 306 1127 = some (.iaload, 0, 0, 0) := rfl
theorem f306_1128 : fetch 306 1128 = some (.aload_n 0, 0, 0, 0) := rfl
theorem f306_1129 : fetch 306 1129 = some (.iload_n 3, 0, 0, 0) := rfl
theorem f306_1130 : fetch 306 1130 = some (.iconst 2, 0, 0, 0) := rfl
theorem f306_1131 : fetch 306 1131 = some (.iadd, 0, 0, 0) := rfl
theorem f306_1132 : fetch 306 1132 = some (.iaload, 0, 0, 0) := rfl
theorem f306_1133 : fetch 306 1133 = some (.aload_n 0, 0, 0, 0) := rfl
theorem f306_1134 : fetch 306 1134 = some (.iload_n 3, 0, 0, 0) := rfl
theorem f306_1135 : fetch 306 1135 = some (.iconst 3, 0, 0, 0) := rfl
theorem f306_1136 : fetch 306 1136 = some (.iadd, 0, 0, 0) := rfl
theorem f306_1137 : fetch 306 1137 = some (.iaload, 0, 0, 0) := rfl
theorem f306_1138 : fetch 306 1138 = some (.invokevirtual 119, 138, 3, 0) := rfl
theorem f306_1141 : fetch 306 1141 = some (.aload_n 2, 0, 0, 0) := rfl
theorem f306_1142 : fetch 306 1142 = some (.aload_n 0, 0, 0, 0) := rfl
theorem f306_1143 : fetch 306 1143 = some (.iload_n 3, 0, 0, 0) := rfl
theorem f306_1144 : fetch 306 1144 = some (.iconst 1, 0, 0, 0) := rfl
theorem f306_1145 : fetch 306 1145 = some (.iadd, 0, 0, 0) := rfl
theorem f306_1146 : fetch 306 1146 = some (.iaload, 0, 0, 0) := rfl
theorem f306_1147 : fetch 306 1147 = some (.aload_n 0, 0, 0, 0) := rfl
theorem f306_1148 : fetch 306 1148 = some (.iload_n 3, 0, 0, 0) := rfl
theorem f306_1149 : fetch 306 1149 = some (.iconst 2, 0, 0, 0) := rfl
theorem f306_1150 : fetch 306 1150 = some (.iadd, 0, 0, 0) := rfl
theorem f306_1151 : fetch 306 1151 = some (.iaload, 0, 0, 0) := rfl
theorem f306_1152 : fetch 306 1152 = some (.aload_n 0, 0, 0, 0) := rfl
theorem f306_1153 : fetch 306 1153 = some (.iload_n 3, 0, 0, 0) := rfl
theorem f306_1154 : fetch 306 1154 = some (.iconst 3, 0, 0, 0) := rfl
theorem f306_1155 : fetch 306 1155 = some (.iadd, 0, 0, 0) := rfl
theorem f306_1156 : fetch 306 1156 = some (.iaload, 0, 0, 0) := rfl
theorem f306_1157 : fetch 306 1157 = some (.invokevirtual 122, 237, 3, 0) := rfl
theorem f306_1160 : fetch 306 1160 = some (.if_icmp .eq 960, 2120, 0, 0) := rfl
theorem f306_1163 : fetch 306 1163 = some (.iconst 0, 0, 0, 0) := rfl
theorem f306_1164 : fetch 306 1164 = some (.ireturn, 0, 0, 1) := rfl
theorem f306_1165 : fetch 306 1165 = some (.aload_n 1, 0, 0, 0) := rfl
theorem f306_1166 : fetch 306 1166 = some (.aload_n 0, 0, 0, 0) := rfl
theorem f306_1167 : fetch 306 1167 = some (.iload_n 3, 0, 0, 0) := rfl
theorem f306_1168 : fetch 306 1168 = some (.iconst 1, 0, 0, 0) := rfl
theorem f306_1169 : fetch 306 1169 = some (.iadd, 0, 0, 0) := rfl
theorem f306_1170 : fetch 306 1170 = some (.iaload, 0, 0, 0) := rfl
theorem f306_1171 : fetch 306 1171 = some (.aload_n 0, 0, 0, 0) := rfl
theorem f306_1172 : fetch 306 1172 = some (.iload_n 3, 0, 0, 0) := rfl
theorem f306_1173 : fetch 306 1173 = some (.iconst 2, 0, 0, 0) := rfl
theorem f306_1174 : fetch 306 1174 = some (.iadd, 0, 0, 0) := rfl
theorem f306_1175 : fetch 306 1175 = some (.iaload, 0, 0, 0) := rfl
theorem f306_1176 : fetch 306 1176 = some (.invokevirtual 123, 139, 2, 0) := rfl
theorem f306_1179 : fetch 306 1179 = some (.aload_n 2, 0, 0, 0) := rfl
theorem f306_1180 : fetch 306 1180 = some (.aload_n 0, 0, 0, 0) := rfl
theorem f306_1181 : fetch 306 1181 = some (.iload_n 3, 0, 0, 0) := rfl
theorem f306_1182 : fetch 306 1182 = some (.iconst 1, 0, 0, 0) := rfl
theorem f306_1183 : fetch 306 1183 = some (.iadd, 0, 0, 0) := rfl
theorem f306_1184 : fetch 306 1184 = some (.iaload, 0, 0, 0) := rfl
theorem f306_1185 : fetch 306 1185 = some (.aload_n 0, 0, 0, 0) := rfl
theorem f306_1186 : fetch 306 1186 = some (.iload_n 3, 0, 0, 0) := rfl
theorem f306_1187 : fetch 306 1187 = some (.iconst 2, 0, 0, 0) := rfl
theorem f306_1188 : fetch 306 1188 = some (.iadd, 0, 0, 0) := rfl
theorem f306_1189 : fetch 306 1189 = some (.iaload, 0, 0, 0) := rfl
theorem f306_1190 : fetch 306 1190 = some (.invokevirtual 126, 238, 2, 0) := rfl
theorem f306_1193 : fetch 306 1193 = some (.if_icmp .eq 927, 2120, 0, 0) := rfl
theorem f306_1196 : fetch 306 1196 = some (.iconst 0, 0, 0, 0) := rfl
theorem f306_1197 : fetch 306 1197 = some (.ireturn, 0, 0, 1) := rfl
theorem f306_1198 : fetch 306 1198 = some (.aload_n 1, 0, 0, 0) := rfl
theorem f306_1199 : fetch 306 1199 = some (.aload_n 0, 0, 0, 0) := rfl
theorem f306_1200 : fetch 306 1200 = some (.iload_n 3, 0, 0, 0) := rfl
theorem f306_1201 : fetch 306 1201 = some (.iconst 1, 0, 0, 0) := rfl
theorem f306_1202 : fetch 306 1202 = some (.iadd, 0, 0, 0) := rfl
theorem f306_1203 : fetch 306 1203 = some (.iaload, 0, 0, 0) := rfl
theorem f306_1204 : fetch 306 1204 = some (.aload_n 0, 0, 0, 0) := rfl
theorem f306_1205 : fetch 306 1205 = some (.iload_n 3, 0, 0, 0) := rfl
theorem f306_1206 : fetch 306 1206 = some (.iconst 2, 0, 0, 0) := rfl
theorem f306_1207 : fetch 306 1207 = some (.iadd, 0, 0, 0) := rfl
theorem f306_1208 : fetch 306 1208 = some (.iaload, 0, 0, 0) := rfl
theorem f306_1209 : fetch 306 1209 = some (.aload_n 0, 0, 0, 0) := rfl
theorem f306_1210 : fetch 306 1210 = some (.iload_n 3, 0, 0, 0) := rfl
theorem f306_1211 : fetch 306 1211 = some (.iconst 3, 0, 0, 0) := rfl
theorem f306_1212 : fetch 306 1212 = some (.iadd, 0, 0, 0) := rfl
theorem f306_1213 : fetch 306 1213 = some (.iaload, 0, 0, 0) := rfl
theorem f306_1214 : fetch 306 1214 = some (.aload_n 0, 0, 0, 0) := rfl
theorem f306_1215 : fetch 306 1215 = some (.iload_n 3, 0, 0, 0) := rfl
theorem f306_1216 : fetch 306 1216 = some (.iconst 4, 0, 0, 0) := rfl
theorem f306_1217 : fetch 306 1217 = some (.iadd, 0, 0, 0) := rfl
theorem f306_1218 : fetch 306 1218 = some (.iaload, 0, 0, 0) := rfl
theorem f306_1219 : fetch 306 1219 = some (.invokevirtual 127, 140, 4, 0) := rfl
theorem f306_1222 : fetch 306 1222 = some (.aload_n 2, 0, 0, 0) := rfl
theorem f306_1223 : fetch 306 1223 = some (.aload_n 0, 0, 0, 0) := rfl
theorem f306_1224 : fetch 306 1224 = some (.iload_n 3, 0, 0, 0) := rfl
theorem f306_1225 : fetch 306 1225 = some (.iconst 1, 0, 0, 0) := rfl
theorem f306_1226 : fetch 306 1226 = some (.iadd, 0, 0, 0) := rfl
theorem f306_1227 : fetch 306 1227 = some (.iaload, 0, 0, 0) := rfl
theorem f306_1228 : fetch 306 1228 = some (.aload_n 0, 0, 0, 0) := rfl
theorem f306_1229 : fetch 306 1229 = some (.iload_n 3, 0, 0, 0) := rfl
theorem f306_1230 : fetch 306 1230 = some (.iconst 2, 0, 0, 0) := rfl
theorem f306_1231 : fetch 306 1231 = some (.iadd, 0, 0, 0) := rfl
theorem f306_1232 : fetch 306 1232 = some (.iaload, 0, 0, 0) := rfl
theorem f306_1233 : fetch 306 1233 = some (.aload_n 0, 0, 0, 0) := rfl
theorem f306_1234 : fetch 306 1234 = some (.iload_n 3, 0, 0, 0) := rfl
theorem f306_1235 : fetch 306 1235 = some (.iconst 3, 0, 0, 0) := rfl
theorem f306_1236 : fetch 306 1236 = some (.iadd, 0, 0, 0) := rfl
theorem f306_1237 : fetch 306 1237 = some (.iaload, 0, 0, 0) := rfl
theorem f306_1238 : fetch 306 1238 = some (.aload_n 0, 0, 0, 0) := rfl
theorem f306_1239 : fetch 306 1239 = some (.iload_n 3, 0, 0, 0) := rfl
theorem f306_1240 : fetch 306 1240 = some (.iconst 4, 0, 0, 0) := rfl
theorem f306_1241 : fetch 306 1241 = some (.iadd, 0, 0, 0) := rfl
theorem f306_1242 : fetch 306 1242 = some (.iaload, 0, 0, 0) := rfl
theorem f306_1243 : fetch 306 1243 = some (.invokevirtual 130, 239, 4, 0) := rfl
theorem f306_1246 : fetch 306 1246 = some (.if_icmp .eq 874, 2120, 0, 0) := rfl
theorem f306_1249 : fetch 306 1249 = some (.iconst 0, 0, 0, 0) := rfl
theorem f306_1250 : fetch 306 1250 = some (.ireturn, 0, 0, 1) := rfl
theorem f306_1251 : fetch 306 1251 = some (.aload_n 1, 0, 0, 0) := rfl
theorem f306_1252 : fetch 306 1252 = some (.aload_n 0, 0, 0, 0) := rfl
theorem f306_1253 : fetch 306 1253 = some (.iload_n 3, 0, 0, 0) := rfl
theorem f306_1254 : fetch 306 1254 = some (.iconst 1, 0, 0, 0) := rfl
theorem f306_1255 : fetch 306 1255 = some (.iadd, 0, 0, 0) := rfl
theorem f306_1256 : fetch 306 1256 = some (.iaload, 0, 0, 0) := rfl
theorem f306_1257 : fetch 306 1257 = some (.aload_n 0, 0, 0, 0) := rfl
theorem f306_1258 : fetch 306 1258 = some (.iload_n 3, 0, 0, 0) := rfl
theorem f306_1259 : fetch 306 1259 = some (.iconst 2, 0, 0, 0) := rfl
theorem f306_1260 : fetch 306 1260 = some (.iadd, 0, 0, 0) := rfl
theorem f306_1261 : fetch 306 1261 = some (.iaload, 0, 0, 0) := rfl
theorem f306_1262 : fetch 306 1262 = some (.invokevirtual 131, 141, 2, 0) := rfl
theorem f306_1265 : fetch 306 1265 = some (.aload_n 2, 0, 0, 0) := rfl
theorem f306_1266 : fetch 306 1266 = some (.aload_n 0, 0, 0, 0) := rfl
theorem f306_1267 : fetch 306 1267 = some (.iload_n 3, 0, 0, 0) := rfl
theorem f306_1268 : fetch 306 1268 = some (.iconst 1, 0, 0, 0) := rfl
theorem f306_1269 : fetch 306 1269 = some (.iadd, 0, 0, 0) := rfl
theorem f306_1270 : fetch 306 1270 = some (.iaload, 0, 0, 0) := rfl
theorem f306_1271 : fetch 306 1271 = some (.aload_n 0, 0, 0, 0) := rfl
theorem f306_1272 : fetch 306 1272 = some (.iload_n 3, 0, 0, 0) := rfl
theorem f306_1273 : fetch 306 1273 = some (.iconst 2, 0, 0, 0) := rfl
theorem f306_1274 : fetch 306 1274 = some (.iadd, 0, 0, 0) := rfl
theorem f306_1275 : fetch 306 1275 = some (.iaload, 0, 0, 0) := rfl
theorem f306_1276 : fetch 306 1276 = some (.invokevirtual 134, 240, 2, 0) := rfl
theorem f306_1279 : fetch 306 1279 = some (.if_icmp .eq 841, 2120, 0, 0) := rfl
theorem f306_1282 : fetch 306 1282 = some (.iconst 0, 0, 0, 0) := rfl
theorem f306_1283 : fetch 306 1283 = some (.ireturn, 0, 0, 1) := rfl
theorem f306_1284 : fetch 306 1284 = some (.aload_n 1, 0, 0, 0) := rfl
theorem f306_1285 : fetch 306 1285 = some (.aload_n 0, 0, 0, 0) := rfl
theorem f306_1286 : fetch 306 1286 = some (.iload_n 3, 0, 0, 0) := rfl
theorem f306_1287 : fetch 306 1287 = some (.iconst 1, 0, 0, 0) := rfl
theorem f306_1288 : fetch 306 1288 = some (.iadd, 0, 0, 0) := rfl
theorem f306_1289 : fetch 306 1289 = some (.iaload, 0, 0, 0) := rfl
theorem f306_1290 : fetch 306 1290 = some (.aload_n 0, 0, 0, 0) := rfl
theorem f306_1291 : fetch 306 1291 = some (.iload_n 3, 0, 0, 0) := rfl
theorem f306_1292 : fetch 306 1292 = some (.iconst 2, 0, 0, 0) := rfl
theorem f306_1293 : fetch 306 1293 = some (.iadd, 0, 0, 0) := rfl
theorem f306_1294 : fetch 306 1294 = some (.iaload, 0, 0, 0) := rfl
theorem f306_1295 : fetch 306 1295 = some (.aload_n 0, 0, 0, 0) := rfl
theorem f306_1296 : fetch 306 1296 = some (.iload_n 3, 0, 0, 0) := rfl
theorem f306_1297 : fetch 306 1297 = some (.iconst 3, 0, 0, 0) := rfl
theorem f306_1298 : fetch 306 1298 = some (.iadd, 0, 0, 0) := rfl
theorem f306_1299 : fetch 306 1299 = some (.iaload, 0, 0, 0) := rfl
theorem f306_1300 : fetch 306 1300 = some (.aload_n 0, 0, 0, 0) := rfl
theorem f306_1301 : fetch 306 1301 = some (.iload_n 3, 0, 0, 0) := rfl
theorem f306_1302 : fetch 306 1302 = some (.iconst 4, 0, 0, 0) := rfl
theorem f306_1303 : fetch 306 1303 = some (.iadd, 0, 0, 0) := rfl
theorem f306_1304 : fetch 306 1304 = some (.iaload, 0, 0, 0) := rfl
theorem f306_1305 : fetch 306 1305 = some (.aload_n 0, 0, 0, 0) := rfl
theorem f306_1306 : fetch 306 1306 = some (.iload_n 3, 0, 0, 0) := rfl
theorem f306_1307 : fetch 306 1307 = some (.iconst 5, 0, 0, 0) := rfl
theorem f306_1308 : fetch 306 1308 = some (.iadd, 0, 0, 0) := rfl
theorem f306_1309 : fetch 306 1309 = some (.iaload, 0, 0, 0) := rfl
theorem f306_1310 : fetch 306 1310 = some (.invokevirtual 135, 142, 5, 0) := rfl
theorem f306_1313 : fetch 306 1313 = some (.aload_n 2, 0, 0, 0) := rfl
theorem f306_1314 : fetch 306 1314 = some (.aload_n 0, 0, 0, 0) := rfl
theorem f306_1315 : fetch 306 1315 = some (.iload_n 3, 0, 0, 0) := rfl
theorem f306_1316 : fetch 306 1316 = some (.iconst 1, 0, 0, 0) := rfl
theorem f306_1317 : fetch 306 1317 = some (.iadd, 0, 0, 0) := rfl
theorem f306_1318 : fetch 306 1318 = some (.iaload, 0, 0, 0) := rfl
theorem f306_1319 : fetch 306 1319 = some (.aload_n 0, 0, 0, 0) := rfl
theorem f306_1320 : fetch 306 1320 = some (.iload_n 3, 0, 0, 0) := rfl
theorem f306_1321 : fetch 306 1321 = some (.iconst 2, 0, 0, 0) := rfl
theorem f306_1322 : fetch 306 1322 = some (.iadd, 0, 0, 0) := rfl
theorem f306_1323 : fetch 306 1323 = some (.iaload, 0, 0, 0) := rfl
theorem f306_1324 : fetch 306 1324 = some (.aload_n 0, 0, 0, 0) := rfl
theorem f306_1325 : fetch 306 1325 = some (.iload_n 3, 0, 0, 0) := rfl
theorem f306_1326 : fetch 306 1326 = some (.iconst 3, 0, 0, 0) := rfl
theorem f306_1327 : fetch 306 1327 = some (.iadd, 0, 0, 0) := rfl
theorem f306_1328 : fetch 306 1328 = some (.iaload, 0, 0, 0) := rfl
theorem f306_1329 : fetch 306 1329 = some (.aload_n 0, 0, 0, 0) := rfl
theorem f306_1330 : fetch 306 1330 = some (.iload_n 3, 0, 0, 0) := rfl
theorem f306_1331 : fetch 306 1331 = some (.iconst 4, 0, 0, 0) := rfl
theorem f306_1332 : fetch 306 1332 = some (.iadd, 0, 0, 0) := rfl
theorem f306_1333 : fetch 306 1333 = some (.iaload, 0, 0, 0) := rfl
theorem f306_1334 : fetch 306 1334 = some (.aload_n 0, 0, 0, 0) := rfl
theorem f306_1335 : fetch 306 1335 = some (.iload_n 3, 0, 0, 0) := rfl
theorem f306_1336 : fetch 306 1336 = some (.iconst 5, 0, 0, 0) := rfl
theorem f306_1337 : fetch 306 1337 = some (.iadd, 0, 0, 0) := rfl
theorem f306_1338 : fetch 306 1338 = some (.iaload, 0, 0, 0) := rfl
theorem f306_1339 : fetch 306 1339 = some (.invokevirtual 139, 241, 5, 0) := rfl
theorem f306_1342 : fetch 306 1342 = some (.if_icmp .eq 778, 2120, 0, 0) := rfl
theorem f306_1345 : fetch 306 1345 = some (.iconst 0, 0, 0, 0) := rfl
theorem f306_1346 : fetch 306 1346 = some (.ireturn, 0, 0, 1) := rfl
theorem f306_1347 : fetch 306 1347 = some (.aload_n 1, 0, 0, 0) := rfl
theorem f306_1348 : fetch 306 1348 = some (.aload_n 0, 0, 0, 0) := rfl
theorem f306_1349 : fetch 306 1349 = some (.iload_n 3, 0, 0, 0) := rfl
theorem f306_1350 : fetch 306 1350 = some (.iconst 1, 0, 0, 0) := rfl
theorem f306_1351 : fetch 306 1351 = some (.iadd, 0, 0, 0) := rfl
theorem f306_1352 : fetch 306 1352 = some (.iaload, 0, 0, 0) := rfl
theorem f306_1353 : fetch 306 1353 = some (.invokevirtual 140, 143, 1, 0) := rfl
theorem f306_1356 : fetch 306 1356 = some (.aload_n 2, 0, 0, 0) := rfl
theorem f306_1357 : fetch 306 1357 = some (.aload_n 0, 0, 0, 0) := rfl
theorem f306_1358 : fetch 306 1358 = some (.iload_n 3, 0, 0, 0) := rfl
theorem f306_1359 : fetch 306 1359 = some (.iconst 1, 0, 0, 0) := rfl
theorem f306_1360 : fetch 306 1360 = some (.iadd, 0, 0, 0) := rfl
theorem f306_1361 : fetch 306 1361 = some (.iaload, 0, 0, 0) := rfl
theorem f306_1362 : fetch 306 1362 = some (.invokevirtual 143, 243, 1, 0) := rfl
theorem f306_1365 : fetch 306 1365 = some (.if_icmp .eq 755, 2120, 0, 0) := rfl
theorem f306_1368 : fetch 306 1368 = some (.iconst 0, 0, 0, 0) := rfl
theorem f306_1369 : fetch 306 1369 = some (.ireturn, 0, 0, 1) := rfl
theorem f306_1370 : fetch 306 1370 = some (.aload_n 1, 0, 0, 0) := rfl
theorem f306_1371 : fetch 306 1371 = some (.aload_n 0, 0, 0, 0) := rfl
theorem f306_1372 : fetch 306 1372 = some (.iload_n 3, 0, 0, 0) := rfl
theorem f306_1373 : fetch 306 1373 = some (.iconst 1, 0, 0, 0) := rfl
theorem f306_1374 : fetch 306 1374 = some (.iadd, 0, 0, 0) := rfl
theorem f306_1375 : fetch 306 1375 = some (.iaload, 0, 0, 0) := rfl
theorem f306_1376 : fetch 306 1376 = some (.invokevirtual 144, 144, 1, 0) := rfl
theorem f306_1379 : fetch 306 1379 = some (.aload_n 2, 0, 0, 0) := rfl
theorem f306_1380 : fetch 306 1380 = some (.aload_n 0, 0, 0, 0) := rfl
theorem f306_1381 : fetch 306 1381 = some (.iload_n 3, 0, 0, 0) := rfl
theorem f306_1382 : fetch 306 1382 = some (.iconst 1, 0, 0, 0) := rfl
theorem f306_1383 : fetch 306 1383 = some (.iadd, 0, 0, 0) := rfl
theorem f306_1384 : fetch 306 1384 = some (.iaload, 0, 0, 0) := rfl
theorem f306_1385 : fetch 306 1385 = some (.invokevirtual 147, 267, 1, 0) := rfl
theorem f306_1388 : fetch 306 1388 = some (.if_icmp .eq 732, 2120, 0, 0) := rfl
theorem f306_1391 : fetch 306 1391 = some (.iconst 0, 0, 0, 0) := rfl
theorem f306_1392 : fetch 306 1392 = some (.ireturn, 0, 0, 1) := rfl
theorem f306_1393 : fetch 306 1393 = some (.aload_n 1, 0, 0, 0) := rfl
theorem f306_1394 : fetch 306 1394 = some (.aload_n 0, 0, 0, 0) := rfl
theorem f306_1395 : fetch 306 1395 = some (.iload_n 3, 0, 0, 0) := rfl
theorem f306_1396 : fetch 306 1396 = some (.iconst 1, 0, 0, 0) := rfl
theorem f306_1397 : fetch 306 1397 = some (.iadd, 0, 0, 0) := rfl
theorem f306_1398 : fetch 306 1398 = some (.iaload, 0, 0, 0) := rfl
theorem f306_1399 : fetch 306 1399 = some (.invokevirtual 148, 145, 1, 0) := rfl
theorem f306_1402 : fetch 306 1402 = some (.aload_n 2, 0, 0, 0) := rfl
theorem f306_1403 : fetch 306 1403 = some (.aload_n 0, 0, 0, 0) := rfl
theorem f306_1404 : fetch 306 1404 = some (.iload_n 3, 0, 0, 0) := rfl
theorem f306_1405 : fetch 306 1405 = some (.iconst 1, 0, 0, 0) := rfl
theorem f306_1406 : fetch 306 1406 = some (.iadd, 0, 0, 0) := rfl
theorem f306_1407 : fetch 306 1407 = some (.iaload, 0, 0, 0) := rfl
theorem f306_1408 : fetch 306 1408 = some (.invokevirtual 151, 269, 1, 0) := rfl
theorem f306_1411 : fetch 306 1411 = some (.if_icmp .eq 709, 2120, 0, 0) := rfl
theorem f306_1414 : fetch 306 1414 = some (.iconst 0, 0, 0, 0) := rfl
theorem f306_1415 : fetch 306 1415 = some (.ireturn, 0, 0, 1) := rfl
theorem f306_1416 : fetch 306 1416 = some (.aload_n 1, 0, 0, 0) := rfl
theorem f306_1417 : fetch 306 1417 = some (.aload_n 0, 0, 0, 0) := rfl
theorem f306_1418 : fetch 306 1418 = some (.iload_n 3, 0, 0, 0) := rfl
theorem f306_1419 : fetch 306 1419 = some (.iconst 1, 0, 0, 0) := rfl
theorem f306_1420 : fetch 306 1420 = some (.iadd, 0, 0, 0) := rfl
theorem f306_1421 : fetch 306 1421 = some (.iaload, 0, 0, 0) := rfl
theorem f306_1422 : fetch 306 1422 = some (.aload_n 0, 0, 0, 0) := rfl
theorem f306_1423 : fetch 306 1423 = some (.iload_n 3, 0, 0, 0) := rfl
theorem f306_1424 : fetch 306 1424 = some (.iconst 2, 0, 0, 0) := rfl
theorem f306_1425 : fetch 306 1425 = some (.iadd, 0, 0, 0) := rfl
theorem f306_1426 : fetch 306 1426 = some (.iaload, 0, 0, 0) := rfl
theorem f306_1427 : fetch 306 1427 = some (.i2l, 0, 0, 0) := rfl
theorem f306_1428 : fetch 306 1428 = some (.bipush 32, 0, 0, 0) := rfl
theorem f306_1430 : fetch 306 1430 = some (.lshl, 0, 0, 0) := rfl
theorem f306_1431 : fetch 306 1431 = some (.aload_n 0, 0, 0, 0) := rfl
theorem f306_1432 : fetch 306 1432 = some (.iload_n 3, 0, 0, 0) := rfl
theorem f306_1433 : fetch 306 1433 = some (.iconst 3, 0, 0, 0) := rfl
theorem f306_1434 : fetch 306 1434 = some (.iadd, 0, 0, 0) := rfl
theorem f306_1435 : fetch 306 1435 = some (.iaload, 0, 0, 0) := rfl
theorem f306_1436 : fetch 306 1436 = some (.i2l, 0, 0, 0) := rfl
theorem f306_1437 : fetch 306 1437 = some (.ldc2_w 23, 0, 0, 4294967295) := rfl
theorem f306_1440 : fetch 306 1440 = some (.land, 0, 0, 0) := rfl
theorem f306_1441 : fetch 306 1441 = some (.lor, 0, 0, 0) := rfl
theorem f306_1442 : fetch 306 1442 = some (.aload_n 0, 0, 0, 0) := rfl
theorem f306_1443 : fetch 306 1443 = some (.iload_n 3, 0, 0, 0) := rfl
theorem f306_1444 : fetch 306 1444 = some (.iconst 4, 0, 0, 0) := rfl
theorem f306_1445 : fetch 306 1445 = some (.iadd, 0, 0, 0) := rfl
theorem f306_1446 : fetch 306 1446 = some (.iaload, 0, 0, 0) := rfl
theorem f306_1447 : fetch 306 1447 = some (.aload_n 0, 0, 0, 0) := rfl
theorem f306_1448 : fetch 306 1448 = some (.iload_n 3, 0, 0, 0) := rfl
theorem f306_1449 : fetch 306 1449 = some (.iconst 5, 0, 0, 0) := rfl
theorem f306_1450 : fetch 306 1450 = some (.iadd, 0, 0, 0) := rfl
theorem f306_1451 : fetch 306 1451 = some (.iaload, 0, 0, 0) := rfl
theorem f306_1452 : fetch 306 1452 = some (.invokevirtual 152, 146, 4, 0) := rfl
theorem f306_1455 : fetch 306 1455 = some (.aload_n 2, 0, 0, 0) := rfl
theorem f306_1456 : fetch 306 1456 = some (.aload_n 0, 0, 0, 0) := rfl
theorem f306_1457 : fetch 306 1457 = some (.iload_n 3, 0, 0, 0) := rfl
theorem f306_1458 : fetch 306 1458 = some (.iconst 1, 0, 0, 0) := rfl
theorem f306_1459 : fetch 306 1459 = some (.iadd, 0, 0, 0) := rfl
theorem f306_1460 : fetch 306 1460 = some (.iaload, 0, 0, 0) := rfl
theorem f306_1461 : fetch 306 1461 = some (.aload_n 0, 0, 0, 0) := rfl
theorem f306_1462 : fetch 306 1462 = some (.iload_n 3, 0, 0, 0) := rfl
theorem f306_1463 : fetch 306 1463 = some (.iconst 2, 0, 0, 0) := rfl
theorem f306_1464 : fetch 306 1464 = some (.iadd, 0, 0, 0) := rfl
theorem f306_1465 : fetch 306 1465 = some (.iaload, 0, 0, 0) := rfl
theorem f306_1466 : fetch 306 1466 = some (.i2l, 0, 0, 0) := rfl
theorem f306_1467 : fetch 306 1467 = some (.bipush 32, 0, 0, 0) := rfl
theorem f306_1469 : fetch 306 1469 = some (.lshl, 0, 0, 0) := rfl
theorem f306_1470 : fetch 306 1470 = some (.aload_n 0, 0, 0, 0) := rfl
theorem f306_1471 : fetch 306 1471 = some (.iload_n 3, 0, 0, 0) := rfl
theorem f306_1472 : fetch 306 1472 = some (.iconst 3, 0, 0, 0) := rfl
theorem f306_1473 : fetch 306 1473 = some (.iadd, 0, 0, 0) := rfl
theorem f306_1474 : fetch 306 1474 = some (.iaload, 0, 0, 0) := rfl
theorem f306_1475 : fetch 306 1475 = some (.i2l, 0, 0, 0) := rfl
theorem f306_1476 : fetch 306 1476 = some (.ldc2_w 23, 0, 0, 4294967295) := rfl
theorem f306_1479 : fetch 306 1479 = some (.land, 0, 0, 0) := rfl
theorem f306_1480 : fetch 306 1480 = some (.lor, 0, 0, 0) := rfl
theorem f306_1481 : fetch 306 1481 = some (.aload_n 0, 0, 0, 0) := rfl
theorem f306_1482 : fetch 306 1482 = some (.iload_n 3, 0, 0, 0) := rfl
theorem f306_1483 : fetch 306 1483 = some (.iconst 4, 0, 0, 0) := rfl
theorem f306_1484 : fetch 306 1484 = some (.iadd, 0, 0, 0) := rfl
theorem f306_1485 : fetch 306 1485 = some (.iaload, 0, 0, 0) := rfl
theorem f306_1486 : fetch 306 1486 = some (.aload_n 0, 0, 0, 0) := rfl
theorem f306_1487 : fetch 306 1487 = some (.iload_n 3, 0, 0, 0) := rfl
theorem f306_1488 : fetch 306 1488 = some (.iconst 5, 0, 0, 0) := rfl
theorem f306_1489 : fetch 306 1489 = some (.iadd, 0, 0, 0) := rfl
theorem f306_1490 : fetch 306 1490 = some (.iaload, 0, 0, 0) := rfl
theorem f306_1491 : fetch 306 1491 = some (.invokevirtual 156, 275, 4, 0) := rfl
theorem f306_1494 : fetch 306 1494 = some (.if_icmp .eq 626, 2120, 0, 0) := rfl
theorem f306_1497 : fetch 306 1497 = some (.iconst 0, 0, 0, 0) := rfl
theorem f306_1498 : fetch 306 1498 = some (.ireturn, 0, 0, 1) := rfl
theorem f306_1499 : fetch 306 1499 = some (.aload_n 1, 0, 0, 0) := rfl
theorem f306_1500 : fetch 306 1500 = some (.aload_n 0, 0, 0, 0) := rfl
theorem f306_1501 : fetch 306 1501 = some (.iload_n 3, 0, 0, 0) := rfl
theorem f306_1502 : fetch 306 1502 = some (.iconst 1, 0, 0, 0) := rfl
theorem f306_1503 : fetch 306 1503 = some (.iadd, 0, 0, 0) := rfl
theorem f306_1504 : fetch 306 1504 = some (.iaload, 0, 0, 0) := rfl
theorem f306_1505 : fetch 306 1505 = some (.aload_n 0, 0, 0, 0) := rfl
theorem f306_1506 : fetch 306 1506 = some (.iload_n 3, 0, 0, 0) := rfl
theorem f306_1507 : fetch 306 1507 = some (.iconst 2, 0, 0, 0) := rfl
theorem f306_1508 : fetch 306 1508 = some (.iadd, 0, 0, 0) := rfl
theorem f306_1509 : fetch 306 1509 = some (.iaload, 0, 0, 0) := rfl
theorem f306_1510 : fetch 306 1510 = some (.ifCond .eq 7, 1517, 0, 0) := rfl
theorem f306_1513 : fetch 306 1513 = some (.iconst 1, 0, 0, 0) := rfl
theorem f306_1514 : fetch 306 1514 = some (.goto 4, 1518, 0, 0) := rfl
theorem f306_1517 : fetch 306 1517 = some (.iconst 0, 0, 0, 0) := rfl
theorem f306_1518 : fetch 306 1518 = some (.invokevirtual 157, 147, 2, 0) := rfl
theorem f306_1521 : fetch 306 1521 = some (.aload_n 2, 0, 0, 0) := rfl
theorem f306_1522 : fetch 306 1522 = some (.aload_n 0, 0, 0, 0) := rfl
theorem f306_1523 : fetch 306 1523 = some (.iload_n 3, 0, 0, 0) := rfl
theorem f306_1524 : fetch 306 1524 = some (.iconst 1, 0, 0, 0) := rfl
theorem f306_1525 : fetch 306 1525 = some (.iadd, 0, 0, 0) := rfl
theorem f306_1526 : fetch 306 1526 = some (.iaload, 0, 0, 0) := rfl
theorem f306_1527 : fetch 306 1527 = some (.aload_n 0, 0, 0, 0) := rfl
theorem f306_1528 : fetch 306 1528 = some (.iload_n 3, 0, 0, 0) := rfl
theorem f306_1529 : fetch 306 1529 = some (.iconst 2, 0, 0, 0) := rfl
theorem f306_1530 : fetch 306 1530 = some (.iadd, 0, 0, 0) := rfl
theorem f306_1531 : fetch 306 1531 = some (.iaload, 0, 0, 0) := rfl
theorem f306_1532 : fetch 306 1532 = some (.ifCond .eq 7, 1539, 0, 0) := rfl
theorem f306_1535 : fetch 306 1535 = some (.iconst 1, 0, 0, 0) := rfl
theorem f306_1536 : fetch 306 1536 = some (.goto 4, 1540, 0, 0) := rfl
theorem f306_1539 : fetch 306 1539 = some (.iconst 0, 0, 0, 0) := rfl
theorem f306_1540 : fetch 306 1540 = some (.invokevirtual 161, 276, 2, 0) := rfl
theorem f306_1543 : fetch 306 1543 = some (.if_icmp .eq 577, 2120, 0, 0) := rfl
theorem f306_1546 : fetch 306 1546 = some (.iconst 0, 0, 0, 0) := rfl
theorem f306_1547 : fetch 306 1547 = some (.ireturn, 0, 0, 1) := rfl
theorem f306_1548 : fetch 306 1548 = some (.aload_n 1, 0, 0, 0) := rfl
theorem f306_1549 : fetch 306 1549 = some (.aload_n 0, 0, 0, 0) := rfl
theorem f306_1550 : fetch 306 1550 = some (.iload_n 3, 0, 0, 0) := rfl
theorem f306_1551 : fetch 306 1551 = some (.iconst 1, 0, 0, 0) := rfl
theorem f306_1552 : fetch 306 1552 = some (.iadd, 0, 0, 0) := rfl
theorem f306_1553 : fetch 306 1553 = some (.iaload, 0, 0, 0) := rfl
theorem f306_1554 : fetch 306 1554 = some (.aload_n 0, 0, 0, 0) := rfl
theorem f306_1555 : fetch 306 1555 = some (.iload_n 3, 0, 0, 0) := rfl
theorem f306_1556 : fetch 306 1556 = some (.iconst 2, 0, 0, 0) := rfl
theorem f306_1557 : fetch 306 1557 = some (.iadd, 0, 0, 0) := rfl
theorem f306_1558 : fetch 306 1558 = some (.iaload, 0, 0, 0) := rfl
theorem f306_1559 : fetch 306 1559 = some (.aload_n 0, 0, 0, 0) := rfl
theorem f306_1560 : fetch 306 1560 = some (.iload_n 3, 0, 0, 0) := rfl
theorem f306_1561 : fetch 306 1561 = some (.iconst 3, 0, 0, 0) := rfl
theorem f306_1562 : fetch 306 1562 = some (.iadd, 0, 0, 0) := rfl
theorem f306_1563 : fetch 306 1563 = some (.iaload, 0, 0, 0) := rfl
theorem f306_1564 : fetch 306 1564 = some (.invokevirtual 162, 148, 3, 0) := rfl
theorem f306_1567 : fetch 306 1567 = some (.aload_n 2, 0, 0, 0) := rfl
theorem f306_1568 : fetch 306 1568 = some (.aload_n 0, 0, 0, 0) := rfl
theorem f306_1569 : fetch 306 1569 = some (.iload_n 3, 0, 0, 0) := rfl
theorem f306_1570 : fetch 306 1570 = some (.iconst 1, 0, 0, 0) := rfl
theorem f306_1571 : fetch 306 1571 = some (.iadd, 0, 0, 0) := rfl
theorem f306_1572 : fetch 306 1572 = some (.iaload, 0, 0, 0) := rfl
theorem f306_1573 : fetch 306 1573 = some (.aload_n 0, 0, 0, 0) := rfl
theorem f306_1574 : fetch 306 1574 = some (.iload_n 3, 0, 0, 0) := rfl
theorem f306_1575 : fetch 306 1575 = some (.iconst 2, 0, 0, 0) := rfl
theorem f306_1576 : fetch 306 1576 = some (.iadd, 0, 0, 0) := rfl
theorem f306_1577 : fetch 306 1577 = some (.iaload, 0, 0, 0) := rfl
theorem f306_1578 : fetch 306 1578 = some (.aload_n 0, 0, 0, 0) := rfl
theorem f306_1579 : fetch 306 1579 = some (.iload_n 3, 0, 0, 0) := rfl
theorem f306_1580 : fetch 306 1580 = some (.iconst 3, 0, 0, 0) := rfl
theorem f306_1581 : fetch 306 1581 = some (.iadd, 0, 0, 0) := rfl
theorem f306_1582 : fetch 306 1582 = some (.iaload, 0, 0, 0) := rfl
theorem f306_1583 : fetch 306 1583 = some (.invokevirtual 165, 283, 3, 0) := rfl
theorem f306_1586 : fetch 306 1586 = some (.if_icmp .eq 534, 2120, 0, 0) := rfl
theorem f306_1589 : fetch 306 1589 = some (.iconst 0, 0, 0, 0) := rfl
theorem f306_1590 : fetch 306 1590 = some (.ireturn, 0, 0, 1) := rfl
theorem f306_1591 : fetch 306 1591 = some (.aload_n 1, 0, 0, 0) := rfl
theorem f306_1592 : fetch 306 1592 = some (.invokevirtual 166, 149, 0, 0) := rfl
theorem f306_1595 : fetch 306 1595 = some (.aload_n 2, 0, 0, 0) := rfl
theorem f306_1596 : fetch 306 1596 = some (.invokevirtual 169, 284, 0, 0) := rfl
theorem f306_1599 : fetch 306 1599 = some (.if_icmp .eq 521, 2120, 0, 0) := rfl
theorem f306_1602 : fetch 306 1602 = some (.iconst 0, 0, 0, 0) := rfl
theorem f306_1603 : fetch 306 1603 = some (.ireturn, 0, 0, 1) := rfl
theorem f306_1604 : fetch 306 1604 = some (.aload_n 1, 0, 0, 0) := rfl
theorem f306_1605 : fetch 306 1605 = some (.aload_n 0, 0, 0, 0) := rfl
theorem f306_1606 : fetch 306 1606 = some (.iload_n 3, 0, 0, 0) := rfl
theorem f306_1607 : fetch 306 1607 = some (.iconst 1, 0, 0, 0) := rfl
theorem f306_1608 : fetch 306 1608 = some (.iadd, 0, 0, 0) := rfl
theorem f306_1609 : fetch 306 1609 = some (.iaload, 0, 0, 0) := rfl
theorem f306_1610 : fetch 306 1610 = some (.aload_n 0, 0, 0, 0) := rfl
theorem f306_1611 : fetch 306 1611 = some (.iload_n 3, 0, 0, 0) := rfl
theorem f306_1612 : fetch 306 1612 = some (.iconst 2, 0, 0, 0) := rfl
theorem f306_1613 : fetch 306 1613 = some (.iadd, 0, 0, 0) := rfl
theorem f306_1614 : fetch 306 1614 = some (.iaload, 0, 0, 0) := rfl
theorem f306_1615 : fetch 306 1615 = some (.invokevirtual 170, 150, 2, 0) := rfl
theorem f306_1618 : fetch 306 1618 = some (.aload_n 2, 0, 0, 0) := rfl
theorem f306_1619 : fetch 306 1619 = some (.aload_n 0, 0, 0, 0) := rfl
theorem f306_1620 : fetch 306 1620 = some (.iload_n 3, 0, 0, 0) := rfl
theorem f306_1621 : fetch 306 1621 = some (.iconst 1, 0, 0, 0) := rfl
theorem f306_1622 : fetch 306 1622 = some (.iadd, 0, 0, 0) := rfl
theorem f306_1623 : fetch 306 1623 = some (.iaload, 0, 0, 0) := rfl
theorem f306_1624 : fetch 306 1624 = some (.aload_n 0, 0, 0, 0) := rfl
theorem f306_1625 : fetch 306 1625 = some (.iload_n 3, 0, 0, 0) := rfl
theorem f306_1626 : fetch 306 1626 = some (.iconst 2, 0, 0, 0) := rfl
theorem f306_1627 : fetch 306 1627 = some (.iadd, 0, 0, 0) := rfl
theorem f306_1628 : fetch 306 1628 = some (.iaload, 0, 0, 0) := rfl
theorem f306_1629 : fetch 306 1629 = some (.invokevirtual 174, 285, 2, 0) := rfl
theorem f306_1632 : fetch 306 1632 = some (.if_icmp .eq 488, 2120, 0, 0) := rfl
theorem f306_1635 : fetch 306 1635 = some (.iconst 0, 0, 0, 0) := rfl
theorem f306_1636 : fetch 306 1636 = some (.ireturn, 0, 0, 1) := rfl
theorem f306_1637 : fetch 306 1637 = some (.aload_n 1, 0, 0, 0) := rfl
theorem f306_1638 : fetch 306 1638 = some (.aload_n 0, 0, 0, 0) := rfl
theorem f306_1639 : fetch 306 1639 = some (.iload_n 3, 0, 0, 0) := rfl
theorem f306_1640 : fetch 306 1640 = some (.iconst 1, 0, 0, 0) := rfl
theorem f306_1641 : fetch 306 1641 = some (.iadd, 0, 0, 0) := rfl
theorem f306_1642 : fetch 306 1642 = some (.iaload, 0, 0, 0) := rfl
theorem f306_1643 : fetch 306 1643 = some (.invokevirtual 175, 151, 1, 0) := rfl
theorem f306_1646 : fetch 306 1646 = some (.aload_n 2, 0, 0, 0) := rfl
theorem f306_1647 : fetch 306 1647 = some (.aload_n 0, 0, 0, 0) := rfl
theorem f306_1648 : fetch 306 1648 = some (.iload_n 3, 0, 0, 0) := rfl
theorem f306_1649 : fetch 306 1649 = some (.iconst 1, 0, 0, 0) := rfl
theorem f306_1650 : fetch 306 1650 = some (.iadd, 0, 0, 0) := rfl
theorem f306_1651 : fetch 306 1651 = some (.iaload, 0, 0, 0) := rfl
theorem f306_1652 : fetch 306 1652 = some (.invokevirtual 179, 287, 1, 0) := rfl
theorem f306_1655 : fetch 306 1655 = some (.lcmp, 0, 0, 0) := rfl
theorem f306_1656 : fetch 306 1656 = some (.ifCond .eq 464, 2120, 0, 0) := rfl
theorem f306_1659 : fetch 306 1659 = some (.iconst 0, 0, 0, 0) := rfl
theorem f306_1660 : fetch 306 1660 = some (.ireturn, 0, 0, 1) := rfl
theorem f306_1661 : fetch 306 1661 = some (.aload_n 1, 0, 0, 0) := rfl
theorem f306_1662 : fetch 306 1662 = some (.invokevirtual 180, 152, 0, 0) := rfl
theorem f306_1665 : fetch 306 1665 = some (.aload_n 2, 0, 0, 0) := rfl
theorem f306_1666 : fetch 306 1666 = some (.invokevirtual 183, 288, 0, 0) := rfl
theorem f306_1669 : fetch 306 1669 = some (.if_icmp .eq 451, 2120, 0, 0) := rfl
theorem f306_1672 : fetch 306 1672 = some (.iconst 0, 0, 0, 0) := rfl
theorem f306_1673 : fetch 306 1673 = some (.ireturn, 0, 0, 1) := rfl
theorem f306_1674 : fetch 306 1674 = some (.aload_n 1, 0, 0, 0) := rfl
theorem f306_1675 : fetch 306 1675 = some (.aload_n 0, 0, 0, 0) := rfl
theorem f306_1676 : fetch 306 1676 = some (.iload_n 3, 0, 0, 0) := rfl
theorem f306_1677 : fetch 306 1677 = some (.iconst 1, 0, 0, 0) := rfl
theorem f306_1678 : fetch 306 1678 = some (.iadd, 0, 0, 0) := rfl
theorem f306_1679 : fetch 306 1679 = some (.iaload, 0, 0, 0) := rfl
theorem f306_1680 : fetch 306 1680 = some (.aload_n 0, 0, 0, 0) := rfl
theorem f306_1681 : fetch 306 1681 = some (.iload_n 3, 0, 0, 0) := rfl
theorem f306_1682 : fetch 306 1682 = some (.iconst 2, 0, 0, 0) := rfl
theorem f306_1683 : fetch 306 1683 = some (.iadd, 0, 0, 0) := rfl
theorem f306_1684 : fetch 306 1684 = some (.iaload, 0, 0, 0) := rfl
theorem f306_1685 : fetch 306 1685 = some (.aload_n 0, 0, 0, 0) := rfl
theorem f306_1686 : fetch 306 1686 = some (.iload_n 3, 0, 0, 0) := rfl
theorem f306_1687 : fetch 306 1687 = some (.iconst 3, 0, 0, 0) := rfl
theorem f306_1688 : fetch 306 1688 = some (.iadd, 0, 0, 0) := rfl
theorem f306_1689 : fetch 306 1689 = some (.iaload, 0, 0, 0) := rfl
theorem f306_1690 : fetch 306 1690 = some (.invokevirtual 184, 153, 3, 0) := rfl
theorem f306_1693 : fetch 306 1693 = some (.aload_n 2, 0, 0, 0) := rfl
theorem f306_1694 : fetch 306 1694 = some (.aload_n 0, 0, 0, 0) := rfl
theorem f306_1695 : fetch 306 1695 = some (.iload_n 3, 0, 0, 0) := rfl
theorem f306_1696 : fetch 306 1696 = some (.iconst 1, 0, 0, 0) := rfl
theorem f306_1697 : fetch 306 1697 = some (.iadd, 0, 0, 0) := rfl
theorem f306_1698 : fetch 306 1698 = some (.iaload, 0, 0, 0) := rfl
theorem f306_1699 : fetch 306 1699 = some (.aload_n 0, 0, 0, 0) := rfl
theorem f306_1700 : fetch 306 1700 = some (.iload_n 3, 0, 0, 0) := rfl
theorem f306_1701 : fetch 306 1701 = some (.iconst 2, 0, 0, 0) := rfl
theorem f306_1702 : fetch 306 1702 = some (.iadd, 0, 0, 0) := rfl
theorem f306_1703 : fetch 306 1703 = some (.iaload, 0, 0, 0) := rfl
theorem f306_1704 : fetch 306 1704 = some (.aload_n 0, 0, 0, 0) := rfl
theorem f306_1705 : fetch 306 1705 = some (.iload_n 3, 0, 0, 0) := rfl
theorem f306_1706 : fetch 306 1706 = some (.iconst 3, 0, 0, 0) := rfl
theorem f306_1707 : fetch 306 1707 = some (.iadd, 0, 0, 0) := rfl
theorem f306_1708 : fetch 306 1708 = some (.iaload, 0, 0, 0) := rfl
theorem f306_1709 : fetch 306 1709 = some (.invokevirtual 187, 289, 3, 0) := rfl
theorem f306_1712 : fetch 306 1712 = some (.if_icmp .eq 408, 2120, 0, 0) := rfl
theorem f306_1715 : fetch 306 1715 = some (.iconst 0, 0, 0, 0) := rfl
theorem f306_1716 : fetch 306 1716 = some (.ireturn, 0, 0, 1) := rfl
theorem f306_1717 : fetch 306 1717 = some (.aload_n 1, 0, 0, 0) := rfl
theorem f306_1718 : fetch 306 1718 = some (.aload_n 0, 0, 0, 0) := rfl
theorem f306_1719 : fetch 306 1719 = some (.iload_n 3, 0, 0, 0) := rfl
theorem f306_1720 : fetch 306 1720 = some (.iconst 1, 0, 0, 0) := rfl
theorem f306_1721 : fetch 306 1721 = some (.iadd, 0, 0, 0) := rfl
theorem f306_1722 : fetch 306 1722 = some (.iaload, 0, 0, 0) := rfl
theorem f306_1723 : fetch 306 1723 = some (.aload_n 0, 0, 0, 0) := rfl
theorem f306_1724 : fetch 306 1724 = some (.iload_n 3, 0, 0, 0) := rfl
theorem f306_1725 : fetch 306 1725 = some (.iconst 2, 0, 0, 0) := rfl
theorem f306_1726 : fetch 306 1726 = some (.iadd, 0, 0, 0) := rfl
theorem f306_1727 : fetch 306 1727 = some (.iaload, 0, 0, 0) := rfl
theorem f306_1728 : fetch 306 1728 = some (.aload_n 0, 0, 0, 0) := rfl
theorem f306_1729 : fetch 306 1729 = some (.iload_n 3, 0, 0, 0) := rfl
theorem f306_1730 : fetch 306 1730 = some (.iconst 3, 0, 0, 0) := rfl
theorem f306_1731 : fetch 306 1731 = some (.iadd, 0, 0, 0) := rfl
theorem f306_1732 : fetch 306 1732 = some (.iaload, 0, 0, 0) := rfl
theorem f306_1733 : fetch 306 1733 = some (.invokevirtual 188, 154, 3, 0) := rfl
theorem f306_1736 : fetch 306 1736 = some (.aload_n 2, 0, 0, 0) := rfl
theorem f306_1737 : fetch 306 1737 = some (.aload_n 0, 0, 0, 0) := rfl
theorem f306_1738 : fetch 306 1738 = some (.iload_n 3, 0, 0, 0) := rfl
theorem f306_1739 : fetch 306 1739 = some (.iconst 1, 0, 0, 0) := rfl
theorem f306_1740 : fetch 306 1740 = some (.iadd, 0, 0, 0) := rfl
theorem f306_1741 : fetch 306 1741 = some (.iaload, 0, 0, 0) := rfl
theorem f306_1742 : fetch 306 1742 = some (.aload_n 0, 0, 0, 0) := rfl
theorem f306_1743 : fetch 306 1743 = some (.iload_n 3, 0, 0, 0) := rfl
theorem f306_1744 : fetch 306 1744 = some (.iconst 2, 0, 0, 0) := rfl
theorem f306_1745 : fetch 306 1745 = some (.iadd, 0, 0, 0) := rfl
theorem f306_1746 : fetch 306 1746 = some (.iaload, 0, 0, 0) := rfl
theorem f306_1747 : fetch 306 1747 = some (.aload_n 0, 0, 0, 0) := rfl
theorem f306_1748 : fetch 306 1748 = some (.iload_n 3, 0, 0, 0) := rfl
theorem f306_1749 : fetch 306 1749 = some (.iconst 3, 0, 0, 0) := rfl
theorem f306_1750 : fetch 306 1750 = some (.iadd, 0, 0, 0) := rfl
theorem f306_1751 : fetch 306 1751 = some (.iaload, 0, 0, 0) := rfl
theorem f306_1752 : fetch 306 1752 = some (.invokevirtual 191, 291, 3, 0) := rfl
theorem f306_1755 : fetch 306 1755 = some (.if_icmp .eq 365, 2120, 0, 0) := rfl
theorem f306_1758 : fetch 306 1758 = some (.iconst 0, 0, 0, 0) := rfl
theorem f306_1759 : fetch 306 1759 = some (.ireturn, 0, 0, 1) := rfl
theorem f306_1760 : fetch 306 1760 = some (.aload_n 1, 0, 0, 0) := rfl
theorem f306_1761 : fetch 306 1761 = some (.aload_n 0, 0, 0, 0) := rfl
theorem f306_1762 : fetch 306 1762 = some (.iload_n 3, 0, 0, 0) := rfl
theorem f306_1763 : fetch 306 1763 = some (.iconst 1, 0, 0, 0) := rfl
theorem f306_1764 : fetch 306 1764 = some (.iadd, 0, 0, 0) := rfl
theorem f306_1765 : fetch 306 1765 = some (.iaload, 0, 0, 0) := rfl
theorem f306_1766 : fetch 306 1766 = some (.aload_n 0, 0, 0, 0) := rfl
theorem f306_1767 : fetch 306 1767 = some (.iload_n 3, 0, 0, 0) := rfl
theorem f306_1768 : fetch 306 1768 = some (.iconst 2, 0, 0, 0) := rfl
theorem f306_1769 : fetch 306 1769 = some (.iadd, 0, 0, 0) := rfl
theorem f306_1770 : fetch 306 1770 = some (.iaload, 0, 0, 0) := rfl
theorem f306_1771 : fetch 306 1771 = some (.invokevirtual 192, 155, 2, 0) := rfl
theorem f306_1774 : fetch 306 1774 = some (.aload_n 2, 0, 0, 0) := rfl
theorem f306_1775 : fetch 306 1775 = some (.aload_n 0, 0, 0, 0) := rfl
theorem f306_1776 : fetch 306 1776 = some (.iload_n 3, 0, 0, 0) := rfl
theorem f306_1777 : fetch 306 1777 = some (.iconst 1, 0, 0, 0) := rfl
theorem f306_1778 : fetch 306 1778 = some (.iadd, 0, 0, 0) := rfl
theorem f306_1779 : fetch 306 1779 = some (.iaload, 0, 0, 0) := rfl
theorem f306_1780 : fetch 306 1780 = some (.aload_n 0, 0, 0, 0) := rfl
theorem f306_1781 : fetch 306 1781 = some (.iload_n 3, 0, 0, 0) := rfl
theorem f306_1782 : fetch 306 1782 = some (.iconst 2, 0, 0, 0) := rfl
theorem f306_1783 : fetch 306 1783 = some (.iadd, 0, 0, 0) := rfl
theorem f306_1784 : fetch 306 1784 = some (.iaload, 0, 0, 0) := rfl
theorem f306_1785 : fetch 306 1785 = some (.invokevirtual 195, 292, 2, 0) := rfl
theorem f306_1788 : fetch 306 1788 = some (.if_icmp .eq 332, 2120, 0, 0) := rfl
theorem f306_1791 : fetch 306 1791 = some (.iconst 0, 0, 0, 0) := rfl
theorem f306_1792 : fetch 306 1792 = some (.ireturn, 0, 0, 1) := rfl
theorem f306_1793 : fetch 306 1793 = some (.aload_n 1, 0, 0, 0) := rfl
theorem f306_1794 : fetch 306 1794 = some (.aload_n 0, 0, 0, 0) := rfl
theorem f306_1795 : fetch 306 1795 = some (.iload_n 3, 0, 0, 0) := rfl
theorem f306_1796 : fetch 306 1796 = some (.iconst 1, 0, 0, 0) := rfl
theorem f306_1797 : fetch 306 1797 = some (.iadd, 0, 0, 0) := rfl
theorem f306_1798 : fetch 306 1798 = some (.iaload, 0, 0, 0) := rfl
theorem f306_1799 : fetch 306 1799 = some (.aload_n 0, 0, 0, 0) := rfl
theorem f306_1800 : fetch 306 1800 = some (.iload_n 3, 0, 0, 0) := rfl
theorem f306_1801 : fetch 306 1801 = some (.iconst 2, 0, 0, 0) := rfl
theorem f306_1802 : fetch 306 1802 = some (.iadd, 0, 0, 0) := rfl
theorem f306_1803 : fetch 306 1803 = some (.iaload, 0, 0, 0) := rfl
theorem f306_1804 : fetch 306 1804 = some (.invokevirtual 196, 156, 2, 0) := rfl
theorem f306_1807 : fetch 306 1807 = some (.aload_n 2, 0, 0, 0) := rfl
theorem f306_1808 : fetch 306 1808 = some (.aload_n 0, 0, 0, 0) := rfl
theorem f306_1809 : fetch 306 1809 = some (.iload_n 3, 0, 0, 0) := rfl
theorem f306_1810 : fetch 306 1810 = some (.iconst 1, 0, 0, 0) := rfl
theorem f306_1811 : fetch 306 1811 = some (.iadd, 0, 0, 0) := rfl
theorem f306_1812 : fetch 306 1812 = some (.iaload, 0, 0, 0) := rfl
theorem f306_1813 : fetch 306 1813 = some (.aload_n 0, 0, 0, 0) := rfl
theorem f306_1814 : fetch 306 1814 = some (.iload_n 3, 0, 0, 0) := rfl
theorem f306_1815 : fetch 306 1815 = some (.iconst 2, 0, 0, 0) := rfl
theorem f306_1816 : fetch 306 1816 = some (.iadd, 0, 0, 0) := rfl
theorem f306_1817 : fetch 306 1817 = some (.iaload, 0, 0, 0) := rfl
theorem f306_1818 : fetch 306 1818 = some (.invokevirtual 199, 296, 2, 0) := rfl
theorem f306_1821 : fetch 306 1821 = some (.if_icmp .eq 299, 2120, 0, 0) := rfl
theorem f306_1824 : fetch 306 1824 = some (.iconst 0, 0, 0, 0) := rfl
theorem f306_1825 : fetch 306 1825 = some (.ireturn, 0, 0, 1) := rfl
theorem f306_1826 : fetch 306 1826 = some (.aload_n 1, 0, 0, 0) := rfl
theorem f306_1827 : fetch 306 1827 = some (.aload_n 0, 0, 0, 0) := rfl
theorem f306_1828 : fetch 306 1828 = some (.iload_n 3, 0, 0, 0) := rfl
theorem f306_1829 : fetch 306 1829 = some (.iconst 1, 0, 0, 0) := rfl
theorem f306_1830 : fetch 306 1830 = some (.iadd, 0, 0, 0) := rfl
theorem f306_1831 : fetch 306 1831 = some (.iaload, 0, 0, 0) := rfl
theorem f306_1832 : fetch 306 1832 = some (.aload_n 0, 0, 0, 0) := rfl
theorem f306_1833 : fetch 306 1833 = some (.iload_n 3, 0, 0, 0) := rfl
theorem f306_1834 : fetch 306 1834 = some (.iconst 2, 0, 0, 0) := rfl
theorem f306_1835 : fetch 306 1835 = some (.iadd, 0, 0, 0) := rfl
theorem f306_1836 : fetch 306 1836 = some (.iaload, 0, 0, 0) := rfl
theorem f306_1837 : fetch 306 1837 = some (.invokevirtual 200, 157, 2, 0) := rfl
theorem f306_1840 : fetch 306 1840 = some (.aload_n 2, 0, 0, 0) := rfl
theorem f306_1841 : fetch 306 1841 = some (.aload_n 0, 0, 0, 0) := rfl
theorem f306_1842 : fetch 306 1842 = some (.iload_n 3, 0, 0, 0) := rfl
theorem f306_1843 : fetch 306 1843 = some (.iconst 1, 0, 0, 0) := rfl
theorem f306_1844 : fetch 306 1844 = some (.iadd, 0, 0, 0) := rfl
theorem f306_1845 : fetch 306 1845 = some (.iaload, 0, 0, 0) := rfl
theorem f306_1846 : fetch 306 1846 = some (.aload_n 0, 0, 0, 0) := rfl
theorem f306_1847 : fetch 306 1847 = some (.iload_n 3, 0, 0, 0) := rfl
theorem f306_1848 : fetch 306 1848 = some (.iconst 2, 0, 0, 0) := rfl
theorem f306_1849 : fetch 306 1849 = some (.iadd, 0, 0, 0) := rfl
theorem f306_1850 : fetch 306 1850 = some (.iaload, 0, 0, 0) := rfl
theorem f306_1851 : fetch 306 1851 = some (.invokevirtual 203, 294, 2, 0) := rfl
theorem f306_1854 : fetch 306 1854 = some (.if_icmp .eq 266, 2120, 0, 0) := rfl
theorem f306_1857 : fetch 306 1857 = some (.iconst 0, 0, 0, 0) := rfl
theorem f306_1858 : fetch 306 1858 = some (.ireturn, 0, 0, 1) := rfl
theorem f306_1859 : fetch 306 1859 = some (.aload_n 1, 0, 0, 0) := rfl
theorem f306_1860 : fetch 306 1860 = some (.aload_n 0, 0, 0, 0) := rfl
theorem f306_1861 : fetch 306 1861 = some (.iload_n 3, 0, 0, 0) := rfl
theorem f306_1862 : fetch 306 1862 = some (.iconst 1, 0, 0, 0) := rfl
theorem f306_1863 : fetch 306 1863 = some (.iadd, 0, 0, 0) := rfl
theorem f306_1864 : fetch 306 1864 = some (.iaload, 0, 0, 0) := rfl
theorem f306_1865 : fetch 306 1865 = some (.aload_n 0, 0, 0, 0) := rfl
theorem f306_1866 : fetch 306 1866 = some (.iload_n 3, 0, 0, 0) := rfl
theorem f306_1867 : fetch 306 1867 = some (.iconst 2, 0, 0, 0) := rfl
theorem f306_1868 : fetch 306 1868 = some (.iadd, 0, 0, 0) := rfl
theorem f306_1869 : fetch 306 1869 = some (.iaload, 0, 0, 0) := rfl
theorem f306_1870 : fetch 306 1870 = some (.ifCond .eq 7, 1877, 0, 0) := rfl
theorem f306_1873 : fetch 306 1873 = some (.iconst 1, 0, 0, 0) := rfl
theorem f306_1874 : fetch 306 1874 = some (.goto 4, 1878, 0, 0) := rfl
theorem f306_1877 : fetch 306 1877 = some (.iconst 0, 0, 0, 0) := rfl
theorem f306_1878 : fetch 306 1878 = some (.invokevirtual 204, 158, 2, 0) := rfl
theorem f306_1881 : fetch 306 1881 = some (.aload_n 2, 0, 0, 0) := rfl
theorem f306_1882 : fetch 306 1882 = some (.aload_n 0, 0, 0, 0) := rfl
theorem f306_1883 : fetch 306 1883 = some (.iload_n 3, 0, 0, 0) := rfl
theorem f306_1884 : fetch 306 1884 = some (.iconst 1, 0, 0, 0) := rfl
theorem f306_1885 : fetch 306 1885 = some (.iadd, 0, 0, 0) := rfl
theorem f306_1886 : fetch 306 1886 = some (.iaload, 0, 0, 0) := rfl
theorem f306_1887 : fetch 306 1887 = some (.aload_n 0, 0, 0, 0) := rfl
theorem f306_1888 : fetch 306 1888 = some (.iload_n 3, 0, 0, 0) := rfl
theorem f306_1889 : fetch 306 1889 = some (.iconst 2, 0, 0, 0) := rfl
theorem f306_1890 : fetch 306 1890 = some (.iadd, 0, 0, 0) := rfl
theorem f306_1891 : fetch 306 1891 = some (.iaload, 0, 0, 0) := rfl
theorem f306_1892 : fetch 306 1892 = some (.ifCond .eq 7, 1899, 0, 0) := rfl
theorem f306_1895 : fetch 306 1895 = some (.iconst 1, 0, 0, 0) := rfl
theorem f306_1896 : fetch 306 1896 = some (.goto 4, 1900, 0, 0) := rfl
theorem f306_1899 : fetch 306 1899 = some (.iconst 0, 0, 0, 0) := rfl
theorem f306_1900 : fetch 306 1900 = some (.invokevirtual 208, 297, 2, 0) := rfl
theorem f306_1903 : fetch 306 1903 = some (.if_icmp .eq 217, 2120, 0, 0) := rfl
theorem f306_1906 : fetch 306 1906 = some (.iconst 0, 0, 0, 0) := rfl
theorem f306_1907 : fetch 306 1907 = some (.ireturn, 0, 0, 1) := rfl
theorem f306_1908 : fetch 306 1908 = some (.aload_n 1, 0, 0, 0) := rfl
theorem f306_1909 : fetch 306 1909 = some (.aload_n 0, 0, 0, 0) := rfl
theorem f306_1910 : fetch 306 1910 = some (.iload_n 3, 0, 0, 0) := rfl
theorem f306_1911 : fetch 306 1911 = some (.iconst 1, 0, 0, 0) := rfl
theorem f306_1912 : fetch 306 1912 = some (.iadd, 0, 0, 0) := rfl
theorem f306_1913 : fetch 306 1913 = some (.iaload, 0, 0, 0) := rfl
theorem f306_1914 : fetch 306 1914 = some (.invokevirtual 209, 159, 1, 0) := rfl
theorem f306_1917 : fetch 306 1917 = some (.aload_n 2, 0, 0, 0) := rfl
theorem f306_1918 : fetch 306 1918 = some (.aload_n 0, 0, 0, 0) := rfl
theorem f306_1919 : fetch 306 1919 = some (.iload_n 3, 0, 0, 0) := rfl
theorem f306_1920 : fetch 306 1920 = some (.iconst 1, 0, 0, 0) := rfl
theorem f306_1921 : fetch 306 1921 = some (.iadd, 0, 0, 0) := rfl
theorem f306_1922 : fetch 306 1922 = some (.iaload, 0, 0, 0) := rfl
theorem f306_1923 : fetch 306 1923 = some (.invokevirtual 212, 298, 1, 0) := rfl
theorem f306_1926 : fetch 306 1926 = some (.if_icmp .eq 194, 2120, 0, 0) := rfl
theorem f306_1929 : fetch 306 1929 = some (.iconst 0, 0, 0, 0) := rfl
theorem f306_1930 : fetch 306 1930 = some (.ireturn, 0, 0, 1) := rfl
theorem f306_1931 : fetch 306 1931 = some (.aload_n 1, 0, 0, 0) := rfl
theorem f306_1932 : fetch 306 1932 = some (.invokevirtual 213, 160, 0, 0) := rfl
theorem f306_1935 : fetch 306 1935 = some (.aload_n 2, 0, 0, 0) := rfl
theorem f306_1936 : fetch 306 1936 = some (.invokevirtual 216, 299, 0, 0) := rfl
theorem f306_1939 : fetch 306 1939 = some (.if_icmp .eq 181, 2120, 0, 0) := rfl
theorem f306_1942 : fetch 306 1942 = some (.iconst 0, 0, 0, 0) := rfl
theorem f306_1943 : fetch 306 1943 = some (.ireturn, 0, 0, 1) := rfl
theorem f306_1944 : fetch 306 1944 = some (.aload_n 1, 0, 0, 0) := rfl
theorem f306_1945 : fetch 306 1945 = some (.aload_n 0, 0, 0, 0) := rfl
theorem f306_1946 : fetch 306 1946 = some (.iload_n 3, 0, 0, 0) := rfl
theorem f306_1947 : fetch 306 1947 = some (.iconst 1, 0, 0, 0) := rfl
theorem f306_1948 : fetch 306 1948 = some (.iadd, 0, 0, 0) := rfl
theorem f306_1949 : fetch 306 1949 = some (.iaload, 0, 0, 0) := rfl
theorem f306_1950 : fetch 306 1950 = some (.aload_n 0, 0, 0, 0) := rfl
theorem f306_1951 : fetch 306 1951 = some (.iload_n 3, 0, 0, 0) := rfl
theorem f306_1952 : fetch 306 1952 = some (.iconst 2, 0, 0, 0) := rfl
theorem f306_1953 : fetch 306 1953 = some (.iadd, 0, 0, 0) := rfl
theorem f306_1954 : fetch 306 1954 = some (.iaload, 0, 0, 0) := rfl
theorem f306_1955 : fetch 306 1955 = some (.invokevirtual 217, 161, 2, 0) := rfl
theorem f306_1958 : fetch 306 1958 = some (.aload_n 2, 0, 0, 0) := rfl
theorem f306_1959 : fetch 306 1959 = some (.aload_n 0, 0, 0, 0) := rfl
theorem f306_1960 : fetch 306 1960 = some (.iload_n 3, 0, 0, 0) := rfl
theorem f306_1961 : fetch 306 1961 = some (.iconst 1, 0, 0, 0) := rfl
theorem f306_1962 : fetch 306 1962 = some (.iadd, 0, 0, 0) := rfl
theorem f306_1963 : fetch 306 1963 = some (.iaload, 0, 0, 0) := rfl
theorem f306_1964 : fetch 306 1964 = some (.aload_n 0, 0, 0, 0) := rfl
theorem f306_1965 : fetch 306 1965 = some (.iload_n 3, 0, 0, 0) := rfl
theorem f306_1966 : fetch 306 1966 = some (.iconst 2, 0, 0, 0) := rfl
theorem f306_1967 : fetch 306 1967 = some (.iadd, 0, 0, 0) := rfl
theorem f306_1968 : fetch 306 1968 = some (.iaload, 0, 0, 0) := rfl
theorem f306_1969 : fetch 306 1969 = some (.invokevirtual 220, 300, 2, 0) := rfl
theorem f306_1972 : fetch 306 1972 = some (.if_icmp .eq 148, 2120, 0, 0) := rfl
theorem f306_1975 : fetch 306 1975 = some (.iconst 0, 0, 0, 0) := rfl
theorem f306_1976 : fetch 306 1976 = some (.ireturn, 0, 0, 1) := rfl
theorem f306_1977 : fetch 306 1977 = some (.aload_n 1, 0, 0, 0) := rfl
theorem f306_1978 : fetch 306 1978 = some (.aload_n 0, 0, 0, 0) := rfl
theorem f306_1979 : fetch 306 1979 = some (.iload_n 3, 0, 0, 0) := rfl
theorem f306_1980 : fetch 306 1980 = some (.iconst 1, 0, 0, 0) := rfl
theorem f306_1981 : fetch 306 1981 = some (.iadd, 0, 0, 0) := rfl
theorem f306_1982 : fetch 306 1982 = some (.iaload, 0, 0, 0) := rfl
theorem f306_1983 : fetch 306 1983 = some (.aload_n 0, 0, 0, 0) := rfl
theorem f306_1984 : fetch 306 1984 = some (.iload_n 3, 0, 0, 0) := rfl
theorem f306_1985 : fetch 306 1985 = some (.iconst 2, 0, 0, 0) := rfl
theorem f306_1986 : fetch 306 1986 = some (.iadd, 0, 0, 0) := rfl
theorem f306_1987 : fetch 306 1987 = some (.iaload, 0, 0, 0) := rfl
theorem f306_1988 : fetch 306 1988 = some (.invokevirtual 221, 162, 2, 0) := rfl
theorem f306_1991 : fetch 306 1991 = some (.aload_n 2, 0, 0, 0) := rfl
theorem f306_1992 : fetch 306 1992 = some (.aload_n 0, 0, 0, 0) := rfl
theorem f306_1993 : fetch 306 1993 = some (.iload_n 3, 0, 0, 0) := rfl
theorem f306_1994 : fetch 306 1994 = some (.iconst 1, 0, 0, 0) := rfl
theorem f306_1995 : fetch 306 1995 = some (.iadd, 0, 0, 0) := rfl
theorem f306_1996 : fetch 306 1996 = some (.iaload, 0, 0, 0) := rfl
theorem f306_1997 : fetch 306 1997 = some (.aload_n 0, 0, 0, 0) := rfl
theorem f306_1998 : fetch 306 1998 = some (.iload_n 3, 0, 0, 0) := rfl
theorem f306_1999 : fetch 306 1999 = some (.iconst 2, 0, 0, 0) := rfl
theorem f306_2000 : fetch 306 2000 = some (.iadd, 0, 0, 0) := rfl
theorem f306_2001 : fetch 306 2001 = some (.iaload, 0, 0, 0) := rfl
theorem f306_2002 : fetch 306 2002 = some (.invokevirtual 224, 301, 2, 0) := rfl
theorem f306_2005 : fetch 306 2005 = some (.if_icmp .eq 115, 2120, 0, 0) := rfl
theorem f306_2008 : fetch 306 2008 = some (.iconst 0, 0, 0, 0) := rfl
theorem f306_2009 : fetch 306 2009 = some (.ireturn, 0, 0, 1) := rfl
theorem f306_2010 : fetch 306 2010 = some (.aload_n 1, 0, 0, 0) := rfl
theorem f306_2011 : fetch 306 2011 = some (.aload_n 0, 0, 0, 0) := rfl
theorem f306_2012 : fetch 306 2012 = some (.iload_n 3, 0, 0, 0) := rfl
theorem f306_2013 : fetch 306 2013 = some (.iconst 1, 0, 0, 0) := rfl
theorem f306_2014 : fetch 306 2014 = some (.iadd, 0, 0, 0) := rfl
theorem f306_2015 : fetch 306 2015 = some (.iaload, 0, 0, 0) := rfl
theorem f306_2016 : fetch 306 2016 = some (.aload_n 0, 0, 0, 0) := rfl
theorem f306_2017 : fetch 306 2017 = some (.iload_n 3, 0, 0, 0) := rfl
theorem f306_2018 : fetch 306 2018 = some (.iconst 2, 0, 0, 0) := rfl
theorem f306_2019 : fetch 306 2019 = some (.iadd, 0, 0, 0) := rfl
theorem f306_2020 : fetch 306 2020 = some (.iaload, 0, 0, 0) := rfl
theorem f306_2021 : fetch 306 2021 = some (.i2l, 0, 0, 0) := rfl
theorem f306_2022 : fetch 306 2022 = some (.bipush 32, 0, 0, 0) := rfl
theorem f306_2024 : fetch 306 2024 = some (.lshl, 0, 0, 0) := rfl
theorem f306_2025 : fetch 306 2025 = some (.aload_n 0, 0, 0, 0) := rfl
theorem f306_2026 : fetch 306 2026 = some (.iload_n 3, 0, 0, 0) := rfl
theorem f306_2027 : fetch 306 2027 = some (.iconst 3, 0, 0, 0) := rfl
theorem f306_2028 : fetch 306 2028 = some (.iadd, 0, 0, 0) := rfl
theorem f306_2029 : fetch 306 2029 = some (.iaload, 0, 0, 0) := rfl
theorem f306_2030 : fetch 306 2030 = some (.i2l, 0, 0, 0) := rfl
theorem f306_2031 : fetch 306 2031 = some (.ldc2_w 23, 0, 0, 4294967295) := rfl
theorem f306_2034 : fetch 306 2034 = some (.land, 0, 0, 0) := rfl
theorem f306_2035 : fetch 306 2035 = some (.lor, 0, 0, 0) := rfl
theorem f306_2036 : fetch 306 2036 = some (.invokevirtual 225, 163, 2, 0) := rfl
theorem f306_2039 : fetch 306 2039 = some (.aload_n 2, 0, 0, 0) := rfl
theorem f306_2040 : fetch 306 2040 = some (.aload_n 0, 0, 0, 0) := rfl
theorem f306_2041 : fetch 306 2041 = some (.iload_n 3, 0, 0, 0) := rfl
theorem f306_2042 : fetch 306 2042 = some (.iconst 1, 0, 0, 0) := rfl
theorem f306_2043 : fetch 306 2043 = some (.iadd, 0, 0, 0) := rfl
theorem f306_2044 : fetch 306 2044 = some (.iaload, 0, 0, 0) := rfl
theorem f306_2045 : fetch 306 2045 = some (.aload_n 0, 0, 0, 0) := rfl
theorem f306_2046 : fetch 306 2046 = some (.iload_n 3, 0, 0, 0) := rfl
theorem f306_2047 : fetch 306 2047 = some (.iconst 2, 0, 0, 0) := rfl
theorem f306_2048 : fetch 306 2048 = some (.iadd, 0, 0, 0) := rfl
theorem f306_2049 : fetch 306 2049 = some (.iaload, 0, 0, 0) := rfl
theorem f306_2050 : fetch 306 2050 = some (.i2l, 0, 0, 0) := rfl
theorem f306_2051 : fetch 306 2051 = some (.bipush 32, 0, 0, 0) := rfl
theorem f306_2053 : fetch 306 2053 = some (.lshl, 0, 0, 0) := rfl
theorem f306_2054 : fetch 306 2054 = some (.aload_n 0, 0, 0, 0) := rfl
theorem f306_2055 : fetch 306 2055 = some (.iload_n 3, 0, 0, 0) := rfl
theorem f306_2056 : fetch 306 2056 = some (.iconst 3, 0, 0, 0) := rfl
theorem f306_2057 : fetch 306 2057 = some (.iadd, 0, 0, 0) := rfl
theorem f306_2058 : fetch 306 2058 = some (.iaload, 0, 0, 0) := rfl
theorem f306_2059 : fetch 306 2059 = some (.i2l, 0, 0, 0) := rfl
theorem f306_2060 : fetch 306 2060 = some (.ldc2_w 23, 0, 0, 4294967295) := rfl
theorem f306_2063 : fetch 306 2063 = some (.land, 0, 0, 0) := rfl
theorem f306_2064 : fetch 306 2064 = some (.lor, 0, 0, 0) := rfl
theorem f306_2065 : fetch 306 2065 = some (.invokevirtual 229, 303, 2, 0) := rfl
theorem f306_2068 : fetch 306 2068 = some (.lcmp, 0, 0, 0) := rfl
theorem f306_2069 : fetch 306 2069 = some (.ifCond .eq 51, 2120, 0, 0) := rfl
theorem f306_2072 : fetch 306 2072 = some (.iconst 0, 0, 0, 0) := rfl
theorem f306_2073 : fetch 306 2073 = some (.ireturn, 0, 0, 1) := rfl
theorem f306_2074 : fetch 306 2074 = some (.aload_n 1, 0, 0, 0) := rfl
theorem f306_2075 : fetch 306 2075 = some (.aload_n 0, 0, 0, 0) := rfl
theorem f306_2076 : fetch 306 2076 = some (.iload_n 3, 0, 0, 0) := rfl
theorem f306_2077 : fetch 306 2077 = some (.iconst 1, 0, 0, 0) := rfl
theorem f306_2078 : fetch 306 2078 = some (.iadd, 0, 0, 0) := rfl
theorem f306_2079 : fetch 306 2079 = some (.iaload, 0, 0, 0) := rfl
theorem f306_2080 : fetch 306 2080 = some (.invokevirtual 230, 164, 1, 0) := rfl
theorem f306_2083 : fetch 306 2083 = some (.aload_n 2, 0, 0, 0) := rfl
theorem f306_2084 : fetch 306 2084 = some (.aload_n 0, 0, 0, 0) := rfl
theorem f306_2085 : fetch 306 2085 = some (.iload_n 3, 0, 0, 0) := rfl
theorem f306_2086 : fetch 306 2086 = some (.iconst 1, 0, 0, 0) := rfl
theorem f306_2087 : fetch 306 2087 = some (.iadd, 0, 0, 0) := rfl
theorem f306_2088 : fetch 306 2088 = some (.iaload, 0, 0, 0) := rfl
theorem f306_2089 : fetch 306 2089 = some (.invokevirtual 233, 304, 1, 0) := rfl
theorem f306_2092 : fetch 306 2092 = some (.if_icmp .eq 28, 2120, 0, 0) := rfl
theorem f306_2095 : fetch 306 2095 = some (.iconst 0, 0, 0, 0) := rfl
theorem f306_2096 : fetch 306 2096 = some (.ireturn, 0, 0, 1) := rfl
theorem f306_2097 : fetch 306 2097 = some (.aload_n 1, 0, 0, 0) := rfl
theorem f306_2098 : fetch 306 2098 = some (.aload_n 0, 0, 0, 0) := rfl
theorem f306_2099 : fetch 306 2099 = some (.iload_n 3, 0, 0, 0) := rfl
theorem f306_2100 : fetch 306 2100 = some (.iconst 1, 0, 0, 0) := rfl
theorem f306_2101 : fetch 306 2101 = some (.iadd, 0, 0, 0) := rfl
theorem f306_2102 : fetch 306 2102 = some (.iaload, 0, 0, 0) := rfl
theorem f306_2103 : fetch 306 2103 = some (.invokevirtual 234, 165, 1, 0) := rfl
theorem f306_2106 : fetch 306 2106 = some (.aload_n 2, 0, 0, 0) := rfl
theorem f306_2107 : fetch 306 2107 = some (.aload_n 0, 0, 0, 0) := rfl
theorem f306_2108 : fetch 306 2108 = some (.iload_n 3, 0, 0, 0) := rfl
theorem f306_2109 : fetch 306 2109 = some (.iconst 1, 0, 0, 0) := rfl
theorem f306_2110 : fetch 306 2110 = some (.iadd, 0, 0, 0) := rfl
theorem f306_2111 : fetch 306 2111 = some (.iaload, 0, 0, 0) := rfl
theorem f306_2112 : fetch 306 2112 = some (.invokevirtual 237, 305, 1, 0) := rfl
theorem f306_2115 : fetch 306 2115 = some (.if_icmp .eq 5, 2120, 0, 0) := rfl
theorem f306_2118 : fetch 306 2118 = some (.iconst 0, 0, 0, 0) := rfl
theorem f306_2119 : fetch 306 2119 = some (.ireturn, 0, 0, 1) := rfl
theorem f306_2120 : fetch 306 2120 = some (.iinc 3 8, 0, 0, 0) := rfl
theorem f306_2123 : fetch 306 2123 = some (.goto (-2105), 18, 0, 0) := rfl
theorem f306_2126 : fetch 306 2126 = some (.iconst 1, 0, 0, 0) := rfl
theorem f306_2127 : fetch 306 2127 = some (.ireturn, 0, 0, 1) := rfl
set_option maxRecDepth 100000 in
set_option maxHeartbeats 4000000 in
theorem p306_j2120_ok (d : Nat) (F : Nat) (K18 : HS → Int32 → Option (Int32 × HS)) (hK18 : ∀ (h : HS) (w : WF h) (u3 : Int32) (r : Int32 × HS), K18 h u3 = some r → ex (d + 66) 306 (18, [some (.ref (1)), some (.ref (32)), some (.ref (86)), some (.int (u3))], [], h) = some (some (.int (r.1)), r.2)) (h : HS) (w : WF h) (v3 : Int32) (r : Int32 × HS) (hp : p306_j2120 F K18 h v3 = some r) : ex (d + 66) 306 (2120, [some (.ref (1)), some (.ref (32)), some (.ref (86)), some (.int (v3))], [], h) = some (some (.int (r.1)), r.2) := by
  unfold p306_j2120 at hp
  refine e_iinc (ls2 := [some (.ref (1)), some (.ref (32)), some (.ref (86)), some (.int ((v3) + 8))]) f306_2120 (by decide) rfl rfl ?_
  refine e_goto f306_2123 ?_
  refine ex_weak (ls := [some (.ref (1)), some (.ref (32)), some (.ref (86)), some (.int ((v3) + 8))]) (le2_ok ⟨Or.inr rfl, Or.inr rfl, Or.inr rfl, Or.inr rfl, trivial⟩) ?_
  exact hK18 (h) (w) ((v3) + 8) _ hp
set_option maxRecDepth 100000 in
set_option maxHeartbeats 4000000 in
theorem p306_j2120_w (F : Nat) (K18 : HS → Int32 → Option (Int32 × HS)) (hK18 : ∀ (h : HS) (w : WF h) (u3 : Int32) (r : Int32 × HS), K18 h u3 = some r → WF r.2) (h : HS) (w : WF h) (v3 : Int32) (r : Int32 × HS) (hp : p306_j2120 F K18 h v3 = some r) : WF r.2 := by
  unfold p306_j2120 at hp
  exact hK18 (h) (w) ((v3) + 8) _ hp
set_option maxRecDepth 100000 in
set_option maxHeartbeats 4000000 in
theorem p306_j1540_ok (d : Nat) (F : Nat) (K18 : HS → Int32 → Option (Int32 × HS)) (hK18 : ∀ (h : HS) (w : WF h) (u3 : Int32) (r : Int32 × HS), K18 h u3 = some r → ex (d + 66) 306 (18, [some (.ref (1)), some (.ref (32)), some (.ref (86)), some (.int (u3))], [], h) = some (some (.int (r.1)), r.2)) (h : HS) (w : WF h) (v3 : Int32) (s0 : Int32) (s1 : Int32) (s3 : Int32) (r : Int32 × HS) (hp : p306_j1540 F K18 h v3 s0 s1 s3 = some r) : ex (d + 66) 306 (1540, [some (.ref (1)), some (.ref (32)), some (.ref (86)), some (.int (v3))], [.int (s0), .int (s1), .ref (86), .int (s3)], h) = some (some (.int (r.1)), r.2) := by
  unfold p306_j1540 at hp
  obtain ⟨r528, hr529, hp⟩ := bind_some hp
  try dsimp only at hp
  refine e_callV (st := [.int (s3)]) (o := 86) (as := [.int (s1), .int (s0)]) f306_1540 (by decide) rfl rfl (Nat.le_of_ble_eq_true rfl) (WF.t w 86 (by decide)) (Nat.le_of_ble_eq_true rfl) (p276_ok (d + 64) (h) w (s1) (s0) r528 hr529) ?_
  show ex _ 306 (1543, [some (.ref (1)), some (.ref (32)), some (.ref (86)), some (.int (v3))], [.int (r528.1), .int (s3)], r528.2) = _
  by_cases hc530 : (s3) = ((r528.1) : Int32)
  · rw [if_pos hc530] at hp
    refine e_icmp_eq_t f306_1543 hc530 ?_
    refine ex_weak (ls := [some (.ref (1)), some (.ref (32)), some (.ref (86)), some (.int (v3))]) (le2_ok ⟨Or.inr rfl, Or.inr rfl, Or.inr rfl, Or.inr rfl, trivial⟩) ?_
    exact p306_j2120_ok d F (K18) (hK18) (r528.2) ((p276_w (h) w (s1) (s0)  r528 hr529)) (v3) _ hp
  · rw [if_neg hc530] at hp
    refine e_icmp_eq_f f306_1543 hc530 ?_
    refine e_iconst (v := 0) f306_1546 (by decide) ?_
    have hp := Option.some.inj hp
    subst hp
    exact e_ireturn f306_1547 (by decide)
set_option maxRecDepth 100000 in
set_option maxHeartbeats 4000000 in
theorem p306_j1540_w (F : Nat) (K18 : HS → Int32 → Option (Int32 × HS)) (hK18 : ∀ (h : HS) (w : WF h) (u3 : Int32) (r : Int32 × HS), K18 h u3 = some r → WF r.2) (h : HS) (w : WF h) (v3 : Int32) (s0 : Int32) (s1 : Int32) (s3 : Int32) (r : Int32 × HS) (hp : p306_j1540 F K18 h v3 s0 s1 s3 = some r) : WF r.2 := by
  unfold p306_j1540 at hp
  obtain ⟨r528, hr529, hp⟩ := bind_some hp
  try dsimp only at hp
  by_cases hc530 : (s3) = ((r528.1) : Int32)
  · rw [if_pos hc530] at hp
    exact p306_j2120_w F (K18) (hK18) (r528.2) ((p276_w (h) w (s1) (s0)  r528 hr529)) (v3) _ hp
  · rw [if_neg hc530] at hp
    have hp := Option.some.inj hp
    subst hp
    exact ((p276_w (h) w (s1) (s0)  r528 hr529))
set_option maxRecDepth 100000 in
set_option maxHeartbeats 4000000 in
theorem p306_j1900_ok (d : Nat) (F : Nat) (K18 : HS → Int32 → Option (Int32 × HS)) (hK18 : ∀ (h : HS) (w : WF h) (u3 : Int32) (r : Int32 × HS), K18 h u3 = some r → ex (d + 66) 306 (18, [some (.ref (1)), some (.ref (32)), some (.ref (86)), some (.int (u3))], [], h) = some (some (.int (r.1)), r.2)) (h : HS) (w : WF h) (v3 : Int32) (s0 : Int32) (s1 : Int32) (s3 : Int32) (r : Int32 × HS) (hp : p306_j1900 F K18 h v3 s0 s1 s3 = some r) : ex (d + 66) 306 (1900, [some (.ref (1)), some (.ref (32)), some (.ref (86)), some (.int (v3))], [.int (s0), .int (s1), .ref (86), .int (s3)], h) = some (some (.int (r.1)), r.2) := by
  unfold p306_j1900 at hp
  obtain ⟨r531, hr532, hp⟩ := bind_some hp
  try dsimp only at hp
  refine e_callV (st := [.int (s3)]) (o := 86) (as := [.int (s1), .int (s0)]) f306_1900 (by decide) rfl rfl (Nat.le_of_ble_eq_true rfl) (WF.t w 86 (by decide)) (Nat.le_of_ble_eq_true rfl) (p297_ok (d + 64) (h) w (s1) (s0) r531 hr532) ?_
  show ex _ 306 (1903, [some (.ref (1)), some (.ref (32)), some (.ref (86)), some (.int (v3))], [.int (r531.1), .int (s3)], r531.2) = _
  by_cases hc533 : (s3) = ((r531.1) : Int32)
  · rw [if_pos hc533] at hp
    refine e_icmp_eq_t f306_1903 hc533 ?_
    refine ex_weak (ls := [some (.ref (1)), some (.ref (32)), some (.ref (86)), some (.int (v3))]) (le2_ok ⟨Or.inr rfl, Or.inr rfl, Or.inr rfl, Or.inr rfl, trivial⟩) ?_
    exact p306_j2120_ok d F (K18) (hK18) (r531.2) ((p297_w (h) w (s1) (s0)  r531 hr532)) (v3) _ hp
  · rw [if_neg hc533] at hp
    refine e_icmp_eq_f f306_1903 hc533 ?_
    refine e_iconst (v := 0) f306_1906 (by decide) ?_
    have hp := Option.some.inj hp
    subst hp
    exact e_ireturn f306_1907 (by decide)
set_option maxRecDepth 100000 in
set_option maxHeartbeats 4000000 in
theorem p306_j1900_w (F : Nat) (K18 : HS → Int32 → Option (Int32 × HS)) (hK18 : ∀ (h : HS) (w : WF h) (u3 : Int32) (r : Int32 × HS), K18 h u3 = some r → WF r.2) (h : HS) (w : WF h) (v3 : Int32) (s0 : Int32) (s1 : Int32) (s3 : Int32) (r : Int32 × HS) (hp : p306_j1900 F K18 h v3 s0 s1 s3 = some r) : WF r.2 := by
  unfold p306_j1900 at hp
  obtain ⟨r531, hr532, hp⟩ := bind_some hp
  try dsimp only at hp
  by_cases hc533 : (s3) = ((r531.1) : Int32)
  · rw [if_pos hc533] at hp
    exact p306_j2120_w F (K18) (hK18) (r531.2) ((p297_w (h) w (s1) (s0)  r531 hr532)) (v3) _ hp
  · rw [if_neg hc533] at hp
    have hp := Option.some.inj hp
    subst hp
    exact ((p297_w (h) w (s1) (s0)  r531 hr532))
set_option maxRecDepth 100000 in
set_option maxHeartbeats 4000000 in
theorem p306_j1518_ok (d : Nat) (F : Nat) (K18 : HS → Int32 → Option (Int32 × HS)) (hK18 : ∀ (h : HS) (w : WF h) (u3 : Int32) (r : Int32 × HS), K18 h u3 = some r → ex (d + 66) 306 (18, [some (.ref (1)), some (.ref (32)), some (.ref (86)), some (.int (u3))], [], h) = some (some (.int (r.1)), r.2)) (h : HS) (w : WF h) (v3 : Int32) (s0 : Int32) (s1 : Int32) (r : Int32 × HS) (hp : p306_j1518 F K18 h v3 s0 s1 = some r) : ex (d + 66) 306 (1518, [some (.ref (1)), some (.ref (32)), some (.ref (86)), some (.int (v3))], [.int (s0), .int (s1), .ref (32)], h) = some (some (.int (r.1)), r.2) := by
  unfold p306_j1518 at hp
  obtain ⟨r518, hr519, hp⟩ := bind_some hp
  try dsimp only at hp
  refine e_callV (st := []) (o := 32) (as := [.int (s1), .int (s0)]) f306_1518 (by decide) rfl rfl (Nat.le_of_ble_eq_true rfl) (WF.t w 32 (by decide)) (Nat.le_of_ble_eq_true rfl) (p147_ok (d + 63) (h) w (s1) (s0) r518 hr519) ?_
  show ex _ 306 (1521, [some (.ref (1)), some (.ref (32)), some (.ref (86)), some (.int (v3))], [.int (r518.1)], r518.2) = _
  refine e_aload_n f306_1521 rfl ?_
  refine e_aload_n f306_1522 rfl ?_
  refine e_iload_n f306_1523 rfl ?_
  refine e_iconst (v := 1) f306_1524 (by decide) ?_
  refine e_iadd f306_1525 ?_
  by_cases hg520 : ((v3) + (1)) < (0 : Int32) ∨ hN (r518.2) (1) ≤ ((v3) + (1)).toNatClampNeg
  · rw [if_pos hg520] at hp; cases hp
  rw [if_neg hg520] at hp
  refine e_iaload f306_1526 (Or.inr (WF.x (p147_w (h) w (s1) (s0)  r518 hr519) 1 (by decide))) rfl hg520 ?_
  refine e_aload_n f306_1527 rfl ?_
  refine e_iload_n f306_1528 rfl ?_
  refine e_iconst (v := 2) f306_1529 (by decide) ?_
  refine e_iadd f306_1530 ?_
  by_cases hg521 : ((v3) + (2)) < (0 : Int32) ∨ hN (r518.2) (1) ≤ ((v3) + (2)).toNatClampNeg
  · rw [if_pos hg521] at hp; cases hp
  rw [if_neg hg521] at hp
  refine e_iaload f306_1531 (Or.inr (WF.x (p147_w (h) w (s1) (s0)  r518 hr519) 1 (by decide))) rfl hg521 ?_
  by_cases hc522 : (hI (r518.2) (1) ((v3) + (2)).toNatClampNeg) = (0 : Int32)
  · rw [if_pos hc522] at hp
    refine e_if_eq_t f306_1532 hc522 ?_
    refine e_iconst (v := 0) f306_1539 (by decide) ?_
    refine ex_weak (ls := [some (.ref (1)), some (.ref (32)), some (.ref (86)), some (.int (v3))]) (le2_ok ⟨Or.inr rfl, Or.inr rfl, Or.inr rfl, Or.inr rfl, trivial⟩) ?_
    exact p306_j1540_ok d F (K18) (hK18) (r518.2) ((p147_w (h) w (s1) (s0)  r518 hr519)) (v3) (0) (hI (r518.2) (1) ((v3) + (1)).toNatClampNeg) (r518.1) _ hp
  · rw [if_neg hc522] at hp
    refine e_if_eq_f f306_1532 hc522 ?_
    refine e_iconst (v := 1) f306_1535 (by decide) ?_
    refine e_goto f306_1536 ?_
    refine ex_weak (ls := [some (.ref (1)), some (.ref (32)), some (.ref (86)), some (.int (v3))]) (le2_ok ⟨Or.inr rfl, Or.inr rfl, Or.inr rfl, Or.inr rfl, trivial⟩) ?_
    exact p306_j1540_ok d F (K18) (hK18) (r518.2) ((p147_w (h) w (s1) (s0)  r518 hr519)) (v3) (1) (hI (r518.2) (1) ((v3) + (1)).toNatClampNeg) (r518.1) _ hp
set_option maxRecDepth 100000 in
set_option maxHeartbeats 4000000 in
theorem p306_j1518_w (F : Nat) (K18 : HS → Int32 → Option (Int32 × HS)) (hK18 : ∀ (h : HS) (w : WF h) (u3 : Int32) (r : Int32 × HS), K18 h u3 = some r → WF r.2) (h : HS) (w : WF h) (v3 : Int32) (s0 : Int32) (s1 : Int32) (r : Int32 × HS) (hp : p306_j1518 F K18 h v3 s0 s1 = some r) : WF r.2 := by
  unfold p306_j1518 at hp
  obtain ⟨r518, hr519, hp⟩ := bind_some hp
  try dsimp only at hp
  by_cases hg520 : ((v3) + (1)) < (0 : Int32) ∨ hN (r518.2) (1) ≤ ((v3) + (1)).toNatClampNeg
  · rw [if_pos hg520] at hp; cases hp
  rw [if_neg hg520] at hp
  by_cases hg521 : ((v3) + (2)) < (0 : Int32) ∨ hN (r518.2) (1) ≤ ((v3) + (2)).toNatClampNeg
  · rw [if_pos hg521] at hp; cases hp
  rw [if_neg hg521] at hp
  by_cases hc522 : (hI (r518.2) (1) ((v3) + (2)).toNatClampNeg) = (0 : Int32)
  · rw [if_pos hc522] at hp
    exact p306_j1540_w F (K18) (hK18) (r518.2) ((p147_w (h) w (s1) (s0)  r518 hr519)) (v3) (0) (hI (r518.2) (1) ((v3) + (1)).toNatClampNeg) (r518.1) _ hp
  · rw [if_neg hc522] at hp
    exact p306_j1540_w F (K18) (hK18) (r518.2) ((p147_w (h) w (s1) (s0)  r518 hr519)) (v3) (1) (hI (r518.2) (1) ((v3) + (1)).toNatClampNeg) (r518.1) _ hp
set_option maxRecDepth 100000 in
set_option maxHeartbeats 4000000 in
theorem p306_j1878_ok (d : Nat) (F : Nat) (K18 : HS → Int32 → Option (Int32 × HS)) (hK18 : ∀ (h : HS) (w : WF h) (u3 : Int32) (r : Int32 × HS), K18 h u3 = some r → ex (d + 66) 306 (18, [some (.ref (1)), some (.ref (32)), some (.ref (86)), some (.int (u3))], [], h) = some (some (.int (r.1)), r.2)) (h : HS) (w : WF h) (v3 : Int32) (s0 : Int32) (s1 : Int32) (r : Int32 × HS) (hp : p306_j1878 F K18 h v3 s0 s1 = some r) : ex (d + 66) 306 (1878, [some (.ref (1)), some (.ref (32)), some (.ref (86)), some (.int (v3))], [.int (s0), .int (s1), .ref (32)], h) = some (some (.int (r.1)), r.2) := by
  unfold p306_j1878 at hp
  obtain ⟨r523, hr524, hp⟩ := bind_some hp
  try dsimp only at hp
  refine e_callV (st := []) (o := 32) (as := [.int (s1), .int (s0)]) f306_1878 (by decide) rfl rfl (Nat.le_of_ble_eq_true rfl) (WF.t w 32 (by decide)) (Nat.le_of_ble_eq_true rfl) (p158_ok (d + 63) (h) w (s1) (s0) r523 hr524) ?_
  show ex _ 306 (1881, [some (.ref (1)), some (.ref (32)), some (.ref (86)), some (.int (v3))], [.int (r523.1)], r523.2) = _
  refine e_aload_n f306_1881 rfl ?_
  refine e_aload_n f306_1882 rfl ?_
  refine e_iload_n f306_1883 rfl ?_
  refine e_iconst (v := 1) f306_1884 (by decide) ?_
  refine e_iadd f306_1885 ?_
  by_cases hg525 : ((v3) + (1)) < (0 : Int32) ∨ hN (r523.2) (1) ≤ ((v3) + (1)).toNatClampNeg
  · rw [if_pos hg525] at hp; cases hp
  rw [if_neg hg525] at hp
  refine e_iaload f306_1886 (Or.inr (WF.x (p158_w (h) w (s1) (s0)  r523 hr524) 1 (by decide))) rfl hg525 ?_
  refine e_aload_n f306_1887 rfl ?_
  refine e_iload_n f306_1888 rfl ?_
  refine e_iconst (v := 2) f306_1889 (by decide) ?_
  refine e_iadd f306_1890 ?_
  by_cases hg526 : ((v3) + (2)) < (0 : Int32) ∨ hN (r523.2) (1) ≤ ((v3) + (2)).toNatClampNeg
  · rw [if_pos hg526] at hp; cases hp
  rw [if_neg hg526] at hp
  refine e_iaload f306_1891 (Or.inr (WF.x (p158_w (h) w (s1) (s0)  r523 hr524) 1 (by decide))) rfl hg526 ?_
  by_cases hc527 : (hI (r523.2) (1) ((v3) + (2)).toNatClampNeg) = (0 : Int32)
  · rw [if_pos hc527] at hp
    refine e_if_eq_t f306_1892 hc527 ?_
    refine e_iconst (v := 0) f306_1899 (by decide) ?_
    refine ex_weak (ls := [some (.ref (1)), some (.ref (32)), some (.ref (86)), some (.int (v3))]) (le2_ok ⟨Or.inr rfl, Or.inr rfl, Or.inr rfl, Or.inr rfl, trivial⟩) ?_
    exact p306_j1900_ok d F (K18) (hK18) (r523.2) ((p158_w (h) w (s1) (s0)  r523 hr524)) (v3) (0) (hI (r523.2) (1) ((v3) + (1)).toNatClampNeg) (r523.1) _ hp
  · rw [if_neg hc527] at hp
    refine e_if_eq_f f306_1892 hc527 ?_
    refine e_iconst (v := 1) f306_1895 (by decide) ?_
    refine e_goto f306_1896 ?_
    refine ex_weak (ls := [some (.ref (1)), some (.ref (32)), some (.ref (86)), some (.int (v3))]) (le2_ok ⟨Or.inr rfl, Or.inr rfl, Or.inr rfl, Or.inr rfl, trivial⟩) ?_
    exact p306_j1900_ok d F (K18) (hK18) (r523.2) ((p158_w (h) w (s1) (s0)  r523 hr524)) (v3) (1) (hI (r523.2) (1) ((v3) + (1)).toNatClampNeg) (r523.1) _ hp
set_option maxRecDepth 100000 in
set_option maxHeartbeats 4000000 in
theorem p306_j1878_w (F : Nat) (K18 : HS → Int32 → Option (Int32 × HS)) (hK18 : ∀ (h : HS) (w : WF h) (u3 : Int32) (r : Int32 × HS), K18 h u3 = some r → WF r.2) (h : HS) (w : WF h) (v3 : Int32) (s0 : Int32) (s1 : Int32) (r : Int32 × HS) (hp : p306_j1878 F K18 h v3 s0 s1 = some r) : WF r.2 := by
  unfold p306_j1878 at hp
  obtain ⟨r523, hr524, hp⟩ := bind_some hp
  try dsimp only at hp
  by_cases hg525 : ((v3) + (1)) < (0 : Int32) ∨ hN (r523.2) (1) ≤ ((v3) + (1)).toNatClampNeg
  · rw [if_pos hg525] at hp; cases hp
  rw [if_neg hg525] at hp
  by_cases hg526 : ((v3) + (2)) < (0 : Int32) ∨ hN (r523.2) (1) ≤ ((v3) + (2)).toNatClampNeg
  · rw [if_pos hg526] at hp; cases hp
  rw [if_neg hg526] at hp
  by_cases hc527 : (hI (r523.2) (1) ((v3) + (2)).toNatClampNeg) = (0 : Int32)
  · rw [if_pos hc527] at hp
    exact p306_j1900_w F (K18) (hK18) (r523.2) ((p158_w (h) w (s1) (s0)  r523 hr524)) (v3) (0) (hI (r523.2) (1) ((v3) + (1)).toNatClampNeg) (r523.1) _ hp
  · rw [if_neg hc527] at hp
    exact p306_j1900_w F (K18) (hK18) (r523.2) ((p158_w (h) w (s1) (s0)  r523 hr524)) (v3) (1) (hI (r523.2) (1) ((v3) + (1)).toNatClampNeg) (r523.1) _ hp
set_option maxRecDepth 100000 in
set_option maxHeartbeats 4000000 in
theorem p306_L18_ok (d : Nat) (F : Nat) : ∀ (n : Nat) (h : HS) (w : WF h) (v3 : Int32) (r : Int32 × HS), p306_L18 F n h v3 = some r → ex (d + 66) 306 (18, [some (.ref (1)), some (.ref (32)), some (.ref (86)), some (.int (v3))], [], h) = some (some (.int (r.1)), r.2) := by
  intro n
  induction n with
  | zero => intro h w v3 r hp; cases hp
  | succ n ih =>
    intro h w v3 r hp
    unfold p306_L18 at hp
    refine e_iload_n f306_18 rfl ?_
    refine e_aload_n f306_19 rfl ?_
    refine e_arraylength (v := Int32.ofNat (hN (h) (1))) f306_20 (Or.inr (WF.x w 1 (by decide))) rfl ?_
    refine e_bipush (v := 8) f306_21 (by decide) ?_
    refine e_isub f306_23 ?_
    by_cases hc1 : ((Int32.ofNat (hN (h) (1))) - (8)) < ((v3) : Int32)
    · rw [if_pos hc1] at hp
      refine e_icmp_gt_t f306_24 hc1 ?_
      refine e_iconst (v := 1) f306_2126 (by decide) ?_
      have hp := Option.some.inj hp
      subst hp
      exact e_ireturn f306_2127 (by decide)
    · rw [if_neg hc1] at hp
      refine e_icmp_gt_f f306_24 hc1 ?_
      refine e_aload_n f306_27 rfl ?_
      refine e_iload_n f306_28 rfl ?_
      by_cases hg2 : (v3) < (0 : Int32) ∨ hN (h) (1) ≤ (v3).toNatClampNeg
      · rw [if_pos hg2] at hp; cases hp
      rw [if_neg hg2] at hp
      refine e_iaload f306_29 (Or.inr (WF.x w 1 (by decide))) rfl hg2 ?_
      refine e_bipush (v := 63) f306_30 (by decide) ?_
      refine e_iand f306_32 ?_
      by_cases hc3 : ((hI (h) (1) (v3).toNatClampNeg) &&& (63)) = (0 : Int32)
      · rw [if_pos hc3] at hp
        refine e_sw (t := 256) f306_33 (by rw [hc3]; decide) (by rw [hc3]; decide) ?_
        refine e_aload_n f306_256 rfl ?_
        refine e_aload_n f306_257 rfl ?_
        refine e_iload_n f306_258 rfl ?_
        refine e_iconst (v := 1) f306_259 (by decide) ?_
        refine e_iadd f306_260 ?_
        by_cases hg4 : ((v3) + (1)) < (0 : Int32) ∨ hN (h) (1) ≤ ((v3) + (1)).toNatClampNeg
        · rw [if_pos hg4] at hp; cases hp
        rw [if_neg hg4] at hp
        refine e_iaload f306_261 (Or.inr (WF.x w 1 (by decide))) rfl hg4 ?_
        obtain ⟨r5, hr6, hp⟩ := bind_some hp
        try dsimp only at hp
        refine e_callV (st := []) (o := 32) (as := [.int (hI (h) (1) ((v3) + (1)).toNatClampNeg)]) f306_262 (by decide) rfl rfl (Nat.le_of_ble_eq_true rfl) (WF.t w 32 (by decide)) (Nat.le_of_ble_eq_true rfl) (p114_ok (d + 64) (h) w (hI (h) (1) ((v3) + (1)).toNatClampNeg) r5 hr6) ?_
        show ex _ 306 (265, [some (.ref (1)), some (.ref (32)), some (.ref (86)), some (.int (v3))], [.int (r5.1)], r5.2) = _
        refine e_aload_n f306_265 rfl ?_
        refine e_aload_n f306_266 rfl ?_
        refine e_iload_n f306_267 rfl ?_
        refine e_iconst (v := 1) f306_268 (by decide) ?_
        refine e_iadd f306_269 ?_
        by_cases hg7 : ((v3) + (1)) < (0 : Int32) ∨ hN (r5.2) (1) ≤ ((v3) + (1)).toNatClampNeg
        · rw [if_pos hg7] at hp; cases hp
        rw [if_neg hg7] at hp
        refine e_iaload f306_270 (Or.inr (WF.x (p114_w (h) w (hI (h) (1) ((v3) + (1)).toNatClampNeg)  r5 hr6) 1 (by decide))) rfl hg7 ?_
        obtain ⟨r8, hr9, hp⟩ := bind_some hp
        try dsimp only at hp
        refine e_callV (st := [.int (r5.1)]) (o := 86) (as := [.int (hI (r5.2) (1) ((v3) + (1)).toNatClampNeg)]) f306_271 (by decide) rfl rfl (Nat.le_of_ble_eq_true rfl) (WF.t (p114_w (h) w (hI (h) (1) ((v3) + (1)).toNatClampNeg)  r5 hr6) 86 (by decide)) (Nat.le_of_ble_eq_true rfl) (p190_ok (d + 64) (r5.2) (p114_w (h) w (hI (h) (1) ((v3) + (1)).toNatClampNeg)  r5 hr6) (hI (r5.2) (1) ((v3) + (1)).toNatClampNeg) r8 hr9) ?_
        show ex _ 306 (274, [some (.ref (1)), some (.ref (32)), some (.ref (86)), some (.int (v3))], [.int (r8.1), .int (r5.1)], r8.2) = _
        by_cases hc10 : (r5.1) = ((r8.1) : Int32)
        · rw [if_pos hc10] at hp
          refine e_icmp_eq_t f306_274 hc10 ?_
          refine ex_weak (ls := [some (.ref (1)), some (.ref (32)), some (.ref (86)), some (.int (v3))]) (le2_ok ⟨Or.inr rfl, Or.inr rfl, Or.inr rfl, Or.inr rfl, trivial⟩) ?_
          exact p306_j2120_ok d F ((p306_L18 F n)) (ih) (r8.2) ((p190_w (r5.2) (p114_w (h) w (hI (h) (1) ((v3) + (1)).toNatClampNeg)  r5 hr6) (hI (r5.2) (1) ((v3) + (1)).toNatClampNeg)  r8 hr9)) (v3) _ hp
        · rw [if_neg hc10] at hp
          refine e_icmp_eq_f f306_274 hc10 ?_
          refine e_iconst (v := 0) f306_277 (by decide) ?_
          have hp := Option.some.inj hp
          subst hp
          exact e_ireturn f306_278 (by decide)
      rw [if_neg hc3] at hp
      by_cases hc11 : ((hI (h) (1) (v3).toNatClampNeg) &&& (63)) = (1 : Int32)
      · rw [if_pos hc11] at hp
        refine e_sw (t := 279) f306_33 (by rw [hc11]; decide) (by rw [hc11]; decide) ?_
        refine e_aload_n f306_279 rfl ?_
        refine e_aload_n f306_280 rfl ?_
        refine e_iload_n f306_281 rfl ?_
        refine e_iconst (v := 1) f306_282 (by decide) ?_
        refine e_iadd f306_283 ?_
        by_cases hg12 : ((v3) + (1)) < (0 : Int32) ∨ hN (h) (1) ≤ ((v3) + (1)).toNatClampNeg
        · rw [if_pos hg12] at hp; cases hp
        rw [if_neg hg12] at hp
        refine e_iaload f306_284 (Or.inr (WF.x w 1 (by decide))) rfl hg12 ?_
        obtain ⟨r13, hr14, hp⟩ := bind_some hp
        try dsimp only at hp
        refine e_callV (st := []) (o := 32) (as := [.int (hI (h) (1) ((v3) + (1)).toNatClampNeg)]) f306_285 (by decide) rfl rfl (Nat.le_of_ble_eq_true rfl) (WF.t w 32 (by decide)) (Nat.le_of_ble_eq_true rfl) (p115_ok (d + 63) (h) w (hI (h) (1) ((v3) + (1)).toNatClampNeg) r13 hr14) ?_
        show ex _ 306 (288, [some (.ref (1)), some (.ref (32)), some (.ref (86)), some (.int (v3))], [.int (r13.1)], r13.2) = _
        refine e_aload_n f306_288 rfl ?_
        refine e_aload_n f306_289 rfl ?_
        refine e_iload_n f306_290 rfl ?_
        refine e_iconst (v := 1) f306_291 (by decide) ?_
        refine e_iadd f306_292 ?_
        by_cases hg15 : ((v3) + (1)) < (0 : Int32) ∨ hN (r13.2) (1) ≤ ((v3) + (1)).toNatClampNeg
        · rw [if_pos hg15] at hp; cases hp
        rw [if_neg hg15] at hp
        refine e_iaload f306_293 (Or.inr (WF.x (p115_w (h) w (hI (h) (1) ((v3) + (1)).toNatClampNeg)  r13 hr14) 1 (by decide))) rfl hg15 ?_
        obtain ⟨r16, hr17, hp⟩ := bind_some hp
        try dsimp only at hp
        refine e_callV (st := [.int (r13.1)]) (o := 86) (as := [.int (hI (r13.2) (1) ((v3) + (1)).toNatClampNeg)]) f306_294 (by decide) rfl rfl (Nat.le_of_ble_eq_true rfl) (WF.t (p115_w (h) w (hI (h) (1) ((v3) + (1)).toNatClampNeg)  r13 hr14) 86 (by decide)) (Nat.le_of_ble_eq_true rfl) (p191_ok (d + 64) (r13.2) (p115_w (h) w (hI (h) (1) ((v3) + (1)).toNatClampNeg)  r13 hr14) (hI (r13.2) (1) ((v3) + (1)).toNatClampNeg) r16 hr17) ?_
        show ex _ 306 (297, [some (.ref (1)), some (.ref (32)), some (.ref (86)), some (.int (v3))], [.int (r16.1), .int (r13.1)], r16.2) = _
        by_cases hc18 : (r13.1) = ((r16.1) : Int32)
        · rw [if_pos hc18] at hp
          refine e_icmp_eq_t f306_297 hc18 ?_
          refine ex_weak (ls := [some (.ref (1)), some (.ref (32)), some (.ref (86)), some (.int (v3))]) (le2_ok ⟨Or.inr rfl, Or.inr rfl, Or.inr rfl, Or.inr rfl, trivial⟩) ?_
          exact p306_j2120_ok d F ((p306_L18 F n)) (ih) (r16.2) ((p191_w (r13.2) (p115_w (h) w (hI (h) (1) ((v3) + (1)).toNatClampNeg)  r13 hr14) (hI (r13.2) (1) ((v3) + (1)).toNatClampNeg)  r16 hr17)) (v3) _ hp
        · rw [if_neg hc18] at hp
          refine e_icmp_eq_f f306_297 hc18 ?_
          refine e_iconst (v := 0) f306_300 (by decide) ?_
          have hp := Option.some.inj hp
          subst hp
          exact e_ireturn f306_301 (by decide)
      rw [if_neg hc11] at hp
      by_cases hc19 : ((hI (h) (1) (v3).toNatClampNeg) &&& (63)) = (2 : Int32)
      · rw [if_pos hc19] at hp
        refine e_sw (t := 302) f306_33 (by rw [hc19]; decide) (by rw [hc19]; decide) ?_
        refine e_aload_n f306_302 rfl ?_
        refine e_aload_n f306_303 rfl ?_
        refine e_iload_n f306_304 rfl ?_
        refine e_iconst (v := 1) f306_305 (by decide) ?_
        refine e_iadd f306_306 ?_
        by_cases hg20 : ((v3) + (1)) < (0 : Int32) ∨ hN (h) (1) ≤ ((v3) + (1)).toNatClampNeg
        · rw [if_pos hg20] at hp; cases hp
        rw [if_neg hg20] at hp
        refine e_iaload f306_307 (Or.inr (WF.x w 1 (by decide))) rfl hg20 ?_
        refine e_aload_n f306_308 rfl ?_
        refine e_iload_n f306_309 rfl ?_
        refine e_iconst (v := 2) f306_310 (by decide) ?_
        refine e_iadd f306_311 ?_
        by_cases hg21 : ((v3) + (2)) < (0 : Int32) ∨ hN (h) (1) ≤ ((v3) + (2)).toNatClampNeg
        · rw [if_pos hg21] at hp; cases hp
        rw [if_neg hg21] at hp
        refine e_iaload f306_312 (Or.inr (WF.x w 1 (by decide))) rfl hg21 ?_
        refine e_aload_n f306_313 rfl ?_
        refine e_iload_n f306_314 rfl ?_
        refine e_iconst (v := 3) f306_315 (by decide) ?_
        refine e_iadd f306_316 ?_
        by_cases hg22 : ((v3) + (3)) < (0 : Int32) ∨ hN (h) (1) ≤ ((v3) + (3)).toNatClampNeg
        · rw [if_pos hg22] at hp; cases hp
        rw [if_neg hg22] at hp
        refine e_iaload f306_317 (Or.inr (WF.x w 1 (by decide))) rfl hg22 ?_
        refine e_i2l f306_318 ?_
        refine e_bipush (v := 32) f306_319 (by decide) ?_
        refine e_lshl f306_321 ?_
        refine e_aload_n f306_322 rfl ?_
        refine e_iload_n f306_323 rfl ?_
        refine e_iconst (v := 4) f306_324 (by decide) ?_
        refine e_iadd f306_325 ?_
        by_cases hg23 : ((v3) + (4)) < (0 : Int32) ∨ hN (h) (1) ≤ ((v3) + (4)).toNatClampNeg
        · rw [if_pos hg23] at hp; cases hp
        rw [if_neg hg23] at hp
        refine e_iaload f306_326 (Or.inr (WF.x w 1 (by decide))) rfl hg23 ?_
        refine e_i2l f306_327 ?_
        refine e_ldc2 (v := 4294967295) f306_328 (by decide) ?_
        refine e_land f306_331 ?_
        refine e_lor f306_332 ?_
        obtain ⟨r24, hr25, hp⟩ := bind_some hp
        try dsimp only at hp
        refine e_callV (st := []) (o := 32) (as := [.int (hI (h) (1) ((v3) + (1)).toNatClampNeg), .int (hI (h) (1) ((v3) + (2)).toNatClampNeg), .long ((((hI (h) (1) ((v3) + (3)).toNatClampNeg).toInt64) <<< ((32 : Int32).toInt64 &&& 63)) ||| (((hI (h) (1) ((v3) + (4)).toNatClampNeg).toInt64) &&& ((4294967295 : Int64))))]) f306_333 (by decide) rfl rfl (Nat.le_of_ble_eq_true rfl) (WF.t w 32 (by decide)) (Nat.le_of_ble_eq_true rfl) (p116_ok (d + 62) (h) w (hI (h) (1) ((v3) + (1)).toNatClampNeg) (hI (h) (1) ((v3) + (2)).toNatClampNeg) ((((hI (h) (1) ((v3) + (3)).toNatClampNeg).toInt64) <<< ((32 : Int32).toInt64 &&& 63)) ||| (((hI (h) (1) ((v3) + (4)).toNatClampNeg).toInt64) &&& ((4294967295 : Int64)))) r24 hr25) ?_
        show ex _ 306 (336, [some (.ref (1)), some (.ref (32)), some (.ref (86)), some (.int (v3))], [.int (r24.1)], r24.2) = _
        refine e_aload_n f306_336 rfl ?_
        refine e_aload_n f306_337 rfl ?_
        refine e_iload_n f306_338 rfl ?_
        refine e_iconst (v := 1) f306_339 (by decide) ?_
        refine e_iadd f306_340 ?_
        by_cases hg26 : ((v3) + (1)) < (0 : Int32) ∨ hN (r24.2) (1) ≤ ((v3) + (1)).toNatClampNeg
        · rw [if_pos hg26] at hp; cases hp
        rw [if_neg hg26] at hp
        refine e_iaload f306_341 (Or.inr (WF.x (p116_w (h) w (hI (h) (1) ((v3) + (1)).toNatClampNeg) (hI (h) (1) ((v3) + (2)).toNatClampNeg) ((((hI (h) (1) ((v3) + (3)).toNatClampNeg).toInt64) <<< ((32 : Int32).toInt64 &&& 63)) ||| (((hI (h) (1) ((v3) + (4)).toNatClampNeg).toInt64) &&& ((4294967295 : Int64))))  r24 hr25) 1 (by decide))) rfl hg26 ?_
        refine e_aload_n f306_342 rfl ?_
        refine e_iload_n f306_343 rfl ?_
        refine e_iconst (v := 2) f306_344 (by decide) ?_
        refine e_iadd f306_345 ?_
        by_cases hg27 : ((v3) + (2)) < (0 : Int32) ∨ hN (r24.2) (1) ≤ ((v3) + (2)).toNatClampNeg
        · rw [if_pos hg27] at hp; cases hp
        rw [if_neg hg27] at hp
        refine e_iaload f306_346 (Or.inr (WF.x (p116_w (h) w (hI (h) (1) ((v3) + (1)).toNatClampNeg) (hI (h) (1) ((v3) + (2)).toNatClampNeg) ((((hI (h) (1) ((v3) + (3)).toNatClampNeg).toInt64) <<< ((32 : Int32).toInt64 &&& 63)) ||| (((hI (h) (1) ((v3) + (4)).toNatClampNeg).toInt64) &&& ((4294967295 : Int64))))  r24 hr25) 1 (by decide))) rfl hg27 ?_
        refine e_aload_n f306_347 rfl ?_
        refine e_iload_n f306_348 rfl ?_
        refine e_iconst (v := 3) f306_349 (by decide) ?_
        refine e_iadd f306_350 ?_
        by_cases hg28 : ((v3) + (3)) < (0 : Int32) ∨ hN (r24.2) (1) ≤ ((v3) + (3)).toNatClampNeg
        · rw [if_pos hg28] at hp; cases hp
        rw [if_neg hg28] at hp
        refine e_iaload f306_351 (Or.inr (WF.x (p116_w (h) w (hI (h) (1) ((v3) + (1)).toNatClampNeg) (hI (h) (1) ((v3) + (2)).toNatClampNeg) ((((hI (h) (1) ((v3) + (3)).toNatClampNeg).toInt64) <<< ((32 : Int32).toInt64 &&& 63)) ||| (((hI (h) (1) ((v3) + (4)).toNatClampNeg).toInt64) &&& ((4294967295 : Int64))))  r24 hr25) 1 (by decide))) rfl hg28 ?_
        refine e_i2l f306_352 ?_
        refine e_bipush (v := 32) f306_353 (by decide) ?_
        refine e_lshl f306_355 ?_
        refine e_aload_n f306_356 rfl ?_
        refine e_iload_n f306_357 rfl ?_
        refine e_iconst (v := 4) f306_358 (by decide) ?_
        refine e_iadd f306_359 ?_
        by_cases hg29 : ((v3) + (4)) < (0 : Int32) ∨ hN (r24.2) (1) ≤ ((v3) + (4)).toNatClampNeg
        · rw [if_pos hg29] at hp; cases hp
        rw [if_neg hg29] at hp
        refine e_iaload f306_360 (Or.inr (WF.x (p116_w (h) w (hI (h) (1) ((v3) + (1)).toNatClampNeg) (hI (h) (1) ((v3) + (2)).toNatClampNeg) ((((hI (h) (1) ((v3) + (3)).toNatClampNeg).toInt64) <<< ((32 : Int32).toInt64 &&& 63)) ||| (((hI (h) (1) ((v3) + (4)).toNatClampNeg).toInt64) &&& ((4294967295 : Int64))))  r24 hr25) 1 (by decide))) rfl hg29 ?_
        refine e_i2l f306_361 ?_
        refine e_ldc2 (v := 4294967295) f306_362 (by decide) ?_
        refine e_land f306_365 ?_
        refine e_lor f306_366 ?_
        obtain ⟨r30, hr31, hp⟩ := bind_some hp
        try dsimp only at hp
        refine e_callV (st := [.int (r24.1)]) (o := 86) (as := [.int (hI (r24.2) (1) ((v3) + (1)).toNatClampNeg), .int (hI (r24.2) (1) ((v3) + (2)).toNatClampNeg), .long ((((hI (r24.2) (1) ((v3) + (3)).toNatClampNeg).toInt64) <<< ((32 : Int32).toInt64 &&& 63)) ||| (((hI (r24.2) (1) ((v3) + (4)).toNatClampNeg).toInt64) &&& ((4294967295 : Int64))))]) f306_367 (by decide) rfl rfl (Nat.le_of_ble_eq_true rfl) (WF.t (p116_w (h) w (hI (h) (1) ((v3) + (1)).toNatClampNeg) (hI (h) (1) ((v3) + (2)).toNatClampNeg) ((((hI (h) (1) ((v3) + (3)).toNatClampNeg).toInt64) <<< ((32 : Int32).toInt64 &&& 63)) ||| (((hI (h) (1) ((v3) + (4)).toNatClampNeg).toInt64) &&& ((4294967295 : Int64))))  r24 hr25) 86 (by decide)) (Nat.le_of_ble_eq_true rfl) (p192_ok (d + 64) F (r24.2) (p116_w (h) w (hI (h) (1) ((v3) + (1)).toNatClampNeg) (hI (h) (1) ((v3) + (2)).toNatClampNeg) ((((hI (h) (1) ((v3) + (3)).toNatClampNeg).toInt64) <<< ((32 : Int32).toInt64 &&& 63)) ||| (((hI (h) (1) ((v3) + (4)).toNatClampNeg).toInt64) &&& ((4294967295 : Int64))))  r24 hr25) (hI (r24.2) (1) ((v3) + (1)).toNatClampNeg) (hI (r24.2) (1) ((v3) + (2)).toNatClampNeg) ((((hI (r24.2) (1) ((v3) + (3)).toNatClampNeg).toInt64) <<< ((32 : Int32).toInt64 &&& 63)) ||| (((hI (r24.2) (1) ((v3) + (4)).toNatClampNeg).toInt64) &&& ((4294967295 : Int64)))) r30 hr31) ?_
        show ex _ 306 (370, [some (.ref (1)), some (.ref (32)), some (.ref (86)), some (.int (v3))], [.int (r30.1), .int (r24.1)], r30.2) = _
        by_cases hc32 : (r24.1) = ((r30.1) : Int32)
        · rw [if_pos hc32] at hp
          refine e_icmp_eq_t f306_370 hc32 ?_
          refine ex_weak (ls := [some (.ref (1)), some (.ref (32)), some (.ref (86)), some (.int (v3))]) (le2_ok ⟨Or.inr rfl, Or.inr rfl, Or.inr rfl, Or.inr rfl, trivial⟩) ?_
          exact p306_j2120_ok d F ((p306_L18 F n)) (ih) (r30.2) ((p192_w F (r24.2) (p116_w (h) w (hI (h) (1) ((v3) + (1)).toNatClampNeg) (hI (h) (1) ((v3) + (2)).toNatClampNeg) ((((hI (h) (1) ((v3) + (3)).toNatClampNeg).toInt64) <<< ((32 : Int32).toInt64 &&& 63)) ||| (((hI (h) (1) ((v3) + (4)).toNatClampNeg).toInt64) &&& ((4294967295 : Int64))))  r24 hr25) (hI (r24.2) (1) ((v3) + (1)).toNatClampNeg) (hI (r24.2) (1) ((v3) + (2)).toNatClampNeg) ((((hI (r24.2) (1) ((v3) + (3)).toNatClampNeg).toInt64) <<< ((32 : Int32).toInt64 &&& 63)) ||| (((hI (r24.2) (1) ((v3) + (4)).toNatClampNeg).toInt64) &&& ((4294967295 : Int64))))  r30 hr31)) (v3) _ hp
        · rw [if_neg hc32] at hp
          refine e_icmp_eq_f f306_370 hc32 ?_
          refine e_iconst (v := 0) f306_373 (by decide) ?_
          have hp := Option.some.inj hp
          subst hp
          exact e_ireturn f306_374 (by decide)
      rw [if_neg hc19] at hp
      by_cases hc33 : ((hI (h) (1) (v3).toNatClampNeg) &&& (63)) = (3 : Int32)
      · rw [if_pos hc33] at hp
        refine e_sw (t := 375) f306_33 (by rw [hc33]; decide) (by rw [hc33]; decide) ?_
        refine e_aload_n f306_375 rfl ?_
        refine e_aload_n f306_376 rfl ?_
        refine e_iload_n f306_377 rfl ?_
        refine e_iconst (v := 1) f306_378 (by decide) ?_
        refine e_iadd f306_379 ?_
        by_cases hg34 : ((v3) + (1)) < (0 : Int32) ∨ hN (h) (1) ≤ ((v3) + (1)).toNatClampNeg
        · rw [if_pos hg34] at hp; cases hp
        rw [if_neg hg34] at hp
        refine e_iaload f306_380 (Or.inr (WF.x w 1 (by decide))) rfl hg34 ?_
        refine e_aload_n f306_381 rfl ?_
        refine e_iload_n f306_382 rfl ?_
        refine e_iconst (v := 2) f306_383 (by decide) ?_
        refine e_iadd f306_384 ?_
        by_cases hg35 : ((v3) + (2)) < (0 : Int32) ∨ hN (h) (1) ≤ ((v3) + (2)).toNatClampNeg
        · rw [if_pos hg35] at hp; cases hp
        rw [if_neg hg35] at hp
        refine e_iaload f306_385 (Or.inr (WF.x w 1 (by decide))) rfl hg35 ?_
        obtain ⟨r36, hr37, hp⟩ := bind_some hp
        try dsimp only at hp
        refine e_callV (st := []) (o := 32) (as := [.int (hI (h) (1) ((v3) + (1)).toNatClampNeg), .int (hI (h) (1) ((v3) + (2)).toNatClampNeg)]) f306_386 (by decide) rfl rfl (Nat.le_of_ble_eq_true rfl) (WF.t w 32 (by decide)) (Nat.le_of_ble_eq_true rfl) (p117_ok (d + 63) (h) w (hI (h) (1) ((v3) + (1)).toNatClampNeg) (hI (h) (1) ((v3) + (2)).toNatClampNeg) r36 hr37) ?_
        show ex _ 306 (389, [some (.ref (1)), some (.ref (32)), some (.ref (86)), some (.int (v3))], [.int (r36)], h) = _
        refine e_aload_n f306_389 rfl ?_
        refine e_aload_n f306_390 rfl ?_
        refine e_iload_n f306_391 rfl ?_
        refine e_iconst (v := 1) f306_392 (by decide) ?_
        refine e_iadd f306_393 ?_
        by_cases hg38 : ((v3) + (1)) < (0 : Int32) ∨ hN (h) (1) ≤ ((v3) + (1)).toNatClampNeg
        · rw [if_pos hg38] at hp; cases hp
        rw [if_neg hg38] at hp
        refine e_iaload f306_394 (Or.inr (WF.x w 1 (by decide))) rfl hg38 ?_
        refine e_aload_n f306_395 rfl ?_
        refine e_iload_n f306_396 rfl ?_
        refine e_iconst (v := 2) f306_397 (by decide) ?_
        refine e_iadd f306_398 ?_
        by_cases hg39 : ((v3) + (2)) < (0 : Int32) ∨ hN (h) (1) ≤ ((v3) + (2)).toNatClampNeg
        · rw [if_pos hg39] at hp; cases hp
        rw [if_neg hg39] at hp
        refine e_iaload f306_399 (Or.inr (WF.x w 1 (by decide))) rfl hg39 ?_
        obtain ⟨r40, hr41, hp⟩ := bind_some hp
        try dsimp only at hp
        refine e_callV (st := [.int (r36)]) (o := 86) (as := [.int (hI (h) (1) ((v3) + (1)).toNatClampNeg), .int (hI (h) (1) ((v3) + (2)).toNatClampNeg)]) f306_400 (by decide) rfl rfl (Nat.le_of_ble_eq_true rfl) (WF.t w 86 (by decide)) (Nat.le_of_ble_eq_true rfl) (p194_ok (d + 63) (h) w (hI (h) (1) ((v3) + (1)).toNatClampNeg) (hI (h) (1) ((v3) + (2)).toNatClampNeg) r40 hr41) ?_
        show ex _ 306 (403, [some (.ref (1)), some (.ref (32)), some (.ref (86)), some (.int (v3))], [.int (r40), .int (r36)], h) = _
        by_cases hc42 : (r36) = ((r40) : Int32)
        · rw [if_pos hc42] at hp
          refine e_icmp_eq_t f306_403 hc42 ?_
          refine ex_weak (ls := [some (.ref (1)), some (.ref (32)), some (.ref (86)), some (.int (v3))]) (le2_ok ⟨Or.inr rfl, Or.inr rfl, Or.inr rfl, Or.inr rfl, trivial⟩) ?_
          exact p306_j2120_ok d F ((p306_L18 F n)) (ih) (h) (w) (v3) _ hp
        · rw [if_neg hc42] at hp
          refine e_icmp_eq_f f306_403 hc42 ?_
          refine e_iconst (v := 0) f306_406 (by decide) ?_
          have hp := Option.some.inj hp
          subst hp
          exact e_ireturn f306_407 (by decide)
      rw [if_neg hc33] at hp
      by_cases hc43 : ((hI (h) (1) (v3).toNatClampNeg) &&& (63)) = (4 : Int32)
      · rw [if_pos hc43] at hp
        refine e_sw (t := 408) f306_33 (by rw [hc43]; decide) (by rw [hc43]; decide) ?_
        refine e_aload_n f306_408 rfl ?_
        refine e_aload_n f306_409 rfl ?_
        refine e_iload_n f306_410 rfl ?_
        refine e_iconst (v := 1) f306_411 (by decide) ?_
        refine e_iadd f306_412 ?_
        by_cases hg44 : ((v3) + (1)) < (0 : Int32) ∨ hN (h) (1) ≤ ((v3) + (1)).toNatClampNeg
        · rw [if_pos hg44] at hp; cases hp
        rw [if_neg hg44] at hp
        refine e_iaload f306_413 (Or.inr (WF.x w 1 (by decide))) rfl hg44 ?_
        refine e_aload_n f306_414 rfl ?_
        refine e_iload_n f306_415 rfl ?_
        refine e_iconst (v := 2) f306_416 (by decide) ?_
        refine e_iadd f306_417 ?_
        by_cases hg45 : ((v3) + (2)) < (0 : Int32) ∨ hN (h) (1) ≤ ((v3) + (2)).toNatClampNeg
        · rw [if_pos hg45] at hp; cases hp
        rw [if_neg hg45] at hp
        refine e_iaload f306_418 (Or.inr (WF.x w 1 (by decide))) rfl hg45 ?_
        refine e_aload_n f306_419 rfl ?_
        refine e_iload_n f306_420 rfl ?_
        refine e_iconst (v := 3) f306_421 (by decide) ?_
        refine e_iadd f306_422 ?_
        by_cases hg46 : ((v3) + (3)) < (0 : Int32) ∨ hN (h) (1) ≤ ((v3) + (3)).toNatClampNeg
        · rw [if_pos hg46] at hp; cases hp
        rw [if_neg hg46] at hp
        refine e_iaload f306_423 (Or.inr (WF.x w 1 (by decide))) rfl hg46 ?_
        obtain ⟨r47, hr48, hp⟩ := bind_some hp
        try dsimp only at hp
        refine e_callV (st := []) (o := 32) (as := [.int (hI (h) (1) ((v3) + (1)).toNatClampNeg), .int (hI (h) (1) ((v3) + (2)).toNatClampNeg), .int (hI (h) (1) ((v3) + (3)).toNatClampNeg)]) f306_424 (by decide) rfl rfl (Nat.le_of_ble_eq_true rfl) (WF.t w 32 (by decide)) (Nat.le_of_ble_eq_true rfl) (p118_ok (d + 63) (h) w (hI (h) (1) ((v3) + (1)).toNatClampNeg) (hI (h) (1) ((v3) + (2)).toNatClampNeg) (hI (h) (1) ((v3) + (3)).toNatClampNeg) r47 hr48) ?_
        show ex _ 306 (427, [some (.ref (1)), some (.ref (32)), some (.ref (86)), some (.int (v3))], [.int (r47)], h) = _
        refine e_aload_n f306_427 rfl ?_
        refine e_aload_n f306_428 rfl ?_
        refine e_iload_n f306_429 rfl ?_
        refine e_iconst (v := 1) f306_430 (by decide) ?_
        refine e_iadd f306_431 ?_
        by_cases hg49 : ((v3) + (1)) < (0 : Int32) ∨ hN (h) (1) ≤ ((v3) + (1)).toNatClampNeg
        · rw [if_pos hg49] at hp; cases hp
        rw [if_neg hg49] at hp
        refine e_iaload f306_432 (Or.inr (WF.x w 1 (by decide))) rfl hg49 ?_
        refine e_aload_n f306_433 rfl ?_
        refine e_iload_n f306_434 rfl ?_
        refine e_iconst (v := 2) f306_435 (by decide) ?_
        refine e_iadd f306_436 ?_
        by_cases hg50 : ((v3) + (2)) < (0 : Int32) ∨ hN (h) (1) ≤ ((v3) + (2)).toNatClampNeg
        · rw [if_pos hg50] at hp; cases hp
        rw [if_neg hg50] at hp
        refine e_iaload f306_437 (Or.inr (WF.x w 1 (by decide))) rfl hg50 ?_
        refine e_aload_n f306_438 rfl ?_
        refine e_iload_n f306_439 rfl ?_
        refine e_iconst (v := 3) f306_440 (by decide) ?_
        refine e_iadd f306_441 ?_
        by_cases hg51 : ((v3) + (3)) < (0 : Int32) ∨ hN (h) (1) ≤ ((v3) + (3)).toNatClampNeg
        · rw [if_pos hg51] at hp; cases hp
        rw [if_neg hg51] at hp
        refine e_iaload f306_442 (Or.inr (WF.x w 1 (by decide))) rfl hg51 ?_
        obtain ⟨r52, hr53, hp⟩ := bind_some hp
        try dsimp only at hp
        refine e_callV (st := [.int (r47)]) (o := 86) (as := [.int (hI (h) (1) ((v3) + (1)).toNatClampNeg), .int (hI (h) (1) ((v3) + (2)).toNatClampNeg), .int (hI (h) (1) ((v3) + (3)).toNatClampNeg)]) f306_443 (by decide) rfl rfl (Nat.le_of_ble_eq_true rfl) (WF.t w 86 (by decide)) (Nat.le_of_ble_eq_true rfl) (p196_ok (d + 63) (h) w (hI (h) (1) ((v3) + (1)).toNatClampNeg) (hI (h) (1) ((v3) + (2)).toNatClampNeg) (hI (h) (1) ((v3) + (3)).toNatClampNeg) r52 hr53) ?_
        show ex _ 306 (446, [some (.ref (1)), some (.ref (32)), some (.ref (86)), some (.int (v3))], [.int (r52), .int (r47)], h) = _
        by_cases hc54 : (r47) = ((r52) : Int32)
        · rw [if_pos hc54] at hp
          refine e_icmp_eq_t f306_446 hc54 ?_
          refine ex_weak (ls := [some (.ref (1)), some (.ref (32)), some (.ref (86)), some (.int (v3))]) (le2_ok ⟨Or.inr rfl, Or.inr rfl, Or.inr rfl, Or.inr rfl, trivial⟩) ?_
          exact p306_j2120_ok d F ((p306_L18 F n)) (ih) (h) (w) (v3) _ hp
        · rw [if_neg hc54] at hp
          refine e_icmp_eq_f f306_446 hc54 ?_
          refine e_iconst (v := 0) f306_449 (by decide) ?_
          have hp := Option.some.inj hp
          subst hp
          exact e_ireturn f306_450 (by decide)
      rw [if_neg hc43] at hp
      by_cases hc55 : ((hI (h) (1) (v3).toNatClampNeg) &&& (63)) = (5 : Int32)
      · rw [if_pos hc55] at hp
        refine e_sw (t := 451) f306_33 (by rw [hc55]; decide) (by rw [hc55]; decide) ?_
        refine e_aload_n f306_451 rfl ?_
        refine e_aload_n f306_452 rfl ?_
        refine e_iload_n f306_453 rfl ?_
        refine e_iconst (v := 1) f306_454 (by decide) ?_
        refine e_iadd f306_455 ?_
        by_cases hg56 : ((v3) + (1)) < (0 : Int32) ∨ hN (h) (1) ≤ ((v3) + (1)).toNatClampNeg
        · rw [if_pos hg56] at hp; cases hp
        rw [if_neg hg56] at hp
        refine e_iaload f306_456 (Or.inr (WF.x w 1 (by decide))) rfl hg56 ?_
        refine e_aload_n f306_457 rfl ?_
        refine e_iload_n f306_458 rfl ?_
        refine e_iconst (v := 2) f306_459 (by decide) ?_
        refine e_iadd f306_460 ?_
        by_cases hg57 : ((v3) + (2)) < (0 : Int32) ∨ hN (h) (1) ≤ ((v3) + (2)).toNatClampNeg
        · rw [if_pos hg57] at hp; cases hp
        rw [if_neg hg57] at hp
        refine e_iaload f306_461 (Or.inr (WF.x w 1 (by decide))) rfl hg57 ?_
        refine e_aload_n f306_462 rfl ?_
        refine e_iload_n f306_463 rfl ?_
        refine e_iconst (v := 3) f306_464 (by decide) ?_
        refine e_iadd f306_465 ?_
        by_cases hg58 : ((v3) + (3)) < (0 : Int32) ∨ hN (h) (1) ≤ ((v3) + (3)).toNatClampNeg
        · rw [if_pos hg58] at hp; cases hp
        rw [if_neg hg58] at hp
        refine e_iaload f306_466 (Or.inr (WF.x w 1 (by decide))) rfl hg58 ?_
        obtain ⟨r59, hr60, hp⟩ := bind_some hp
        try dsimp only at hp
        refine e_callV (st := []) (o := 32) (as := [.int (hI (h) (1) ((v3) + (1)).toNatClampNeg), .int (hI (h) (1) ((v3) + (2)).toNatClampNeg), .int (hI (h) (1) ((v3) + (3)).toNatClampNeg)]) f306_467 (by decide) rfl rfl (Nat.le_of_ble_eq_true rfl) (WF.t w 32 (by decide)) (Nat.le_of_ble_eq_true rfl) (p119_ok (d + 31) F (h) w (hI (h) (1) ((v3) + (1)).toNatClampNeg) (hI (h) (1) ((v3) + (2)).toNatClampNeg) (hI (h) (1) ((v3) + (3)).toNatClampNeg) r59 hr60) ?_
        show ex _ 306 (470, [some (.ref (1)), some (.ref (32)), some (.ref (86)), some (.int (v3))], [.int (r59.1)], r59.2) = _
        refine e_aload_n f306_470 rfl ?_
        refine e_aload_n f306_471 rfl ?_
        refine e_iload_n f306_472 rfl ?_
        refine e_iconst (v := 1) f306_473 (by decide) ?_
        refine e_iadd f306_474 ?_
        by_cases hg61 : ((v3) + (1)) < (0 : Int32) ∨ hN (r59.2) (1) ≤ ((v3) + (1)).toNatClampNeg
        · rw [if_pos hg61] at hp; cases hp
        rw [if_neg hg61] at hp
        refine e_iaload f306_475 (Or.inr (WF.x (p119_w F (h) w (hI (h) (1) ((v3) + (1)).toNatClampNeg) (hI (h) (1) ((v3) + (2)).toNatClampNeg) (hI (h) (1) ((v3) + (3)).toNatClampNeg)  r59 hr60) 1 (by decide))) rfl hg61 ?_
        refine e_aload_n f306_476 rfl ?_
        refine e_iload_n f306_477 rfl ?_
        refine e_iconst (v := 2) f306_478 (by decide) ?_
        refine e_iadd f306_479 ?_
        by_cases hg62 : ((v3) + (2)) < (0 : Int32) ∨ hN (r59.2) (1) ≤ ((v3) + (2)).toNatClampNeg
        · rw [if_pos hg62] at hp; cases hp
        rw [if_neg hg62] at hp
        refine e_iaload f306_480 (Or.inr (WF.x (p119_w F (h) w (hI (h) (1) ((v3) + (1)).toNatClampNeg) (hI (h) (1) ((v3) + (2)).toNatClampNeg) (hI (h) (1) ((v3) + (3)).toNatClampNeg)  r59 hr60) 1 (by decide))) rfl hg62 ?_
        refine e_aload_n f306_481 rfl ?_
        refine e_iload_n f306_482 rfl ?_
        refine e_iconst (v := 3) f306_483 (by decide) ?_
        refine e_iadd f306_484 ?_
        by_cases hg63 : ((v3) + (3)) < (0 : Int32) ∨ hN (r59.2) (1) ≤ ((v3) + (3)).toNatClampNeg
        · rw [if_pos hg63] at hp; cases hp
        rw [if_neg hg63] at hp
        refine e_iaload f306_485 (Or.inr (WF.x (p119_w F (h) w (hI (h) (1) ((v3) + (1)).toNatClampNeg) (hI (h) (1) ((v3) + (2)).toNatClampNeg) (hI (h) (1) ((v3) + (3)).toNatClampNeg)  r59 hr60) 1 (by decide))) rfl hg63 ?_
        obtain ⟨r64, hr65, hp⟩ := bind_some hp
        try dsimp only at hp
        refine e_callV (st := [.int (r59.1)]) (o := 86) (as := [.int (hI (r59.2) (1) ((v3) + (1)).toNatClampNeg), .int (hI (r59.2) (1) ((v3) + (2)).toNatClampNeg), .int (hI (r59.2) (1) ((v3) + (3)).toNatClampNeg)]) f306_486 (by decide) rfl rfl (Nat.le_of_ble_eq_true rfl) (WF.t (p119_w F (h) w (hI (h) (1) ((v3) + (1)).toNatClampNeg) (hI (h) (1) ((v3) + (2)).toNatClampNeg) (hI (h) (1) ((v3) + (3)).toNatClampNeg)  r59 hr60) 86 (by decide)) (Nat.le_of_ble_eq_true rfl) (p201_ok (d + 63) F (r59.2) (p119_w F (h) w (hI (h) (1) ((v3) + (1)).toNatClampNeg) (hI (h) (1) ((v3) + (2)).toNatClampNeg) (hI (h) (1) ((v3) + (3)).toNatClampNeg)  r59 hr60) (hI (r59.2) (1) ((v3) + (1)).toNatClampNeg) (hI (r59.2) (1) ((v3) + (2)).toNatClampNeg) (hI (r59.2) (1) ((v3) + (3)).toNatClampNeg) r64 hr65) ?_
        show ex _ 306 (489, [some (.ref (1)), some (.ref (32)), some (.ref (86)), some (.int (v3))], [.int (r64.1), .int (r59.1)], r64.2) = _
        by_cases hc66 : (r59.1) = ((r64.1) : Int32)
        · rw [if_pos hc66] at hp
          refine e_icmp_eq_t f306_489 hc66 ?_
          refine ex_weak (ls := [some (.ref (1)), some (.ref (32)), some (.ref (86)), some (.int (v3))]) (le2_ok ⟨Or.inr rfl, Or.inr rfl, Or.inr rfl, Or.inr rfl, trivial⟩) ?_
          exact p306_j2120_ok d F ((p306_L18 F n)) (ih) (r64.2) ((p201_w F (r59.2) (p119_w F (h) w (hI (h) (1) ((v3) + (1)).toNatClampNeg) (hI (h) (1) ((v3) + (2)).toNatClampNeg) (hI (h) (1) ((v3) + (3)).toNatClampNeg)  r59 hr60) (hI (r59.2) (1) ((v3) + (1)).toNatClampNeg) (hI (r59.2) (1) ((v3) + (2)).toNatClampNeg) (hI (r59.2) (1) ((v3) + (3)).toNatClampNeg)  r64 hr65)) (v3) _ hp
        · rw [if_neg hc66] at hp
          refine e_icmp_eq_f f306_489 hc66 ?_
          refine e_iconst (v := 0) f306_492 (by decide) ?_
          have hp := Option.some.inj hp
          subst hp
          exact e_ireturn f306_493 (by decide)
      rw [if_neg hc55] at hp
      by_cases hc67 : ((hI (h) (1) (v3).toNatClampNeg) &&& (63)) = (6 : Int32)
      · rw [if_pos hc67] at hp
        refine e_sw (t := 494) f306_33 (by rw [hc67]; decide) (by rw [hc67]; decide) ?_
        refine e_aload_n f306_494 rfl ?_
        refine e_aload_n f306_495 rfl ?_
        refine e_iload_n f306_496 rfl ?_
        refine e_iconst (v := 1) f306_497 (by decide) ?_
        refine e_iadd f306_498 ?_
        by_cases hg68 : ((v3) + (1)) < (0 : Int32) ∨ hN (h) (1) ≤ ((v3) + (1)).toNatClampNeg
        · rw [if_pos hg68] at hp; cases hp
        rw [if_neg hg68] at hp
        refine e_iaload f306_499 (Or.inr (WF.x w 1 (by decide))) rfl hg68 ?_
        refine e_aload_n f306_500 rfl ?_
        refine e_iload_n f306_501 rfl ?_
        refine e_iconst (v := 2) f306_502 (by decide) ?_
        refine e_iadd f306_503 ?_
        by_cases hg69 : ((v3) + (2)) < (0 : Int32) ∨ hN (h) (1) ≤ ((v3) + (2)).toNatClampNeg
        · rw [if_pos hg69] at hp; cases hp
        rw [if_neg hg69] at hp
        refine e_iaload f306_504 (Or.inr (WF.x w 1 (by decide))) rfl hg69 ?_
        obtain ⟨r70, hr71, hp⟩ := bind_some hp
        try dsimp only at hp
        refine e_callV (st := []) (o := 32) (as := [.int (hI (h) (1) ((v3) + (1)).toNatClampNeg), .int (hI (h) (1) ((v3) + (2)).toNatClampNeg)]) f306_505 (by decide) rfl rfl (Nat.le_of_ble_eq_true rfl) (WF.t w 32 (by decide)) (Nat.le_of_ble_eq_true rfl) (p120_ok (d + 62) (h) w (hI (h) (1) ((v3) + (1)).toNatClampNeg) (hI (h) (1) ((v3) + (2)).toNatClampNeg) r70 hr71) ?_
        show ex _ 306 (508, [some (.ref (1)), some (.ref (32)), some (.ref (86)), some (.int (v3))], [.int (r70)], h) = _
        refine e_aload_n f306_508 rfl ?_
        refine e_aload_n f306_509 rfl ?_
        refine e_iload_n f306_510 rfl ?_
        refine e_iconst (v := 1) f306_511 (by decide) ?_
        refine e_iadd f306_512 ?_
        by_cases hg72 : ((v3) + (1)) < (0 : Int32) ∨ hN (h) (1) ≤ ((v3) + (1)).toNatClampNeg
        · rw [if_pos hg72] at hp; cases hp
        rw [if_neg hg72] at hp
        refine e_iaload f306_513 (Or.inr (WF.x w 1 (by decide))) rfl hg72 ?_
        refine e_aload_n f306_514 rfl ?_
        refine e_iload_n f306_515 rfl ?_
        refine e_iconst (v := 2) f306_516 (by decide) ?_
        refine e_iadd f306_517 ?_
        by_cases hg73 : ((v3) + (2)) < (0 : Int32) ∨ hN (h) (1) ≤ ((v3) + (2)).toNatClampNeg
        · rw [if_pos hg73] at hp; cases hp
        rw [if_neg hg73] at hp
        refine e_iaload f306_518 (Or.inr (WF.x w 1 (by decide))) rfl hg73 ?_
        obtain ⟨r74, hr75, hp⟩ := bind_some hp
        try dsimp only at hp
        refine e_callV (st := [.int (r70)]) (o := 86) (as := [.int (hI (h) (1) ((v3) + (1)).toNatClampNeg), .int (hI (h) (1) ((v3) + (2)).toNatClampNeg)]) f306_519 (by decide) rfl rfl (Nat.le_of_ble_eq_true rfl) (WF.t w 86 (by decide)) (Nat.le_of_ble_eq_true rfl) (p202_ok (d + 64) (h) w (hI (h) (1) ((v3) + (1)).toNatClampNeg) (hI (h) (1) ((v3) + (2)).toNatClampNeg) r74 hr75) ?_
        show ex _ 306 (522, [some (.ref (1)), some (.ref (32)), some (.ref (86)), some (.int (v3))], [.int (r74), .int (r70)], h) = _
        by_cases hc76 : (r70) = ((r74) : Int32)
        · rw [if_pos hc76] at hp
          refine e_icmp_eq_t f306_522 hc76 ?_
          refine ex_weak (ls := [some (.ref (1)), some (.ref (32)), some (.ref (86)), some (.int (v3))]) (le2_ok ⟨Or.inr rfl, Or.inr rfl, Or.inr rfl, Or.inr rfl, trivial⟩) ?_
          exact p306_j2120_ok d F ((p306_L18 F n)) (ih) (h) (w) (v3) _ hp
        · rw [if_neg hc76] at hp
          refine e_icmp_eq_f f306_522 hc76 ?_
          refine e_iconst (v := 0) f306_525 (by decide) ?_
          have hp := Option.some.inj hp
          subst hp
          exact e_ireturn f306_526 (by decide)
      rw [if_neg hc67] at hp
      by_cases hc77 : ((hI (h) (1) (v3).toNatClampNeg) &&& (63)) = (7 : Int32)
      · rw [if_pos hc77] at hp
        refine e_sw (t := 527) f306_33 (by rw [hc77]; decide) (by rw [hc77]; decide) ?_
        refine e_aload_n f306_527 rfl ?_
        refine e_aload_n f306_528 rfl ?_
        refine e_iload_n f306_529 rfl ?_
        refine e_iconst (v := 1) f306_530 (by decide) ?_
        refine e_iadd f306_531 ?_
        by_cases hg78 : ((v3) + (1)) < (0 : Int32) ∨ hN (h) (1) ≤ ((v3) + (1)).toNatClampNeg
        · rw [if_pos hg78] at hp; cases hp
        rw [if_neg hg78] at hp
        refine e_iaload f306_532 (Or.inr (WF.x w 1 (by decide))) rfl hg78 ?_
        refine e_aload_n f306_533 rfl ?_
        refine e_iload_n f306_534 rfl ?_
        refine e_iconst (v := 2) f306_535 (by decide) ?_
        refine e_iadd f306_536 ?_
        by_cases hg79 : ((v3) + (2)) < (0 : Int32) ∨ hN (h) (1) ≤ ((v3) + (2)).toNatClampNeg
        · rw [if_pos hg79] at hp; cases hp
        rw [if_neg hg79] at hp
        refine e_iaload f306_537 (Or.inr (WF.x w 1 (by decide))) rfl hg79 ?_
        refine e_aload_n f306_538 rfl ?_
        refine e_iload_n f306_539 rfl ?_
        refine e_iconst (v := 3) f306_540 (by decide) ?_
        refine e_iadd f306_541 ?_
        by_cases hg80 : ((v3) + (3)) < (0 : Int32) ∨ hN (h) (1) ≤ ((v3) + (3)).toNatClampNeg
        · rw [if_pos hg80] at hp; cases hp
        rw [if_neg hg80] at hp
        refine e_iaload f306_542 (Or.inr (WF.x w 1 (by decide))) rfl hg80 ?_
        refine e_i2l f306_543 ?_
        refine e_bipush (v := 32) f306_544 (by decide) ?_
        refine e_lshl f306_546 ?_
        refine e_aload_n f306_547 rfl ?_
        refine e_iload_n f306_548 rfl ?_
        refine e_iconst (v := 4) f306_549 (by decide) ?_
        refine e_iadd f306_550 ?_
        by_cases hg81 : ((v3) + (4)) < (0 : Int32) ∨ hN (h) (1) ≤ ((v3) + (4)).toNatClampNeg
        · rw [if_pos hg81] at hp; cases hp
        rw [if_neg hg81] at hp
        refine e_iaload f306_551 (Or.inr (WF.x w 1 (by decide))) rfl hg81 ?_
        refine e_i2l f306_552 ?_
        refine e_ldc2 (v := 4294967295) f306_553 (by decide) ?_
        refine e_land f306_556 ?_
        refine e_lor f306_557 ?_
        obtain ⟨r82, hr83, hp⟩ := bind_some hp
        try dsimp only at hp
        refine e_callV (st := []) (o := 32) (as := [.int (hI (h) (1) ((v3) + (1)).toNatClampNeg), .int (hI (h) (1) ((v3) + (2)).toNatClampNeg), .long ((((hI (h) (1) ((v3) + (3)).toNatClampNeg).toInt64) <<< ((32 : Int32).toInt64 &&& 63)) ||| (((hI (h) (1) ((v3) + (4)).toNatClampNeg).toInt64) &&& ((4294967295 : Int64))))]) f306_558 (by decide) rfl rfl (Nat.le_of_ble_eq_true rfl) (WF.t w 32 (by decide)) (Nat.le_of_ble_eq_true rfl) (p121_ok (d + 61) F (h) w (hI (h) (1) ((v3) + (1)).toNatClampNeg) (hI (h) (1) ((v3) + (2)).toNatClampNeg) ((((hI (h) (1) ((v3) + (3)).toNatClampNeg).toInt64) <<< ((32 : Int32).toInt64 &&& 63)) ||| (((hI (h) (1) ((v3) + (4)).toNatClampNeg).toInt64) &&& ((4294967295 : Int64)))) r82 hr83) ?_
        show ex _ 306 (561, [some (.ref (1)), some (.ref (32)), some (.ref (86)), some (.int (v3))], [.int (r82.1)], r82.2) = _
        refine e_aload_n f306_561 rfl ?_
        refine e_aload_n f306_562 rfl ?_
        refine e_iload_n f306_563 rfl ?_
        refine e_iconst (v := 1) f306_564 (by decide) ?_
        refine e_iadd f306_565 ?_
        by_cases hg84 : ((v3) + (1)) < (0 : Int32) ∨ hN (r82.2) (1) ≤ ((v3) + (1)).toNatClampNeg
        · rw [if_pos hg84] at hp; cases hp
        rw [if_neg hg84] at hp
        refine e_iaload f306_566 (Or.inr (WF.x (p121_w F (h) w (hI (h) (1) ((v3) + (1)).toNatClampNeg) (hI (h) (1) ((v3) + (2)).toNatClampNeg) ((((hI (h) (1) ((v3) + (3)).toNatClampNeg).toInt64) <<< ((32 : Int32).toInt64 &&& 63)) ||| (((hI (h) (1) ((v3) + (4)).toNatClampNeg).toInt64) &&& ((4294967295 : Int64))))  r82 hr83) 1 (by decide))) rfl hg84 ?_
        refine e_aload_n f306_567 rfl ?_
        refine e_iload_n f306_568 rfl ?_
        refine e_iconst (v := 2) f306_569 (by decide) ?_
        refine e_iadd f306_570 ?_
        by_cases hg85 : ((v3) + (2)) < (0 : Int32) ∨ hN (r82.2) (1) ≤ ((v3) + (2)).toNatClampNeg
        · rw [if_pos hg85] at hp; cases hp
        rw [if_neg hg85] at hp
        refine e_iaload f306_571 (Or.inr (WF.x (p121_w F (h) w (hI (h) (1) ((v3) + (1)).toNatClampNeg) (hI (h) (1) ((v3) + (2)).toNatClampNeg) ((((hI (h) (1) ((v3) + (3)).toNatClampNeg).toInt64) <<< ((32 : Int32).toInt64 &&& 63)) ||| (((hI (h) (1) ((v3) + (4)).toNatClampNeg).toInt64) &&& ((4294967295 : Int64))))  r82 hr83) 1 (by decide))) rfl hg85 ?_
        refine e_aload_n f306_572 rfl ?_
        refine e_iload_n f306_573 rfl ?_
        refine e_iconst (v := 3) f306_574 (by decide) ?_
        refine e_iadd f306_575 ?_
        by_cases hg86 : ((v3) + (3)) < (0 : Int32) ∨ hN (r82.2) (1) ≤ ((v3) + (3)).toNatClampNeg
        · rw [if_pos hg86] at hp; cases hp
        rw [if_neg hg86] at hp
        refine e_iaload f306_576 (Or.inr (WF.x (p121_w F (h) w (hI (h) (1) ((v3) + (1)).toNatClampNeg) (hI (h) (1) ((v3) + (2)).toNatClampNeg) ((((hI (h) (1) ((v3) + (3)).toNatClampNeg).toInt64) <<< ((32 : Int32).toInt64 &&& 63)) ||| (((hI (h) (1) ((v3) + (4)).toNatClampNeg).toInt64) &&& ((4294967295 : Int64))))  r82 hr83) 1 (by decide))) rfl hg86 ?_
        refine e_i2l f306_577 ?_
        refine e_bipush (v := 32) f306_578 (by decide) ?_
        refine e_lshl f306_580 ?_
        refine e_aload_n f306_581 rfl ?_
        refine e_iload_n f306_582 rfl ?_
        refine e_iconst (v := 4) f306_583 (by decide) ?_
        refine e_iadd f306_584 ?_
        by_cases hg87 : ((v3) + (4)) < (0 : Int32) ∨ hN (r82.2) (1) ≤ ((v3) + (4)).toNatClampNeg
        · rw [if_pos hg87] at hp; cases hp
        rw [if_neg hg87] at hp
        refine e_iaload f306_585 (Or.inr (WF.x (p121_w F (h) w (hI (h) (1) ((v3) + (1)).toNatClampNeg) (hI (h) (1) ((v3) + (2)).toNatClampNeg) ((((hI (h) (1) ((v3) + (3)).toNatClampNeg).toInt64) <<< ((32 : Int32).toInt64 &&& 63)) ||| (((hI (h) (1) ((v3) + (4)).toNatClampNeg).toInt64) &&& ((4294967295 : Int64))))  r82 hr83) 1 (by decide))) rfl hg87 ?_
        refine e_i2l f306_586 ?_
        refine e_ldc2 (v := 4294967295) f306_587 (by decide) ?_
        refine e_land f306_590 ?_
        refine e_lor f306_591 ?_
        obtain ⟨r88, hr89, hp⟩ := bind_some hp
        try dsimp only at hp
        refine e_callV (st := [.int (r82.1)]) (o := 86) (as := [.int (hI (r82.2) (1) ((v3) + (1)).toNatClampNeg), .int (hI (r82.2) (1) ((v3) + (2)).toNatClampNeg), .long ((((hI (r82.2) (1) ((v3) + (3)).toNatClampNeg).toInt64) <<< ((32 : Int32).toInt64 &&& 63)) ||| (((hI (r82.2) (1) ((v3) + (4)).toNatClampNeg).toInt64) &&& ((4294967295 : Int64))))]) f306_592 (by decide) rfl rfl (Nat.le_of_ble_eq_true rfl) (WF.t (p121_w F (h) w (hI (h) (1) ((v3) + (1)).toNatClampNeg) (hI (h) (1) ((v3) + (2)).toNatClampNeg) ((((hI (h) (1) ((v3) + (3)).toNatClampNeg).toInt64) <<< ((32 : Int32).toInt64 &&& 63)) ||| (((hI (h) (1) ((v3) + (4)).toNatClampNeg).toInt64) &&& ((4294967295 : Int64))))  r82 hr83) 86 (by decide)) (Nat.le_of_ble_eq_true rfl) (p203_ok (d + 63) F (r82.2) (p121_w F (h) w (hI (h) (1) ((v3) + (1)).toNatClampNeg) (hI (h) (1) ((v3) + (2)).toNatClampNeg) ((((hI (h) (1) ((v3) + (3)).toNatClampNeg).toInt64) <<< ((32 : Int32).toInt64 &&& 63)) ||| (((hI (h) (1) ((v3) + (4)).toNatClampNeg).toInt64) &&& ((4294967295 : Int64))))  r82 hr83) (hI (r82.2) (1) ((v3) + (1)).toNatClampNeg) (hI (r82.2) (1) ((v3) + (2)).toNatClampNeg) ((((hI (r82.2) (1) ((v3) + (3)).toNatClampNeg).toInt64) <<< ((32 : Int32).toInt64 &&& 63)) ||| (((hI (r82.2) (1) ((v3) + (4)).toNatClampNeg).toInt64) &&& ((4294967295 : Int64)))) r88 hr89) ?_
        show ex _ 306 (595, [some (.ref (1)), some (.ref (32)), some (.ref (86)), some (.int (v3))], [.int (r88.1), .int (r82.1)], r88.2) = _
        by_cases hc90 : (r82.1) = ((r88.1) : Int32)
        · rw [if_pos hc90] at hp
          refine e_icmp_eq_t f306_595 hc90 ?_
          refine ex_weak (ls := [some (.ref (1)), some (.ref (32)), some (.ref (86)), some (.int (v3))]) (le2_ok ⟨Or.inr rfl, Or.inr rfl, Or.inr rfl, Or.inr rfl, trivial⟩) ?_
          exact p306_j2120_ok d F ((p306_L18 F n)) (ih) (r88.2) ((p203_w F (r82.2) (p121_w F (h) w (hI (h) (1) ((v3) + (1)).toNatClampNeg) (hI (h) (1) ((v3) + (2)).toNatClampNeg) ((((hI (h) (1) ((v3) + (3)).toNatClampNeg).toInt64) <<< ((32 : Int32).toInt64 &&& 63)) ||| (((hI (h) (1) ((v3) + (4)).toNatClampNeg).toInt64) &&& ((4294967295 : Int64))))  r82 hr83) (hI (r82.2) (1) ((v3) + (1)).toNatClampNeg) (hI (r82.2) (1) ((v3) + (2)).toNatClampNeg) ((((hI (r82.2) (1) ((v3) + (3)).toNatClampNeg).toInt64) <<< ((32 : Int32).toInt64 &&& 63)) ||| (((hI (r82.2) (1) ((v3) + (4)).toNatClampNeg).toInt64) &&& ((4294967295 : Int64))))  r88 hr89)) (v3) _ hp
        · rw [if_neg hc90] at hp
          refine e_icmp_eq_f f306_595 hc90 ?_
          refine e_iconst (v := 0) f306_598 (by decide) ?_
          have hp := Option.some.inj hp
          subst hp
          exact e_ireturn f306_599 (by decide)
      rw [if_neg hc77] at hp
      by_cases hc91 : ((hI (h) (1) (v3).toNatClampNeg) &&& (63)) = (8 : Int32)
      · rw [if_pos hc91] at hp
        refine e_sw (t := 600) f306_33 (by rw [hc91]; decide) (by rw [hc91]; decide) ?_
        refine e_aload_n f306_600 rfl ?_
        refine e_aload_n f306_601 rfl ?_
        refine e_iload_n f306_602 rfl ?_
        refine e_iconst (v := 1) f306_603 (by decide) ?_
        refine e_iadd f306_604 ?_
        by_cases hg92 : ((v3) + (1)) < (0 : Int32) ∨ hN (h) (1) ≤ ((v3) + (1)).toNatClampNeg
        · rw [if_pos hg92] at hp; cases hp
        rw [if_neg hg92] at hp
        refine e_iaload f306_605 (Or.inr (WF.x w 1 (by decide))) rfl hg92 ?_
        obtain ⟨r93, hr94, hp⟩ := bind_some hp
        try dsimp only at hp
        refine e_callV (st := []) (o := 32) (as := [.int (hI (h) (1) ((v3) + (1)).toNatClampNeg)]) f306_606 (by decide) rfl rfl (Nat.le_of_ble_eq_true rfl) (WF.t w 32 (by decide)) (Nat.le_of_ble_eq_true rfl) (p122_ok (d + 62) F (h) w (hI (h) (1) ((v3) + (1)).toNatClampNeg) r93 hr94) ?_
        show ex _ 306 (609, [some (.ref (1)), some (.ref (32)), some (.ref (86)), some (.int (v3))], [.int (r93.1)], r93.2) = _
        refine e_aload_n f306_609 rfl ?_
        refine e_aload_n f306_610 rfl ?_
        refine e_iload_n f306_611 rfl ?_
        refine e_iconst (v := 1) f306_612 (by decide) ?_
        refine e_iadd f306_613 ?_
        by_cases hg95 : ((v3) + (1)) < (0 : Int32) ∨ hN (r93.2) (1) ≤ ((v3) + (1)).toNatClampNeg
        · rw [if_pos hg95] at hp; cases hp
        rw [if_neg hg95] at hp
        refine e_iaload f306_614 (Or.inr (WF.x (p122_w F (h) w (hI (h) (1) ((v3) + (1)).toNatClampNeg)  r93 hr94) 1 (by decide))) rfl hg95 ?_
        obtain ⟨r96, hr97, hp⟩ := bind_some hp
        try dsimp only at hp
        refine e_callV (st := [.int (r93.1)]) (o := 86) (as := [.int (hI (r93.2) (1) ((v3) + (1)).toNatClampNeg)]) f306_615 (by decide) rfl rfl (Nat.le_of_ble_eq_true rfl) (WF.t (p122_w F (h) w (hI (h) (1) ((v3) + (1)).toNatClampNeg)  r93 hr94) 86 (by decide)) (Nat.le_of_ble_eq_true rfl) (p207_ok (d + 63) F (r93.2) (p122_w F (h) w (hI (h) (1) ((v3) + (1)).toNatClampNeg)  r93 hr94) (hI (r93.2) (1) ((v3) + (1)).toNatClampNeg) r96 hr97) ?_
        show ex _ 306 (618, [some (.ref (1)), some (.ref (32)), some (.ref (86)), some (.int (v3))], [.int (r96.1), .int (r93.1)], r96.2) = _
        by_cases hc98 : (r93.1) = ((r96.1) : Int32)
        · rw [if_pos hc98] at hp
          refine e_icmp_eq_t f306_618 hc98 ?_
          refine ex_weak (ls := [some (.ref (1)), some (.ref (32)), some (.ref (86)), some (.int (v3))]) (le2_ok ⟨Or.inr rfl, Or.inr rfl, Or.inr rfl, Or.inr rfl, trivial⟩) ?_
          exact p306_j2120_ok d F ((p306_L18 F n)) (ih) (r96.2) ((p207_w F (r93.2) (p122_w F (h) w (hI (h) (1) ((v3) + (1)).toNatClampNeg)  r93 hr94) (hI (r93.2) (1) ((v3) + (1)).toNatClampNeg)  r96 hr97)) (v3) _ hp
        · rw [if_neg hc98] at hp
          refine e_icmp_eq_f f306_618 hc98 ?_
          refine e_iconst (v := 0) f306_621 (by decide) ?_
          have hp := Option.some.inj hp
          subst hp
          exact e_ireturn f306_622 (by decide)
      rw [if_neg hc91] at hp
      by_cases hc99 : ((hI (h) (1) (v3).toNatClampNeg) &&& (63)) = (9 : Int32)
      · rw [if_pos hc99] at hp
        refine e_sw (t := 623) f306_33 (by rw [hc99]; decide) (by rw [hc99]; decide) ?_
        refine e_aload_n f306_623 rfl ?_
        obtain ⟨r100, hr101, hp⟩ := bind_some hp
        try dsimp only at hp
        refine e_callV (st := []) (o := 32) (as := []) f306_624 (by decide) rfl rfl (Nat.le_of_ble_eq_true rfl) (WF.t w 32 (by decide)) (Nat.le_of_ble_eq_true rfl) (p123_ok (d + 63) (h) w r100 hr101) ?_
        show ex _ 306 (627, [some (.ref (1)), some (.ref (32)), some (.ref (86)), some (.int (v3))], [.int (r100.1)], r100.2) = _
        refine e_aload_n f306_627 rfl ?_
        obtain ⟨r102, hr103, hp⟩ := bind_some hp
        try dsimp only at hp
        refine e_callV (st := [.int (r100.1)]) (o := 86) (as := []) f306_628 (by decide) rfl rfl (Nat.le_of_ble_eq_true rfl) (WF.t (p123_w (h) w  r100 hr101) 86 (by decide)) (Nat.le_of_ble_eq_true rfl) (p204_ok (d + 65) (r100.2) (p123_w (h) w  r100 hr101) r102 hr103) ?_
        show ex _ 306 (631, [some (.ref (1)), some (.ref (32)), some (.ref (86)), some (.int (v3))], [.int (r102.1), .int (r100.1)], r102.2) = _
        by_cases hc104 : (r100.1) = ((r102.1) : Int32)
        · rw [if_pos hc104] at hp
          refine e_icmp_eq_t f306_631 hc104 ?_
          refine ex_weak (ls := [some (.ref (1)), some (.ref (32)), some (.ref (86)), some (.int (v3))]) (le2_ok ⟨Or.inr rfl, Or.inr rfl, Or.inr rfl, Or.inr rfl, trivial⟩) ?_
          exact p306_j2120_ok d F ((p306_L18 F n)) (ih) (r102.2) ((p204_w (r100.2) (p123_w (h) w  r100 hr101)  r102 hr103)) (v3) _ hp
        · rw [if_neg hc104] at hp
          refine e_icmp_eq_f f306_631 hc104 ?_
          refine e_iconst (v := 0) f306_634 (by decide) ?_
          have hp := Option.some.inj hp
          subst hp
          exact e_ireturn f306_635 (by decide)
      rw [if_neg hc99] at hp
      by_cases hc105 : ((hI (h) (1) (v3).toNatClampNeg) &&& (63)) = (10 : Int32)
      · rw [if_pos hc105] at hp
        refine e_sw (t := 636) f306_33 (by rw [hc105]; decide) (by rw [hc105]; decide) ?_
        refine e_aload_n f306_636 rfl ?_
        refine e_aload_n f306_637 rfl ?_
        refine e_iload_n f306_638 rfl ?_
        refine e_iconst (v := 1) f306_639 (by decide) ?_
        refine e_iadd f306_640 ?_
        by_cases hg106 : ((v3) + (1)) < (0 : Int32) ∨ hN (h) (1) ≤ ((v3) + (1)).toNatClampNeg
        · rw [if_pos hg106] at hp; cases hp
        rw [if_neg hg106] at hp
        refine e_iaload f306_641 (Or.inr (WF.x w 1 (by decide))) rfl hg106 ?_
        obtain ⟨r107, hr108, hp⟩ := bind_some hp
        try dsimp only at hp
        refine e_callV (st := []) (o := 32) (as := [.int (hI (h) (1) ((v3) + (1)).toNatClampNeg)]) f306_642 (by decide) rfl rfl (Nat.le_of_ble_eq_true rfl) (WF.t w 32 (by decide)) (Nat.le_of_ble_eq_true rfl) (p124_ok (d + 62) F (h) w (hI (h) (1) ((v3) + (1)).toNatClampNeg) r107 hr108) ?_
        show ex _ 306 (645, [some (.ref (1)), some (.ref (32)), some (.ref (86)), some (.int (v3))], [.int (r107.1)], r107.2) = _
        refine e_aload_n f306_645 rfl ?_
        refine e_aload_n f306_646 rfl ?_
        refine e_iload_n f306_647 rfl ?_
        refine e_iconst (v := 1) f306_648 (by decide) ?_
        refine e_iadd f306_649 ?_
        by_cases hg109 : ((v3) + (1)) < (0 : Int32) ∨ hN (r107.2) (1) ≤ ((v3) + (1)).toNatClampNeg
        · rw [if_pos hg109] at hp; cases hp
        rw [if_neg hg109] at hp
        refine e_iaload f306_650 (Or.inr (WF.x (p124_w F (h) w (hI (h) (1) ((v3) + (1)).toNatClampNeg)  r107 hr108) 1 (by decide))) rfl hg109 ?_
        obtain ⟨r110, hr111, hp⟩ := bind_some hp
        try dsimp only at hp
        refine e_callV (st := [.int (r107.1)]) (o := 86) (as := [.int (hI (r107.2) (1) ((v3) + (1)).toNatClampNeg)]) f306_651 (by decide) rfl rfl (Nat.le_of_ble_eq_true rfl) (WF.t (p124_w F (h) w (hI (h) (1) ((v3) + (1)).toNatClampNeg)  r107 hr108) 86 (by decide)) (Nat.le_of_ble_eq_true rfl) (p208_ok (d + 62) F (r107.2) (p124_w F (h) w (hI (h) (1) ((v3) + (1)).toNatClampNeg)  r107 hr108) (hI (r107.2) (1) ((v3) + (1)).toNatClampNeg) r110 hr111) ?_
        show ex _ 306 (654, [some (.ref (1)), some (.ref (32)), some (.ref (86)), some (.int (v3))], [.int (r110.1), .int (r107.1)], r110.2) = _
        by_cases hc112 : (r107.1) = ((r110.1) : Int32)
        · rw [if_pos hc112] at hp
          refine e_icmp_eq_t f306_654 hc112 ?_
          refine ex_weak (ls := [some (.ref (1)), some (.ref (32)), some (.ref (86)), some (.int (v3))]) (le2_ok ⟨Or.inr rfl, Or.inr rfl, Or.inr rfl, Or.inr rfl, trivial⟩) ?_
          exact p306_j2120_ok d F ((p306_L18 F n)) (ih) (r110.2) ((p208_w F (r107.2) (p124_w F (h) w (hI (h) (1) ((v3) + (1)).toNatClampNeg)  r107 hr108) (hI (r107.2) (1) ((v3) + (1)).toNatClampNeg)  r110 hr111)) (v3) _ hp
        · rw [if_neg hc112] at hp
          refine e_icmp_eq_f f306_654 hc112 ?_
          refine e_iconst (v := 0) f306_657 (by decide) ?_
          have hp := Option.some.inj hp
          subst hp
          exact e_ireturn f306_658 (by decide)
      rw [if_neg hc105] at hp
      by_cases hc113 : ((hI (h) (1) (v3).toNatClampNeg) &&& (63)) = (11 : Int32)
      · rw [if_pos hc113] at hp
        refine e_sw (t := 659) f306_33 (by rw [hc113]; decide) (by rw [hc113]; decide) ?_
        refine e_aload_n f306_659 rfl ?_
        refine e_aload_n f306_660 rfl ?_
        refine e_iload_n f306_661 rfl ?_
        refine e_iconst (v := 1) f306_662 (by decide) ?_
        refine e_iadd f306_663 ?_
        by_cases hg114 : ((v3) + (1)) < (0 : Int32) ∨ hN (h) (1) ≤ ((v3) + (1)).toNatClampNeg
        · rw [if_pos hg114] at hp; cases hp
        rw [if_neg hg114] at hp
        refine e_iaload f306_664 (Or.inr (WF.x w 1 (by decide))) rfl hg114 ?_
        obtain ⟨r115, hr116, hp⟩ := bind_some hp
        try dsimp only at hp
        refine e_callV (st := []) (o := 32) (as := [.int (hI (h) (1) ((v3) + (1)).toNatClampNeg)]) f306_665 (by decide) rfl rfl (Nat.le_of_ble_eq_true rfl) (WF.t w 32 (by decide)) (Nat.le_of_ble_eq_true rfl) (p125_ok (d + 62) (h) w (hI (h) (1) ((v3) + (1)).toNatClampNeg) r115 hr116) ?_
        show ex _ 306 (668, [some (.ref (1)), some (.ref (32)), some (.ref (86)), some (.int (v3))], [.int (r115.1)], r115.2) = _
        refine e_aload_n f306_668 rfl ?_
        refine e_aload_n f306_669 rfl ?_
        refine e_iload_n f306_670 rfl ?_
        refine e_iconst (v := 1) f306_671 (by decide) ?_
        refine e_iadd f306_672 ?_
        by_cases hg117 : ((v3) + (1)) < (0 : Int32) ∨ hN (r115.2) (1) ≤ ((v3) + (1)).toNatClampNeg
        · rw [if_pos hg117] at hp; cases hp
        rw [if_neg hg117] at hp
        refine e_iaload f306_673 (Or.inr (WF.x (p125_w (h) w (hI (h) (1) ((v3) + (1)).toNatClampNeg)  r115 hr116) 1 (by decide))) rfl hg117 ?_
        obtain ⟨r118, hr119, hp⟩ := bind_some hp
        try dsimp only at hp
        refine e_callV (st := [.int (r115.1)]) (o := 86) (as := [.int (hI (r115.2) (1) ((v3) + (1)).toNatClampNeg)]) f306_674 (by decide) rfl rfl (Nat.le_of_ble_eq_true rfl) (WF.t (p125_w (h) w (hI (h) (1) ((v3) + (1)).toNatClampNeg)  r115 hr116) 86 (by decide)) (Nat.le_of_ble_eq_true rfl) (p209_ok (d + 62) (r115.2) (p125_w (h) w (hI (h) (1) ((v3) + (1)).toNatClampNeg)  r115 hr116) (hI (r115.2) (1) ((v3) + (1)).toNatClampNeg) r118 hr119) ?_
        show ex _ 306 (677, [some (.ref (1)), some (.ref (32)), some (.ref (86)), some (.int (v3))], [.int (r118.1), .int (r115.1)], r118.2) = _
        by_cases hc120 : (r115.1) = ((r118.1) : Int32)
        · rw [if_pos hc120] at hp
          refine e_icmp_eq_t f306_677 hc120 ?_
          refine ex_weak (ls := [some (.ref (1)), some (.ref (32)), some (.ref (86)), some (.int (v3))]) (le2_ok ⟨Or.inr rfl, Or.inr rfl, Or.inr rfl, Or.inr rfl, trivial⟩) ?_
          exact p306_j2120_ok d F ((p306_L18 F n)) (ih) (r118.2) ((p209_w (r115.2) (p125_w (h) w (hI (h) (1) ((v3) + (1)).toNatClampNeg)  r115 hr116) (hI (r115.2) (1) ((v3) + (1)).toNatClampNeg)  r118 hr119)) (v3) _ hp
        · rw [if_neg hc120] at hp
          refine e_icmp_eq_f f306_677 hc120 ?_
          refine e_iconst (v := 0) f306_680 (by decide) ?_
          have hp := Option.some.inj hp
          subst hp
          exact e_ireturn f306_681 (by decide)
      rw [if_neg hc113] at hp
      by_cases hc121 : ((hI (h) (1) (v3).toNatClampNeg) &&& (63)) = (12 : Int32)
      · rw [if_pos hc121] at hp
        refine e_sw (t := 682) f306_33 (by rw [hc121]; decide) (by rw [hc121]; decide) ?_
        refine e_aload_n f306_682 rfl ?_
        refine e_aload_n f306_683 rfl ?_
        refine e_iload_n f306_684 rfl ?_
        refine e_iconst (v := 1) f306_685 (by decide) ?_
        refine e_iadd f306_686 ?_
        by_cases hg122 : ((v3) + (1)) < (0 : Int32) ∨ hN (h) (1) ≤ ((v3) + (1)).toNatClampNeg
        · rw [if_pos hg122] at hp; cases hp
        rw [if_neg hg122] at hp
        refine e_iaload f306_687 (Or.inr (WF.x w 1 (by decide))) rfl hg122 ?_
        refine e_aload_n f306_688 rfl ?_
        refine e_iload_n f306_689 rfl ?_
        refine e_iconst (v := 2) f306_690 (by decide) ?_
        refine e_iadd f306_691 ?_
        by_cases hg123 : ((v3) + (2)) < (0 : Int32) ∨ hN (h) (1) ≤ ((v3) + (2)).toNatClampNeg
        · rw [if_pos hg123] at hp; cases hp
        rw [if_neg hg123] at hp
        refine e_iaload f306_692 (Or.inr (WF.x w 1 (by decide))) rfl hg123 ?_
        obtain ⟨r124, hr125, hp⟩ := bind_some hp
        try dsimp only at hp
        refine e_callV (st := []) (o := 32) (as := [.int (hI (h) (1) ((v3) + (1)).toNatClampNeg), .int (hI (h) (1) ((v3) + (2)).toNatClampNeg)]) f306_693 (by decide) rfl rfl (Nat.le_of_ble_eq_true rfl) (WF.t w 32 (by decide)) (Nat.le_of_ble_eq_true rfl) (p126_ok (d + 63) (h) w (hI (h) (1) ((v3) + (1)).toNatClampNeg) (hI (h) (1) ((v3) + (2)).toNatClampNeg) r124 hr125) ?_
        show ex _ 306 (696, [some (.ref (1)), some (.ref (32)), some (.ref (86)), some (.int (v3))], [.int (r124)], h) = _
        refine e_aload_n f306_696 rfl ?_
        refine e_aload_n f306_697 rfl ?_
        refine e_iload_n f306_698 rfl ?_
        refine e_iconst (v := 1) f306_699 (by decide) ?_
        refine e_iadd f306_700 ?_
        by_cases hg126 : ((v3) + (1)) < (0 : Int32) ∨ hN (h) (1) ≤ ((v3) + (1)).toNatClampNeg
        · rw [if_pos hg126] at hp; cases hp
        rw [if_neg hg126] at hp
        refine e_iaload f306_701 (Or.inr (WF.x w 1 (by decide))) rfl hg126 ?_
        refine e_aload_n f306_702 rfl ?_
        refine e_iload_n f306_703 rfl ?_
        refine e_iconst (v := 2) f306_704 (by decide) ?_
        refine e_iadd f306_705 ?_
        by_cases hg127 : ((v3) + (2)) < (0 : Int32) ∨ hN (h) (1) ≤ ((v3) + (2)).toNatClampNeg
        · rw [if_pos hg127] at hp; cases hp
        rw [if_neg hg127] at hp
        refine e_iaload f306_706 (Or.inr (WF.x w 1 (by decide))) rfl hg127 ?_
        obtain ⟨r128, hr129, hp⟩ := bind_some hp
        try dsimp only at hp
        refine e_callV (st := [.int (r124)]) (o := 86) (as := [.int (hI (h) (1) ((v3) + (1)).toNatClampNeg), .int (hI (h) (1) ((v3) + (2)).toNatClampNeg)]) f306_707 (by decide) rfl rfl (Nat.le_of_ble_eq_true rfl) (WF.t w 86 (by decide)) (Nat.le_of_ble_eq_true rfl) (p211_ok (d + 63) F (h) w (hI (h) (1) ((v3) + (1)).toNatClampNeg) (hI (h) (1) ((v3) + (2)).toNatClampNeg) r128 hr129) ?_
        show ex _ 306 (710, [some (.ref (1)), some (.ref (32)), some (.ref (86)), some (.int (v3))], [.int (r128), .int (r124)], h) = _
        by_cases hc130 : (r124) = ((r128) : Int32)
        · rw [if_pos hc130] at hp
          refine e_icmp_eq_t f306_710 hc130 ?_
          refine ex_weak (ls := [some (.ref (1)), some (.ref (32)), some (.ref (86)), some (.int (v3))]) (le2_ok ⟨Or.inr rfl, Or.inr rfl, Or.inr rfl, Or.inr rfl, trivial⟩) ?_
          exact p306_j2120_ok d F ((p306_L18 F n)) (ih) (h) (w) (v3) _ hp
        · rw [if_neg hc130] at hp
          refine e_icmp_eq_f f306_710 hc130 ?_
          refine e_iconst (v := 0) f306_713 (by decide) ?_
          have hp := Option.some.inj hp
          subst hp
          exact e_ireturn f306_714 (by decide)
      rw [if_neg hc121] at hp
      by_cases hc131 : ((hI (h) (1) (v3).toNatClampNeg) &&& (63)) = (13 : Int32)
      · rw [if_pos hc131] at hp
        refine e_sw (t := 715) f306_33 (by rw [hc131]; decide) (by rw [hc131]; decide) ?_
        refine e_aload_n f306_715 rfl ?_
        refine e_aload_n f306_716 rfl ?_
        refine e_iload_n f306_717 rfl ?_
        refine e_iconst (v := 1) f306_718 (by decide) ?_
        refine e_iadd f306_719 ?_
        by_cases hg132 : ((v3) + (1)) < (0 : Int32) ∨ hN (h) (1) ≤ ((v3) + (1)).toNatClampNeg
        · rw [if_pos hg132] at hp; cases hp
        rw [if_neg hg132] at hp
        refine e_iaload f306_720 (Or.inr (WF.x w 1 (by decide))) rfl hg132 ?_
        obtain ⟨r133, hr134, hp⟩ := bind_some hp
        try dsimp only at hp
        refine e_callV (st := []) (o := 32) (as := [.int (hI (h) (1) ((v3) + (1)).toNatClampNeg)]) f306_721 (by decide) rfl rfl (Nat.le_of_ble_eq_true rfl) (WF.t w 32 (by decide)) (Nat.le_of_ble_eq_true rfl) (p127_ok (d + 64) (h) w (hI (h) (1) ((v3) + (1)).toNatClampNeg) r133 hr134) ?_
        show ex _ 306 (724, [some (.ref (1)), some (.ref (32)), some (.ref (86)), some (.int (v3))], [.int (r133.1)], r133.2) = _
        refine e_aload_n f306_724 rfl ?_
        refine e_aload_n f306_725 rfl ?_
        refine e_iload_n f306_726 rfl ?_
        refine e_iconst (v := 1) f306_727 (by decide) ?_
        refine e_iadd f306_728 ?_
        by_cases hg135 : ((v3) + (1)) < (0 : Int32) ∨ hN (r133.2) (1) ≤ ((v3) + (1)).toNatClampNeg
        · rw [if_pos hg135] at hp; cases hp
        rw [if_neg hg135] at hp
        refine e_iaload f306_729 (Or.inr (WF.x (p127_w (h) w (hI (h) (1) ((v3) + (1)).toNatClampNeg)  r133 hr134) 1 (by decide))) rfl hg135 ?_
        obtain ⟨r136, hr137, hp⟩ := bind_some hp
        try dsimp only at hp
        refine e_callV (st := [.int (r133.1)]) (o := 86) (as := [.int (hI (r133.2) (1) ((v3) + (1)).toNatClampNeg)]) f306_730 (by decide) rfl rfl (Nat.le_of_ble_eq_true rfl) (WF.t (p127_w (h) w (hI (h) (1) ((v3) + (1)).toNatClampNeg)  r133 hr134) 86 (by decide)) (Nat.le_of_ble_eq_true rfl) (p212_ok (d + 64) (r133.2) (p127_w (h) w (hI (h) (1) ((v3) + (1)).toNatClampNeg)  r133 hr134) (hI (r133.2) (1) ((v3) + (1)).toNatClampNeg) r136 hr137) ?_
        show ex _ 306 (733, [some (.ref (1)), some (.ref (32)), some (.ref (86)), some (.int (v3))], [.int (r136.1), .int (r133.1)], r136.2) = _
        by_cases hc138 : (r133.1) = ((r136.1) : Int32)
        · rw [if_pos hc138] at hp
          refine e_icmp_eq_t f306_733 hc138 ?_
          refine ex_weak (ls := [some (.ref (1)), some (.ref (32)), some (.ref (86)), some (.int (v3))]) (le2_ok ⟨Or.inr rfl, Or.inr rfl, Or.inr rfl, Or.inr rfl, trivial⟩) ?_
          exact p306_j2120_ok d F ((p306_L18 F n)) (ih) (r136.2) ((p212_w (r133.2) (p127_w (h) w (hI (h) (1) ((v3) + (1)).toNatClampNeg)  r133 hr134) (hI (r133.2) (1) ((v3) + (1)).toNatClampNeg)  r136 hr137)) (v3) _ hp
        · rw [if_neg hc138] at hp
          refine e_icmp_eq_f f306_733 hc138 ?_
          refine e_iconst (v := 0) f306_736 (by decide) ?_
          have hp := Option.some.inj hp
          subst hp
          exact e_ireturn f306_737 (by decide)
      rw [if_neg hc131] at hp
      by_cases hc139 : ((hI (h) (1) (v3).toNatClampNeg) &&& (63)) = (14 : Int32)
      · rw [if_pos hc139] at hp
        refine e_sw (t := 738) f306_33 (by rw [hc139]; decide) (by rw [hc139]; decide) ?_
        refine e_aload_n f306_738 rfl ?_
        refine e_aload_n f306_739 rfl ?_
        refine e_iload_n f306_740 rfl ?_
        refine e_iconst (v := 1) f306_741 (by decide) ?_
        refine e_iadd f306_742 ?_
        by_cases hg140 : ((v3) + (1)) < (0 : Int32) ∨ hN (h) (1) ≤ ((v3) + (1)).toNatClampNeg
        · rw [if_pos hg140] at hp; cases hp
        rw [if_neg hg140] at hp
        refine e_iaload f306_743 (Or.inr (WF.x w 1 (by decide))) rfl hg140 ?_
        refine e_aload_n f306_744 rfl ?_
        refine e_iload_n f306_745 rfl ?_
        refine e_iconst (v := 2) f306_746 (by decide) ?_
        refine e_iadd f306_747 ?_
        by_cases hg141 : ((v3) + (2)) < (0 : Int32) ∨ hN (h) (1) ≤ ((v3) + (2)).toNatClampNeg
        · rw [if_pos hg141] at hp; cases hp
        rw [if_neg hg141] at hp
        refine e_iaload f306_748 (Or.inr (WF.x w 1 (by decide))) rfl hg141 ?_
        refine e_aload_n f306_749 rfl ?_
        refine e_iload_n f306_750 rfl ?_
        refine e_iconst (v := 3) f306_751 (by decide) ?_
        refine e_iadd f306_752 ?_
        by_cases hg142 : ((v3) + (3)) < (0 : Int32) ∨ hN (h) (1) ≤ ((v3) + (3)).toNatClampNeg
        · rw [if_pos hg142] at hp; cases hp
        rw [if_neg hg142] at hp
        refine e_iaload f306_753 (Or.inr (WF.x w 1 (by decide))) rfl hg142 ?_
        refine e_aload_n f306_754 rfl ?_
        refine e_iload_n f306_755 rfl ?_
        refine e_iconst (v := 4) f306_756 (by decide) ?_
        refine e_iadd f306_757 ?_
        by_cases hg143 : ((v3) + (4)) < (0 : Int32) ∨ hN (h) (1) ≤ ((v3) + (4)).toNatClampNeg
        · rw [if_pos hg143] at hp; cases hp
        rw [if_neg hg143] at hp
        refine e_iaload f306_758 (Or.inr (WF.x w 1 (by decide))) rfl hg143 ?_
        obtain ⟨r144, hr145, hp⟩ := bind_some hp
        try dsimp only at hp
        refine e_callV (st := []) (o := 32) (as := [.int (hI (h) (1) ((v3) + (1)).toNatClampNeg), .int (hI (h) (1) ((v3) + (2)).toNatClampNeg), .int (hI (h) (1) ((v3) + (3)).toNatClampNeg), .int (hI (h) (1) ((v3) + (4)).toNatClampNeg)]) f306_759 (by decide) rfl rfl (Nat.le_of_ble_eq_true rfl) (WF.t w 32 (by decide)) (Nat.le_of_ble_eq_true rfl) (p128_ok (d + 63) (h) w (hI (h) (1) ((v3) + (1)).toNatClampNeg) (hI (h) (1) ((v3) + (2)).toNatClampNeg) (hI (h) (1) ((v3) + (3)).toNatClampNeg) (hI (h) (1) ((v3) + (4)).toNatClampNeg) r144 hr145) ?_
        show ex _ 306 (762, [some (.ref (1)), some (.ref (32)), some (.ref (86)), some (.int (v3))], [.int (r144.1)], r144.2) = _
        refine e_aload_n f306_762 rfl ?_
        refine e_aload_n f306_763 rfl ?_
        refine e_iload_n f306_764 rfl ?_
        refine e_iconst (v := 1) f306_765 (by decide) ?_
        refine e_iadd f306_766 ?_
        by_cases hg146 : ((v3) + (1)) < (0 : Int32) ∨ hN (r144.2) (1) ≤ ((v3) + (1)).toNatClampNeg
        · rw [if_pos hg146] at hp; cases hp
        rw [if_neg hg146] at hp
        refine e_iaload f306_767 (Or.inr (WF.x (p128_w (h) w (hI (h) (1) ((v3) + (1)).toNatClampNeg) (hI (h) (1) ((v3) + (2)).toNatClampNeg) (hI (h) (1) ((v3) + (3)).toNatClampNeg) (hI (h) (1) ((v3) + (4)).toNatClampNeg)  r144 hr145) 1 (by decide))) rfl hg146 ?_
        refine e_aload_n f306_768 rfl ?_
        refine e_iload_n f306_769 rfl ?_
        refine e_iconst (v := 2) f306_770 (by decide) ?_
        refine e_iadd f306_771 ?_
        by_cases hg147 : ((v3) + (2)) < (0 : Int32) ∨ hN (r144.2) (1) ≤ ((v3) + (2)).toNatClampNeg
        · rw [if_pos hg147] at hp; cases hp
        rw [if_neg hg147] at hp
        refine e_iaload f306_772 (Or.inr (WF.x (p128_w (h) w (hI (h) (1) ((v3) + (1)).toNatClampNeg) (hI (h) (1) ((v3) + (2)).toNatClampNeg) (hI (h) (1) ((v3) + (3)).toNatClampNeg) (hI (h) (1) ((v3) + (4)).toNatClampNeg)  r144 hr145) 1 (by decide))) rfl hg147 ?_
        refine e_aload_n f306_773 rfl ?_
        refine e_iload_n f306_774 rfl ?_
        refine e_iconst (v := 3) f306_775 (by decide) ?_
        refine e_iadd f306_776 ?_
        by_cases hg148 : ((v3) + (3)) < (0 : Int32) ∨ hN (r144.2) (1) ≤ ((v3) + (3)).toNatClampNeg
        · rw [if_pos hg148] at hp; cases hp
        rw [if_neg hg148] at hp
        refine e_iaload f306_777 (Or.inr (WF.x (p128_w (h) w (hI (h) (1) ((v3) + (1)).toNatClampNeg) (hI (h) (1) ((v3) + (2)).toNatClampNeg) (hI (h) (1) ((v3) + (3)).toNatClampNeg) (hI (h) (1) ((v3) + (4)).toNatClampNeg)  r144 hr145) 1 (by decide))) rfl hg148 ?_
        refine e_aload_n f306_778 rfl ?_
        refine e_iload_n f306_779 rfl ?_
        refine e_iconst (v := 4) f306_780 (by decide) ?_
        refine e_iadd f306_781 ?_
        by_cases hg149 : ((v3) + (4)) < (0 : Int32) ∨ hN (r144.2) (1) ≤ ((v3) + (4)).toNatClampNeg
        · rw [if_pos hg149] at hp; cases hp
        rw [if_neg hg149] at hp
        refine e_iaload f306_782 (Or.inr (WF.x (p128_w (h) w (hI (h) (1) ((v3) + (1)).toNatClampNeg) (hI (h) (1) ((v3) + (2)).toNatClampNeg) (hI (h) (1) ((v3) + (3)).toNatClampNeg) (hI (h) (1) ((v3) + (4)).toNatClampNeg)  r144 hr145) 1 (by decide))) rfl hg149 ?_
        obtain ⟨r150, hr151, hp⟩ := bind_some hp
        try dsimp only at hp
        refine e_callV (st := [.int (r144.1)]) (o := 86) (as := [.int (hI (r144.2) (1) ((v3) + (1)).toNatClampNeg), .int (hI (r144.2) (1) ((v3) + (2)).toNatClampNeg), .int (hI (r144.2) (1) ((v3) + (3)).toNatClampNeg), .int (hI (r144.2) (1) ((v3) + (4)).toNatClampNeg)]) f306_783 (by decide) rfl rfl (Nat.le_of_ble_eq_true rfl) (WF.t (p128_w (h) w (hI (h) (1) ((v3) + (1)).toNatClampNeg) (hI (h) (1) ((v3) + (2)).toNatClampNeg) (hI (h) (1) ((v3) + (3)).toNatClampNeg) (hI (h) (1) ((v3) + (4)).toNatClampNeg)  r144 hr145) 86 (by decide)) (Nat.le_of_ble_eq_true rfl) (p214_ok (d + 63) (r144.2) (p128_w (h) w (hI (h) (1) ((v3) + (1)).toNatClampNeg) (hI (h) (1) ((v3) + (2)).toNatClampNeg) (hI (h) (1) ((v3) + (3)).toNatClampNeg) (hI (h) (1) ((v3) + (4)).toNatClampNeg)  r144 hr145) (hI (r144.2) (1) ((v3) + (1)).toNatClampNeg) (hI (r144.2) (1) ((v3) + (2)).toNatClampNeg) (hI (r144.2) (1) ((v3) + (3)).toNatClampNeg) (hI (r144.2) (1) ((v3) + (4)).toNatClampNeg) r150 hr151) ?_
        show ex _ 306 (786, [some (.ref (1)), some (.ref (32)), some (.ref (86)), some (.int (v3))], [.int (r150.1), .int (r144.1)], r150.2) = _
        by_cases hc152 : (r144.1) = ((r150.1) : Int32)
        · rw [if_pos hc152] at hp
          refine e_icmp_eq_t f306_786 hc152 ?_
          refine ex_weak (ls := [some (.ref (1)), some (.ref (32)), some (.ref (86)), some (.int (v3))]) (le2_ok ⟨Or.inr rfl, Or.inr rfl, Or.inr rfl, Or.inr rfl, trivial⟩) ?_
          exact p306_j2120_ok d F ((p306_L18 F n)) (ih) (r150.2) ((p214_w (r144.2) (p128_w (h) w (hI (h) (1) ((v3) + (1)).toNatClampNeg) (hI (h) (1) ((v3) + (2)).toNatClampNeg) (hI (h) (1) ((v3) + (3)).toNatClampNeg) (hI (h) (1) ((v3) + (4)).toNatClampNeg)  r144 hr145) (hI (r144.2) (1) ((v3) + (1)).toNatClampNeg) (hI (r144.2) (1) ((v3) + (2)).toNatClampNeg) (hI (r144.2) (1) ((v3) + (3)).toNatClampNeg) (hI (r144.2) (1) ((v3) + (4)).toNatClampNeg)  r150 hr151)) (v3) _ hp
        · rw [if_neg hc152] at hp
          refine e_icmp_eq_f f306_786 hc152 ?_
          refine e_iconst (v := 0) f306_789 (by decide) ?_
          have hp := Option.some.inj hp
          subst hp
          exact e_ireturn f306_790 (by decide)
      rw [if_neg hc139] at hp
      by_cases hc153 : ((hI (h) (1) (v3).toNatClampNeg) &&& (63)) = (15 : Int32)
      · rw [if_pos hc153] at hp
        refine e_sw (t := 791) f306_33 (by rw [hc153]; decide) (by rw [hc153]; decide) ?_
        refine e_aload_n f306_791 rfl ?_
        refine e_aload_n f306_792 rfl ?_
        refine e_iload_n f306_793 rfl ?_
        refine e_iconst (v := 1) f306_794 (by decide) ?_
        refine e_iadd f306_795 ?_
        by_cases hg154 : ((v3) + (1)) < (0 : Int32) ∨ hN (h) (1) ≤ ((v3) + (1)).toNatClampNeg
        · rw [if_pos hg154] at hp; cases hp
        rw [if_neg hg154] at hp
        refine e_iaload f306_796 (Or.inr (WF.x w 1 (by decide))) rfl hg154 ?_
        obtain ⟨r155, hr156, hp⟩ := bind_some hp
        try dsimp only at hp
        refine e_callV (st := []) (o := 32) (as := [.int (hI (h) (1) ((v3) + (1)).toNatClampNeg)]) f306_797 (by decide) rfl rfl (Nat.le_of_ble_eq_true rfl) (WF.t w 32 (by decide)) (Nat.le_of_ble_eq_true rfl) (p129_ok (d + 63) (h) w (hI (h) (1) ((v3) + (1)).toNatClampNeg) r155 hr156) ?_
        show ex _ 306 (800, [some (.ref (1)), some (.ref (32)), some (.ref (86)), some (.int (v3))], [.int (r155.1)], r155.2) = _
        refine e_aload_n f306_800 rfl ?_
        refine e_aload_n f306_801 rfl ?_
        refine e_iload_n f306_802 rfl ?_
        refine e_iconst (v := 1) f306_803 (by decide) ?_
        refine e_iadd f306_804 ?_
        by_cases hg157 : ((v3) + (1)) < (0 : Int32) ∨ hN (r155.2) (1) ≤ ((v3) + (1)).toNatClampNeg
        · rw [if_pos hg157] at hp; cases hp
        rw [if_neg hg157] at hp
        refine e_iaload f306_805 (Or.inr (WF.x (p129_w (h) w (hI (h) (1) ((v3) + (1)).toNatClampNeg)  r155 hr156) 1 (by decide))) rfl hg157 ?_
        obtain ⟨r158, hr159, hp⟩ := bind_some hp
        try dsimp only at hp
        refine e_callV (st := [.int (r155.1)]) (o := 86) (as := [.int (hI (r155.2) (1) ((v3) + (1)).toNatClampNeg)]) f306_806 (by decide) rfl rfl (Nat.le_of_ble_eq_true rfl) (WF.t (p129_w (h) w (hI (h) (1) ((v3) + (1)).toNatClampNeg)  r155 hr156) 86 (by decide)) (Nat.le_of_ble_eq_true rfl) (p215_ok (d + 64) (r155.2) (p129_w (h) w (hI (h) (1) ((v3) + (1)).toNatClampNeg)  r155 hr156) (hI (r155.2) (1) ((v3) + (1)).toNatClampNeg) r158 hr159) ?_
        show ex _ 306 (809, [some (.ref (1)), some (.ref (32)), some (.ref (86)), some (.int (v3))], [.int (r158.1), .int (r155.1)], r158.2) = _
        by_cases hc160 : (r155.1) = ((r158.1) : Int32)
        · rw [if_pos hc160] at hp
          refine e_icmp_eq_t f306_809 hc160 ?_
          refine ex_weak (ls := [some (.ref (1)), some (.ref (32)), some (.ref (86)), some (.int (v3))]) (le2_ok ⟨Or.inr rfl, Or.inr rfl, Or.inr rfl, Or.inr rfl, trivial⟩) ?_
          exact p306_j2120_ok d F ((p306_L18 F n)) (ih) (r158.2) ((p215_w (r155.2) (p129_w (h) w (hI (h) (1) ((v3) + (1)).toNatClampNeg)  r155 hr156) (hI (r155.2) (1) ((v3) + (1)).toNatClampNeg)  r158 hr159)) (v3) _ hp
        · rw [if_neg hc160] at hp
          refine e_icmp_eq_f f306_809 hc160 ?_
          refine e_iconst (v := 0) f306_812 (by decide) ?_
          have hp := Option.some.inj hp
          subst hp
          exact e_ireturn f306_813 (by decide)
      rw [if_neg hc153] at hp
      by_cases hc161 : ((hI (h) (1) (v3).toNatClampNeg) &&& (63)) = (16 : Int32)
      · rw [if_pos hc161] at hp
        refine e_sw (t := 814) f306_33 (by rw [hc161]; decide) (by rw [hc161]; decide) ?_
        refine e_aload_n f306_814 rfl ?_
        refine e_aload_n f306_815 rfl ?_
        refine e_iload_n f306_816 rfl ?_
        refine e_iconst (v := 1) f306_817 (by decide) ?_
        refine e_iadd f306_818 ?_
        by_cases hg162 : ((v3) + (1)) < (0 : Int32) ∨ hN (h) (1) ≤ ((v3) + (1)).toNatClampNeg
        · rw [if_pos hg162] at hp; cases hp
        rw [if_neg hg162] at hp
        refine e_iaload f306_819 (Or.inr (WF.x w 1 (by decide))) rfl hg162 ?_
        obtain ⟨r163, hr164, hp⟩ := bind_some hp
        try dsimp only at hp
        refine e_callV (st := []) (o := 32) (as := [.int (hI (h) (1) ((v3) + (1)).toNatClampNeg)]) f306_820 (by decide) rfl rfl (Nat.le_of_ble_eq_true rfl) (WF.t w 32 (by decide)) (Nat.le_of_ble_eq_true rfl) (p130_ok (d + 63) (h) w (hI (h) (1) ((v3) + (1)).toNatClampNeg) r163 hr164) ?_
        show ex _ 306 (823, [some (.ref (1)), some (.ref (32)), some (.ref (86)), some (.int (v3))], [.int (r163.1)], r163.2) = _
        refine e_aload_n f306_823 rfl ?_
        refine e_aload_n f306_824 rfl ?_
        refine e_iload_n f306_825 rfl ?_
        refine e_iconst (v := 1) f306_826 (by decide) ?_
        refine e_iadd f306_827 ?_
        by_cases hg165 : ((v3) + (1)) < (0 : Int32) ∨ hN (r163.2) (1) ≤ ((v3) + (1)).toNatClampNeg
        · rw [if_pos hg165] at hp; cases hp
        rw [if_neg hg165] at hp
        refine e_iaload f306_828 (Or.inr (WF.x (p130_w (h) w (hI (h) (1) ((v3) + (1)).toNatClampNeg)  r163 hr164) 1 (by decide))) rfl hg165 ?_
        obtain ⟨r166, hr167, hp⟩ := bind_some hp
        try dsimp only at hp
        refine e_callV (st := [.int (r163.1)]) (o := 86) (as := [.int (hI (r163.2) (1) ((v3) + (1)).toNatClampNeg)]) f306_829 (by decide) rfl rfl (Nat.le_of_ble_eq_true rfl) (WF.t (p130_w (h) w (hI (h) (1) ((v3) + (1)).toNatClampNeg)  r163 hr164) 86 (by decide)) (Nat.le_of_ble_eq_true rfl) (p217_ok (d + 64) (r163.2) (p130_w (h) w (hI (h) (1) ((v3) + (1)).toNatClampNeg)  r163 hr164) (hI (r163.2) (1) ((v3) + (1)).toNatClampNeg) r166 hr167) ?_
        show ex _ 306 (832, [some (.ref (1)), some (.ref (32)), some (.ref (86)), some (.int (v3))], [.int (r166.1), .int (r163.1)], r166.2) = _
        by_cases hc168 : (r163.1) = ((r166.1) : Int32)
        · rw [if_pos hc168] at hp
          refine e_icmp_eq_t f306_832 hc168 ?_
          refine ex_weak (ls := [some (.ref (1)), some (.ref (32)), some (.ref (86)), some (.int (v3))]) (le2_ok ⟨Or.inr rfl, Or.inr rfl, Or.inr rfl, Or.inr rfl, trivial⟩) ?_
          exact p306_j2120_ok d F ((p306_L18 F n)) (ih) (r166.2) ((p217_w (r163.2) (p130_w (h) w (hI (h) (1) ((v3) + (1)).toNatClampNeg)  r163 hr164) (hI (r163.2) (1) ((v3) + (1)).toNatClampNeg)  r166 hr167)) (v3) _ hp
        · rw [if_neg hc168] at hp
          refine e_icmp_eq_f f306_832 hc168 ?_
          refine e_iconst (v := 0) f306_835 (by decide) ?_
          have hp := Option.some.inj hp
          subst hp
          exact e_ireturn f306_836 (by decide)
      rw [if_neg hc161] at hp
      by_cases hc169 : ((hI (h) (1) (v3).toNatClampNeg) &&& (63)) = (17 : Int32)
      · rw [if_pos hc169] at hp
        refine e_sw (t := 837) f306_33 (by rw [hc169]; decide) (by rw [hc169]; decide) ?_
        refine e_aload_n f306_837 rfl ?_
        refine e_aload_n f306_838 rfl ?_
        refine e_iload_n f306_839 rfl ?_
        refine e_iconst (v := 1) f306_840 (by decide) ?_
        refine e_iadd f306_841 ?_
        by_cases hg170 : ((v3) + (1)) < (0 : Int32) ∨ hN (h) (1) ≤ ((v3) + (1)).toNatClampNeg
        · rw [if_pos hg170] at hp; cases hp
        rw [if_neg hg170] at hp
        refine e_iaload f306_842 (Or.inr (WF.x w 1 (by decide))) rfl hg170 ?_
        refine e_aload_n f306_843 rfl ?_
        refine e_iload_n f306_844 rfl ?_
        refine e_iconst (v := 2) f306_845 (by decide) ?_
        refine e_iadd f306_846 ?_
        by_cases hg171 : ((v3) + (2)) < (0 : Int32) ∨ hN (h) (1) ≤ ((v3) + (2)).toNatClampNeg
        · rw [if_pos hg171] at hp; cases hp
        rw [if_neg hg171] at hp
        refine e_iaload f306_847 (Or.inr (WF.x w 1 (by decide))) rfl hg171 ?_
        refine e_aload_n f306_848 rfl ?_
        refine e_iload_n f306_849 rfl ?_
        refine e_iconst (v := 3) f306_850 (by decide) ?_
        refine e_iadd f306_851 ?_
        by_cases hg172 : ((v3) + (3)) < (0 : Int32) ∨ hN (h) (1) ≤ ((v3) + (3)).toNatClampNeg
        · rw [if_pos hg172] at hp; cases hp
        rw [if_neg hg172] at hp
        refine e_iaload f306_852 (Or.inr (WF.x w 1 (by decide))) rfl hg172 ?_
        refine e_aload_n f306_853 rfl ?_
        refine e_iload_n f306_854 rfl ?_
        refine e_iconst (v := 4) f306_855 (by decide) ?_
        refine e_iadd f306_856 ?_
        by_cases hg173 : ((v3) + (4)) < (0 : Int32) ∨ hN (h) (1) ≤ ((v3) + (4)).toNatClampNeg
        · rw [if_pos hg173] at hp; cases hp
        rw [if_neg hg173] at hp
        refine e_iaload f306_857 (Or.inr (WF.x w 1 (by decide))) rfl hg173 ?_
        refine e_aload_n f306_858 rfl ?_
        refine e_iload_n f306_859 rfl ?_
        refine e_iconst (v := 5) f306_860 (by decide) ?_
        refine e_iadd f306_861 ?_
        by_cases hg174 : ((v3) + (5)) < (0 : Int32) ∨ hN (h) (1) ≤ ((v3) + (5)).toNatClampNeg
        · rw [if_pos hg174] at hp; cases hp
        rw [if_neg hg174] at hp
        refine e_iaload f306_862 (Or.inr (WF.x w 1 (by decide))) rfl hg174 ?_
        refine e_aload_n f306_863 rfl ?_
        refine e_iload_n f306_864 rfl ?_
        refine e_bipush (v := 6) f306_865 (by decide) ?_
        refine e_iadd f306_867 ?_
        by_cases hg175 : ((v3) + (6)) < (0 : Int32) ∨ hN (h) (1) ≤ ((v3) + (6)).toNatClampNeg
        · rw [if_pos hg175] at hp; cases hp
        rw [if_neg hg175] at hp
        refine e_iaload f306_868 (Or.inr (WF.x w 1 (by decide))) rfl hg175 ?_
        refine e_aload_n f306_869 rfl ?_
        refine e_iload_n f306_870 rfl ?_
        refine e_bipush (v := 7) f306_871 (by decide) ?_
        refine e_iadd f306_873 ?_
        by_cases hg176 : ((v3) + (7)) < (0 : Int32) ∨ hN (h) (1) ≤ ((v3) + (7)).toNatClampNeg
        · rw [if_pos hg176] at hp; cases hp
        rw [if_neg hg176] at hp
        refine e_iaload f306_874 (Or.inr (WF.x w 1 (by decide))) rfl hg176 ?_
        obtain ⟨r177, hr178, hp⟩ := bind_some hp
        try dsimp only at hp
        refine e_callV (st := []) (o := 32) (as := [.int (hI (h) (1) ((v3) + (1)).toNatClampNeg), .int (hI (h) (1) ((v3) + (2)).toNatClampNeg), .int (hI (h) (1) ((v3) + (3)).toNatClampNeg), .int (hI (h) (1) ((v3) + (4)).toNatClampNeg), .int (hI (h) (1) ((v3) + (5)).toNatClampNeg), .int (hI (h) (1) ((v3) + (6)).toNatClampNeg), .int (hI (h) (1) ((v3) + (7)).toNatClampNeg)]) f306_875 (by decide) rfl rfl (Nat.le_of_ble_eq_true rfl) (WF.t w 32 (by decide)) (Nat.le_of_ble_eq_true rfl) (p131_ok (d + 62) (h) w (hI (h) (1) ((v3) + (1)).toNatClampNeg) (hI (h) (1) ((v3) + (2)).toNatClampNeg) (hI (h) (1) ((v3) + (3)).toNatClampNeg) (hI (h) (1) ((v3) + (4)).toNatClampNeg) (hI (h) (1) ((v3) + (5)).toNatClampNeg) (hI (h) (1) ((v3) + (6)).toNatClampNeg) (hI (h) (1) ((v3) + (7)).toNatClampNeg) r177 hr178) ?_
        show ex _ 306 (878, [some (.ref (1)), some (.ref (32)), some (.ref (86)), some (.int (v3))], [.int (r177.1)], r177.2) = _
        refine e_aload_n f306_878 rfl ?_
        refine e_aload_n f306_879 rfl ?_
        refine e_iload_n f306_880 rfl ?_
        refine e_iconst (v := 1) f306_881 (by decide) ?_
        refine e_iadd f306_882 ?_
        by_cases hg179 : ((v3) + (1)) < (0 : Int32) ∨ hN (r177.2) (1) ≤ ((v3) + (1)).toNatClampNeg
        · rw [if_pos hg179] at hp; cases hp
        rw [if_neg hg179] at hp
        refine e_iaload f306_883 (Or.inr (WF.x (p131_w (h) w (hI (h) (1) ((v3) + (1)).toNatClampNeg) (hI (h) (1) ((v3) + (2)).toNatClampNeg) (hI (h) (1) ((v3) + (3)).toNatClampNeg) (hI (h) (1) ((v3) + (4)).toNatClampNeg) (hI (h) (1) ((v3) + (5)).toNatClampNeg) (hI (h) (1) ((v3) + (6)).toNatClampNeg) (hI (h) (1) ((v3) + (7)).toNatClampNeg)  r177 hr178) 1 (by decide))) rfl hg179 ?_
        refine e_aload_n f306_884 rfl ?_
        refine e_iload_n f306_885 rfl ?_
        refine e_iconst (v := 2) f306_886 (by decide) ?_
        refine e_iadd f306_887 ?_
        by_cases hg180 : ((v3) + (2)) < (0 : Int32) ∨ hN (r177.2) (1) ≤ ((v3) + (2)).toNatClampNeg
        · rw [if_pos hg180] at hp; cases hp
        rw [if_neg hg180] at hp
        refine e_iaload f306_888 (Or.inr (WF.x (p131_w (h) w (hI (h) (1) ((v3) + (1)).toNatClampNeg) (hI (h) (1) ((v3) + (2)).toNatClampNeg) (hI (h) (1) ((v3) + (3)).toNatClampNeg) (hI (h) (1) ((v3) + (4)).toNatClampNeg) (hI (h) (1) ((v3) + (5)).toNatClampNeg) (hI (h) (1) ((v3) + (6)).toNatClampNeg) (hI (h) (1) ((v3) + (7)).toNatClampNeg)  r177 hr178) 1 (by decide))) rfl hg180 ?_
        refine e_aload_n f306_889 rfl ?_
        refine e_iload_n f306_890 rfl ?_
        refine e_iconst (v := 3) f306_891 (by decide) ?_
        refine e_iadd f306_892 ?_
        by_cases hg181 : ((v3) + (3)) < (0 : Int32) ∨ hN (r177.2) (1) ≤ ((v3) + (3)).toNatClampNeg
        · rw [if_pos hg181] at hp; cases hp
        rw [if_neg hg181] at hp
        refine e_iaload f306_893 (Or.inr (WF.x (p131_w (h) w (hI (h) (1) ((v3) + (1)).toNatClampNeg) (hI (h) (1) ((v3) + (2)).toNatClampNeg) (hI (h) (1) ((v3) + (3)).toNatClampNeg) (hI (h) (1) ((v3) + (4)).toNatClampNeg) (hI (h) (1) ((v3) + (5)).toNatClampNeg) (hI (h) (1) ((v3) + (6)).toNatClampNeg) (hI (h) (1) ((v3) + (7)).toNatClampNeg)  r177 hr178) 1 (by decide))) rfl hg181 ?_
        refine e_aload_n f306_894 rfl ?_
        refine e_iload_n f306_895 rfl ?_
        refine e_iconst (v := 4) f306_896 (by decide) ?_
        refine e_iadd f306_897 ?_
        by_cases hg182 : ((v3) + (4)) < (0 : Int32) ∨ hN (r177.2) (1) ≤ ((v3) + (4)).toNatClampNeg
        · rw [if_pos hg182] at hp; cases hp
        rw [if_neg hg182] at hp
        refine e_iaload f306_898 (Or.inr (WF.x (p131_w (h) w (hI (h) (1) ((v3) + (1)).toNatClampNeg) (hI (h) (1) ((v3) + (2)).toNatClampNeg) (hI (h) (1) ((v3) + (3)).toNatClampNeg) (hI (h) (1) ((v3) + (4)).toNatClampNeg) (hI (h) (1) ((v3) + (5)).toNatClampNeg) (hI (h) (1) ((v3) + (6)).toNatClampNeg) (hI (h) (1) ((v3) + (7)).toNatClampNeg)  r177 hr178) 1 (by decide))) rfl hg182 ?_
        refine e_aload_n f306_899 rfl ?_
        refine e_iload_n f306_900 rfl ?_
        refine e_iconst (v := 5) f306_901 (by decide) ?_
        refine e_iadd f306_902 ?_
        by_cases hg183 : ((v3) + (5)) < (0 : Int32) ∨ hN (r177.2) (1) ≤ ((v3) + (5)).toNatClampNeg
        · rw [if_pos hg183] at hp; cases hp
        rw [if_neg hg183] at hp
        refine e_iaload f306_903 (Or.inr (WF.x (p131_w (h) w (hI (h) (1) ((v3) + (1)).toNatClampNeg) (hI (h) (1) ((v3) + (2)).toNatClampNeg) (hI (h) (1) ((v3) + (3)).toNatClampNeg) (hI (h) (1) ((v3) + (4)).toNatClampNeg) (hI (h) (1) ((v3) + (5)).toNatClampNeg) (hI (h) (1) ((v3) + (6)).toNatClampNeg) (hI (h) (1) ((v3) + (7)).toNatClampNeg)  r177 hr178) 1 (by decide))) rfl hg183 ?_
        refine e_aload_n f306_904 rfl ?_
        refine e_iload_n f306_905 rfl ?_
        refine e_bipush (v := 6) f306_906 (by decide) ?_
        refine e_iadd f306_908 ?_
        by_cases hg184 : ((v3) + (6)) < (0 : Int32) ∨ hN (r177.2) (1) ≤ ((v3) + (6)).toNatClampNeg
        · rw [if_pos hg184] at hp; cases hp
        rw [if_neg hg184] at hp
        refine e_iaload f306_909 (Or.inr (WF.x (p131_w (h) w (hI (h) (1) ((v3) + (1)).toNatClampNeg) (hI (h) (1) ((v3) + (2)).toNatClampNeg) (hI (h) (1) ((v3) + (3)).toNatClampNeg) (hI (h) (1) ((v3) + (4)).toNatClampNeg) (hI (h) (1) ((v3) + (5)).toNatClampNeg) (hI (h) (1) ((v3) + (6)).toNatClampNeg) (hI (h) (1) ((v3) + (7)).toNatClampNeg)  r177 hr178) 1 (by decide))) rfl hg184 ?_
        refine e_aload_n f306_910 rfl ?_
        refine e_iload_n f306_911 rfl ?_
        refine e_bipush (v := 7) f306_912 (by decide) ?_
        refine e_iadd f306_914 ?_
        by_cases hg185 : ((v3) + (7)) < (0 : Int32) ∨ hN (r177.2) (1) ≤ ((v3) + (7)).toNatClampNeg
        · rw [if_pos hg185] at hp; cases hp
        rw [if_neg hg185] at hp
        refine e_iaload f306_915 (Or.inr (WF.x (p131_w (h) w (hI (h) (1) ((v3) + (1)).toNatClampNeg) (hI (h) (1) ((v3) + (2)).toNatClampNeg) (hI (h) (1) ((v3) + (3)).toNatClampNeg) (hI (h) (1) ((v3) + (4)).toNatClampNeg) (hI (h) (1) ((v3) + (5)).toNatClampNeg) (hI (h) (1) ((v3) + (6)).toNatClampNeg) (hI (h) (1) ((v3) + (7)).toNatClampNeg)  r177 hr178) 1 (by decide))) rfl hg185 ?_
        obtain ⟨r186, hr187, hp⟩ := bind_some hp
        try dsimp only at hp
        refine e_callV (st := [.int (r177.1)]) (o := 86) (as := [.int (hI (r177.2) (1) ((v3) + (1)).toNatClampNeg), .int (hI (r177.2) (1) ((v3) + (2)).toNatClampNeg), .int (hI (r177.2) (1) ((v3) + (3)).toNatClampNeg), .int (hI (r177.2) (1) ((v3) + (4)).toNatClampNeg), .int (hI (r177.2) (1) ((v3) + (5)).toNatClampNeg), .int (hI (r177.2) (1) ((v3) + (6)).toNatClampNeg), .int (hI (r177.2) (1) ((v3) + (7)).toNatClampNeg)]) f306_916 (by decide) rfl rfl (Nat.le_of_ble_eq_true rfl) (WF.t (p131_w (h) w (hI (h) (1) ((v3) + (1)).toNatClampNeg) (hI (h) (1) ((v3) + (2)).toNatClampNeg) (hI (h) (1) ((v3) + (3)).toNatClampNeg) (hI (h) (1) ((v3) + (4)).toNatClampNeg) (hI (h) (1) ((v3) + (5)).toNatClampNeg) (hI (h) (1) ((v3) + (6)).toNatClampNeg) (hI (h) (1) ((v3) + (7)).toNatClampNeg)  r177 hr178) 86 (by decide)) (Nat.le_of_ble_eq_true rfl) (p219_ok (d + 62) (r177.2) (p131_w (h) w (hI (h) (1) ((v3) + (1)).toNatClampNeg) (hI (h) (1) ((v3) + (2)).toNatClampNeg) (hI (h) (1) ((v3) + (3)).toNatClampNeg) (hI (h) (1) ((v3) + (4)).toNatClampNeg) (hI (h) (1) ((v3) + (5)).toNatClampNeg) (hI (h) (1) ((v3) + (6)).toNatClampNeg) (hI (h) (1) ((v3) + (7)).toNatClampNeg)  r177 hr178) (hI (r177.2) (1) ((v3) + (1)).toNatClampNeg) (hI (r177.2) (1) ((v3) + (2)).toNatClampNeg) (hI (r177.2) (1) ((v3) + (3)).toNatClampNeg) (hI (r177.2) (1) ((v3) + (4)).toNatClampNeg) (hI (r177.2) (1) ((v3) + (5)).toNatClampNeg) (hI (r177.2) (1) ((v3) + (6)).toNatClampNeg) (hI (r177.2) (1) ((v3) + (7)).toNatClampNeg) r186 hr187) ?_
        show ex _ 306 (919, [some (.ref (1)), some (.ref (32)), some (.ref (86)), some (.int (v3))], [.int (r186.1), .int (r177.1)], r186.2) = _
        by_cases hc188 : (r177.1) = ((r186.1) : Int32)
        · rw [if_pos hc188] at hp
          refine e_icmp_eq_t f306_919 hc188 ?_
          refine ex_weak (ls := [some (.ref (1)), some (.ref (32)), some (.ref (86)), some (.int (v3))]) (le2_ok ⟨Or.inr rfl, Or.inr rfl, Or.inr rfl, Or.inr rfl, trivial⟩) ?_
          exact p306_j2120_ok d F ((p306_L18 F n)) (ih) (r186.2) ((p219_w (r177.2) (p131_w (h) w (hI (h) (1) ((v3) + (1)).toNatClampNeg) (hI (h) (1) ((v3) + (2)).toNatClampNeg) (hI (h) (1) ((v3) + (3)).toNatClampNeg) (hI (h) (1) ((v3) + (4)).toNatClampNeg) (hI (h) (1) ((v3) + (5)).toNatClampNeg) (hI (h) (1) ((v3) + (6)).toNatClampNeg) (hI (h) (1) ((v3) + (7)).toNatClampNeg)  r177 hr178) (hI (r177.2) (1) ((v3) + (1)).toNatClampNeg) (hI (r177.2) (1) ((v3) + (2)).toNatClampNeg) (hI (r177.2) (1) ((v3) + (3)).toNatClampNeg) (hI (r177.2) (1) ((v3) + (4)).toNatClampNeg) (hI (r177.2) (1) ((v3) + (5)).toNatClampNeg) (hI (r177.2) (1) ((v3) + (6)).toNatClampNeg) (hI (r177.2) (1) ((v3) + (7)).toNatClampNeg)  r186 hr187)) (v3) _ hp
        · rw [if_neg hc188] at hp
          refine e_icmp_eq_f f306_919 hc188 ?_
          refine e_iconst (v := 0) f306_922 (by decide) ?_
          have hp := Option.some.inj hp
          subst hp
          exact e_ireturn f306_923 (by decide)
      rw [if_neg hc169] at hp
      by_cases hc189 : ((hI (h) (1) (v3).toNatClampNeg) &&& (63)) = (18 : Int32)
      · rw [if_pos hc189] at hp
        refine e_sw (t := 924) f306_33 (by rw [hc189]; decide) (by rw [hc189]; decide) ?_
        refine e_aload_n f306_924 rfl ?_
        refine e_aload_n f306_925 rfl ?_
        refine e_iload_n f306_926 rfl ?_
        refine e_iconst (v := 1) f306_927 (by decide) ?_
        refine e_iadd f306_928 ?_
        by_cases hg190 : ((v3) + (1)) < (0 : Int32) ∨ hN (h) (1) ≤ ((v3) + (1)).toNatClampNeg
        · rw [if_pos hg190] at hp; cases hp
        rw [if_neg hg190] at hp
        refine e_iaload f306_929 (Or.inr (WF.x w 1 (by decide))) rfl hg190 ?_
        obtain ⟨r191, hr192, hp⟩ := bind_some hp
        try dsimp only at hp
        refine e_callV (st := []) (o := 32) (as := [.int (hI (h) (1) ((v3) + (1)).toNatClampNeg)]) f306_930 (by decide) rfl rfl (Nat.le_of_ble_eq_true rfl) (WF.t w 32 (by decide)) (Nat.le_of_ble_eq_true rfl) (p132_ok (d + 63) (h) w (hI (h) (1) ((v3) + (1)).toNatClampNeg) r191 hr192) ?_
        show ex _ 306 (933, [some (.ref (1)), some (.ref (32)), some (.ref (86)), some (.int (v3))], [.int (r191.1)], r191.2) = _
        refine e_aload_n f306_933 rfl ?_
        refine e_aload_n f306_934 rfl ?_
        refine e_iload_n f306_935 rfl ?_
        refine e_iconst (v := 1) f306_936 (by decide) ?_
        refine e_iadd f306_937 ?_
        by_cases hg193 : ((v3) + (1)) < (0 : Int32) ∨ hN (r191.2) (1) ≤ ((v3) + (1)).toNatClampNeg
        · rw [if_pos hg193] at hp; cases hp
        rw [if_neg hg193] at hp
        refine e_iaload f306_938 (Or.inr (WF.x (p132_w (h) w (hI (h) (1) ((v3) + (1)).toNatClampNeg)  r191 hr192) 1 (by decide))) rfl hg193 ?_
        obtain ⟨r194, hr195, hp⟩ := bind_some hp
        try dsimp only at hp
        refine e_callV (st := [.int (r191.1)]) (o := 86) (as := [.int (hI (r191.2) (1) ((v3) + (1)).toNatClampNeg)]) f306_939 (by decide) rfl rfl (Nat.le_of_ble_eq_true rfl) (WF.t (p132_w (h) w (hI (h) (1) ((v3) + (1)).toNatClampNeg)  r191 hr192) 86 (by decide)) (Nat.le_of_ble_eq_true rfl) (p221_ok (d + 63) (r191.2) (p132_w (h) w (hI (h) (1) ((v3) + (1)).toNatClampNeg)  r191 hr192) (hI (r191.2) (1) ((v3) + (1)).toNatClampNeg) r194 hr195) ?_
        show ex _ 306 (942, [some (.ref (1)), some (.ref (32)), some (.ref (86)), some (.int (v3))], [.int (r194.1), .int (r191.1)], r194.2) = _
        by_cases hc196 : (r191.1) = ((r194.1) : Int32)
        · rw [if_pos hc196] at hp
          refine e_icmp_eq_t f306_942 hc196 ?_
          refine ex_weak (ls := [some (.ref (1)), some (.ref (32)), some (.ref (86)), some (.int (v3))]) (le2_ok ⟨Or.inr rfl, Or.inr rfl, Or.inr rfl, Or.inr rfl, trivial⟩) ?_
          exact p306_j2120_ok d F ((p306_L18 F n)) (ih) (r194.2) ((p221_w (r191.2) (p132_w (h) w (hI (h) (1) ((v3) + (1)).toNatClampNeg)  r191 hr192) (hI (r191.2) (1) ((v3) + (1)).toNatClampNeg)  r194 hr195)) (v3) _ hp
        · rw [if_neg hc196] at hp
          refine e_icmp_eq_f f306_942 hc196 ?_
          refine e_iconst (v := 0) f306_945 (by decide) ?_
          have hp := Option.some.inj hp
          subst hp
          exact e_ireturn f306_946 (by decide)
      rw [if_neg hc189] at hp
      by_cases hc197 : ((hI (h) (1) (v3).toNatClampNeg) &&& (63)) = (19 : Int32)
      · rw [if_pos hc197] at hp
        refine e_sw (t := 947) f306_33 (by rw [hc197]; decide) (by rw [hc197]; decide) ?_
        refine e_aload_n f306_947 rfl ?_
        refine e_aload_n f306_948 rfl ?_
        refine e_iload_n f306_949 rfl ?_
        refine e_iconst (v := 1) f306_950 (by decide) ?_
        refine e_iadd f306_951 ?_
        by_cases hg198 : ((v3) + (1)) < (0 : Int32) ∨ hN (h) (1) ≤ ((v3) + (1)).toNatClampNeg
        · rw [if_pos hg198] at hp; cases hp
        rw [if_neg hg198] at hp
        refine e_iaload f306_952 (Or.inr (WF.x w 1 (by decide))) rfl hg198 ?_
        refine e_aload_n f306_953 rfl ?_
        refine e_iload_n f306_954 rfl ?_
        refine e_iconst (v := 2) f306_955 (by decide) ?_
        refine e_iadd f306_956 ?_
        by_cases hg199 : ((v3) + (2)) < (0 : Int32) ∨ hN (h) (1) ≤ ((v3) + (2)).toNatClampNeg
        · rw [if_pos hg199] at hp; cases hp
        rw [if_neg hg199] at hp
        refine e_iaload f306_957 (Or.inr (WF.x w 1 (by decide))) rfl hg199 ?_
        obtain ⟨r200, hr201, hp⟩ := bind_some hp
        try dsimp only at hp
        refine e_callV (st := []) (o := 32) (as := [.int (hI (h) (1) ((v3) + (1)).toNatClampNeg), .int (hI (h) (1) ((v3) + (2)).toNatClampNeg)]) f306_958 (by decide) rfl rfl (Nat.le_of_ble_eq_true rfl) (WF.t w 32 (by decide)) (Nat.le_of_ble_eq_true rfl) (p133_ok (d + 63) (h) w (hI (h) (1) ((v3) + (1)).toNatClampNeg) (hI (h) (1) ((v3) + (2)).toNatClampNeg) r200 hr201) ?_
        show ex _ 306 (961, [some (.ref (1)), some (.ref (32)), some (.ref (86)), some (.int (v3))], [.int (r200)], h) = _
        refine e_aload_n f306_961 rfl ?_
        refine e_aload_n f306_962 rfl ?_
        refine e_iload_n f306_963 rfl ?_
        refine e_iconst (v := 1) f306_964 (by decide) ?_
        refine e_iadd f306_965 ?_
        by_cases hg202 : ((v3) + (1)) < (0 : Int32) ∨ hN (h) (1) ≤ ((v3) + (1)).toNatClampNeg
        · rw [if_pos hg202] at hp; cases hp
        rw [if_neg hg202] at hp
        refine e_iaload f306_966 (Or.inr (WF.x w 1 (by decide))) rfl hg202 ?_
        refine e_aload_n f306_967 rfl ?_
        refine e_iload_n f306_968 rfl ?_
        refine e_iconst (v := 2) f306_969 (by decide) ?_
        refine e_iadd f306_970 ?_
        by_cases hg203 : ((v3) + (2)) < (0 : Int32) ∨ hN (h) (1) ≤ ((v3) + (2)).toNatClampNeg
        · rw [if_pos hg203] at hp; cases hp
        rw [if_neg hg203] at hp
        refine e_iaload f306_971 (Or.inr (WF.x w 1 (by decide))) rfl hg203 ?_
        obtain ⟨r204, hr205, hp⟩ := bind_some hp
        try dsimp only at hp
        refine e_callV (st := [.int (r200)]) (o := 86) (as := [.int (hI (h) (1) ((v3) + (1)).toNatClampNeg), .int (hI (h) (1) ((v3) + (2)).toNatClampNeg)]) f306_972 (by decide) rfl rfl (Nat.le_of_ble_eq_true rfl) (WF.t w 86 (by decide)) (Nat.le_of_ble_eq_true rfl) (p224_ok (d + 63) (h) w (hI (h) (1) ((v3) + (1)).toNatClampNeg) (hI (h) (1) ((v3) + (2)).toNatClampNeg) r204 hr205) ?_
        show ex _ 306 (975, [some (.ref (1)), some (.ref (32)), some (.ref (86)), some (.int (v3))], [.int (r204), .int (r200)], h) = _
        by_cases hc206 : (r200) = ((r204) : Int32)
        · rw [if_pos hc206] at hp
          refine e_icmp_eq_t f306_975 hc206 ?_
          refine ex_weak (ls := [some (.ref (1)), some (.ref (32)), some (.ref (86)), some (.int (v3))]) (le2_ok ⟨Or.inr rfl, Or.inr rfl, Or.inr rfl, Or.inr rfl, trivial⟩) ?_
          exact p306_j2120_ok d F ((p306_L18 F n)) (ih) (h) (w) (v3) _ hp
        · rw [if_neg hc206] at hp
          refine e_icmp_eq_f f306_975 hc206 ?_
          refine e_iconst (v := 0) f306_978 (by decide) ?_
          have hp := Option.some.inj hp
          subst hp
          exact e_ireturn f306_979 (by decide)
      rw [if_neg hc197] at hp
      by_cases hc207 : ((hI (h) (1) (v3).toNatClampNeg) &&& (63)) = (20 : Int32)
      · rw [if_pos hc207] at hp
        refine e_sw (t := 980) f306_33 (by rw [hc207]; decide) (by rw [hc207]; decide) ?_
        refine e_aload_n f306_980 rfl ?_
        refine e_aload_n f306_981 rfl ?_
        refine e_iload_n f306_982 rfl ?_
        refine e_iconst (v := 1) f306_983 (by decide) ?_
        refine e_iadd f306_984 ?_
        by_cases hg208 : ((v3) + (1)) < (0 : Int32) ∨ hN (h) (1) ≤ ((v3) + (1)).toNatClampNeg
        · rw [if_pos hg208] at hp; cases hp
        rw [if_neg hg208] at hp
        refine e_iaload f306_985 (Or.inr (WF.x w 1 (by decide))) rfl hg208 ?_
        refine e_aload_n f306_986 rfl ?_
        refine e_iload_n f306_987 rfl ?_
        refine e_iconst (v := 2) f306_988 (by decide) ?_
        refine e_iadd f306_989 ?_
        by_cases hg209 : ((v3) + (2)) < (0 : Int32) ∨ hN (h) (1) ≤ ((v3) + (2)).toNatClampNeg
        · rw [if_pos hg209] at hp; cases hp
        rw [if_neg hg209] at hp
        refine e_iaload f306_990 (Or.inr (WF.x w 1 (by decide))) rfl hg209 ?_
        refine e_aload_n f306_991 rfl ?_
        refine e_iload_n f306_992 rfl ?_
        refine e_iconst (v := 3) f306_993 (by decide) ?_
        refine e_iadd f306_994 ?_
        by_cases hg210 : ((v3) + (3)) < (0 : Int32) ∨ hN (h) (1) ≤ ((v3) + (3)).toNatClampNeg
        · rw [if_pos hg210] at hp; cases hp
        rw [if_neg hg210] at hp
        refine e_iaload f306_995 (Or.inr (WF.x w 1 (by decide))) rfl hg210 ?_
        obtain ⟨r211, hr212, hp⟩ := bind_some hp
        try dsimp only at hp
        refine e_callV (st := []) (o := 32) (as := [.int (hI (h) (1) ((v3) + (1)).toNatClampNeg), .int (hI (h) (1) ((v3) + (2)).toNatClampNeg), .int (hI (h) (1) ((v3) + (3)).toNatClampNeg)]) f306_996 (by decide) rfl rfl (Nat.le_of_ble_eq_true rfl) (WF.t w 32 (by decide)) (Nat.le_of_ble_eq_true rfl) (p134_ok (d + 62) F (h) w (hI (h) (1) ((v3) + (1)).toNatClampNeg) (hI (h) (1) ((v3) + (2)).toNatClampNeg) (hI (h) (1) ((v3) + (3)).toNatClampNeg) r211 hr212) ?_
        show ex _ 306 (999, [some (.ref (1)), some (.ref (32)), some (.ref (86)), some (.int (v3))], [.int (r211)], h) = _
        refine e_aload_n f306_999 rfl ?_
        refine e_aload_n f306_1000 rfl ?_
        refine e_iload_n f306_1001 rfl ?_
        refine e_iconst (v := 1) f306_1002 (by decide) ?_
        refine e_iadd f306_1003 ?_
        by_cases hg213 : ((v3) + (1)) < (0 : Int32) ∨ hN (h) (1) ≤ ((v3) + (1)).toNatClampNeg
        · rw [if_pos hg213] at hp; cases hp
        rw [if_neg hg213] at hp
        refine e_iaload f306_1004 (Or.inr (WF.x w 1 (by decide))) rfl hg213 ?_
        refine e_aload_n f306_1005 rfl ?_
        refine e_iload_n f306_1006 rfl ?_
        refine e_iconst (v := 2) f306_1007 (by decide) ?_
        refine e_iadd f306_1008 ?_
        by_cases hg214 : ((v3) + (2)) < (0 : Int32) ∨ hN (h) (1) ≤ ((v3) + (2)).toNatClampNeg
        · rw [if_pos hg214] at hp; cases hp
        rw [if_neg hg214] at hp
        refine e_iaload f306_1009 (Or.inr (WF.x w 1 (by decide))) rfl hg214 ?_
        refine e_aload_n f306_1010 rfl ?_
        refine e_iload_n f306_1011 rfl ?_
        refine e_iconst (v := 3) f306_1012 (by decide) ?_
        refine e_iadd f306_1013 ?_
        by_cases hg215 : ((v3) + (3)) < (0 : Int32) ∨ hN (h) (1) ≤ ((v3) + (3)).toNatClampNeg
        · rw [if_pos hg215] at hp; cases hp
        rw [if_neg hg215] at hp
        refine e_iaload f306_1014 (Or.inr (WF.x w 1 (by decide))) rfl hg215 ?_
        obtain ⟨r216, hr217, hp⟩ := bind_some hp
        try dsimp only at hp
        refine e_callV (st := [.int (r211)]) (o := 86) (as := [.int (hI (h) (1) ((v3) + (1)).toNatClampNeg), .int (hI (h) (1) ((v3) + (2)).toNatClampNeg), .int (hI (h) (1) ((v3) + (3)).toNatClampNeg)]) f306_1015 (by decide) rfl rfl (Nat.le_of_ble_eq_true rfl) (WF.t w 86 (by decide)) (Nat.le_of_ble_eq_true rfl) (p227_ok (d + 61) F (h) w (hI (h) (1) ((v3) + (1)).toNatClampNeg) (hI (h) (1) ((v3) + (2)).toNatClampNeg) (hI (h) (1) ((v3) + (3)).toNatClampNeg) r216 hr217) ?_
        show ex _ 306 (1018, [some (.ref (1)), some (.ref (32)), some (.ref (86)), some (.int (v3))], [.int (r216), .int (r211)], h) = _
        by_cases hc218 : (r211) = ((r216) : Int32)
        · rw [if_pos hc218] at hp
          refine e_icmp_eq_t f306_1018 hc218 ?_
          refine ex_weak (ls := [some (.ref (1)), some (.ref (32)), some (.ref (86)), some (.int (v3))]) (le2_ok ⟨Or.inr rfl, Or.inr rfl, Or.inr rfl, Or.inr rfl, trivial⟩) ?_
          exact p306_j2120_ok d F ((p306_L18 F n)) (ih) (h) (w) (v3) _ hp
        · rw [if_neg hc218] at hp
          refine e_icmp_eq_f f306_1018 hc218 ?_
          refine e_iconst (v := 0) f306_1021 (by decide) ?_
          have hp := Option.some.inj hp
          subst hp
          exact e_ireturn f306_1022 (by decide)
      rw [if_neg hc207] at hp
      by_cases hc219 : ((hI (h) (1) (v3).toNatClampNeg) &&& (63)) = (21 : Int32)
      · rw [if_pos hc219] at hp
        refine e_sw (t := 1023) f306_33 (by rw [hc219]; decide) (by rw [hc219]; decide) ?_
        refine e_aload_n f306_1023 rfl ?_
        refine e_aload_n f306_1024 rfl ?_
        refine e_iload_n f306_1025 rfl ?_
        refine e_iconst (v := 1) f306_1026 (by decide) ?_
        refine e_iadd f306_1027 ?_
        by_cases hg220 : ((v3) + (1)) < (0 : Int32) ∨ hN (h) (1) ≤ ((v3) + (1)).toNatClampNeg
        · rw [if_pos hg220] at hp; cases hp
        rw [if_neg hg220] at hp
        refine e_iaload f306_1028 (Or.inr (WF.x w 1 (by decide))) rfl hg220 ?_
        refine e_aload_n f306_1029 rfl ?_
        refine e_iload_n f306_1030 rfl ?_
        refine e_iconst (v := 2) f306_1031 (by decide) ?_
        refine e_iadd f306_1032 ?_
        by_cases hg221 : ((v3) + (2)) < (0 : Int32) ∨ hN (h) (1) ≤ ((v3) + (2)).toNatClampNeg
        · rw [if_pos hg221] at hp; cases hp
        rw [if_neg hg221] at hp
        refine e_iaload f306_1033 (Or.inr (WF.x w 1 (by decide))) rfl hg221 ?_
        refine e_aload_n f306_1034 rfl ?_
        refine e_iload_n f306_1035 rfl ?_
        refine e_iconst (v := 3) f306_1036 (by decide) ?_
        refine e_iadd f306_1037 ?_
        by_cases hg222 : ((v3) + (3)) < (0 : Int32) ∨ hN (h) (1) ≤ ((v3) + (3)).toNatClampNeg
        · rw [if_pos hg222] at hp; cases hp
        rw [if_neg hg222] at hp
        refine e_iaload f306_1038 (Or.inr (WF.x w 1 (by decide))) rfl hg222 ?_
        obtain ⟨r223, hr224, hp⟩ := bind_some hp
        try dsimp only at hp
        refine e_callV (st := []) (o := 32) (as := [.int (hI (h) (1) ((v3) + (1)).toNatClampNeg), .int (hI (h) (1) ((v3) + (2)).toNatClampNeg), .int (hI (h) (1) ((v3) + (3)).toNatClampNeg)]) f306_1039 (by decide) rfl rfl (Nat.le_of_ble_eq_true rfl) (WF.t w 32 (by decide)) (Nat.le_of_ble_eq_true rfl) (p135_ok (d + 62) F (h) w (hI (h) (1) ((v3) + (1)).toNatClampNeg) (hI (h) (1) ((v3) + (2)).toNatClampNeg) (hI (h) (1) ((v3) + (3)).toNatClampNeg) r223 hr224) ?_
        show ex _ 306 (1042, [some (.ref (1)), some (.ref (32)), some (.ref (86)), some (.int (v3))], [.int (r223)], h) = _
        refine e_aload_n f306_1042 rfl ?_
        refine e_aload_n f306_1043 rfl ?_
        refine e_iload_n f306_1044 rfl ?_
        refine e_iconst (v := 1) f306_1045 (by decide) ?_
        refine e_iadd f306_1046 ?_
        by_cases hg225 : ((v3) + (1)) < (0 : Int32) ∨ hN (h) (1) ≤ ((v3) + (1)).toNatClampNeg
        · rw [if_pos hg225] at hp; cases hp
        rw [if_neg hg225] at hp
        refine e_iaload f306_1047 (Or.inr (WF.x w 1 (by decide))) rfl hg225 ?_
        refine e_aload_n f306_1048 rfl ?_
        refine e_iload_n f306_1049 rfl ?_
        refine e_iconst (v := 2) f306_1050 (by decide) ?_
        refine e_iadd f306_1051 ?_
        by_cases hg226 : ((v3) + (2)) < (0 : Int32) ∨ hN (h) (1) ≤ ((v3) + (2)).toNatClampNeg
        · rw [if_pos hg226] at hp; cases hp
        rw [if_neg hg226] at hp
        refine e_iaload f306_1052 (Or.inr (WF.x w 1 (by decide))) rfl hg226 ?_
        refine e_aload_n f306_1053 rfl ?_
        refine e_iload_n f306_1054 rfl ?_
        refine e_iconst (v := 3) f306_1055 (by decide) ?_
        refine e_iadd f306_1056 ?_
        by_cases hg227 : ((v3) + (3)) < (0 : Int32) ∨ hN (h) (1) ≤ ((v3) + (3)).toNatClampNeg
        · rw [if_pos hg227] at hp; cases hp
        rw [if_neg hg227] at hp
        refine e_iaload f306_1057 (Or.inr (WF.x w 1 (by decide))) rfl hg227 ?_
        obtain ⟨r228, hr229, hp⟩ := bind_some hp
        try dsimp only at hp
        refine e_callV (st := [.int (r223)]) (o := 86) (as := [.int (hI (h) (1) ((v3) + (1)).toNatClampNeg), .int (hI (h) (1) ((v3) + (2)).toNatClampNeg), .int (hI (h) (1) ((v3) + (3)).toNatClampNeg)]) f306_1058 (by decide) rfl rfl (Nat.le_of_ble_eq_true rfl) (WF.t w 86 (by decide)) (Nat.le_of_ble_eq_true rfl) (p229_ok (d + 60) F (h) w (hI (h) (1) ((v3) + (1)).toNatClampNeg) (hI (h) (1) ((v3) + (2)).toNatClampNeg) (hI (h) (1) ((v3) + (3)).toNatClampNeg) r228 hr229) ?_
        show ex _ 306 (1061, [some (.ref (1)), some (.ref (32)), some (.ref (86)), some (.int (v3))], [.int (r228), .int (r223)], h) = _
        by_cases hc230 : (r223) = ((r228) : Int32)
        · rw [if_pos hc230] at hp
          refine e_icmp_eq_t f306_1061 hc230 ?_
          refine ex_weak (ls := [some (.ref (1)), some (.ref (32)), some (.ref (86)), some (.int (v3))]) (le2_ok ⟨Or.inr rfl, Or.inr rfl, Or.inr rfl, Or.inr rfl, trivial⟩) ?_
          exact p306_j2120_ok d F ((p306_L18 F n)) (ih) (h) (w) (v3) _ hp
        · rw [if_neg hc230] at hp
          refine e_icmp_eq_f f306_1061 hc230 ?_
          refine e_iconst (v := 0) f306_1064 (by decide) ?_
          have hp := Option.some.inj hp
          subst hp
          exact e_ireturn f306_1065 (by decide)
      rw [if_neg hc219] at hp
      by_cases hc231 : ((hI (h) (1) (v3).toNatClampNeg) &&& (63)) = (22 : Int32)
      · rw [if_pos hc231] at hp
        refine e_sw (t := 1066) f306_33 (by rw [hc231]; decide) (by rw [hc231]; decide) ?_
        refine e_aload_n f306_1066 rfl ?_
        refine e_aload_n f306_1067 rfl ?_
        refine e_iload_n f306_1068 rfl ?_
        refine e_iconst (v := 1) f306_1069 (by decide) ?_
        refine e_iadd f306_1070 ?_
        by_cases hg232 : ((v3) + (1)) < (0 : Int32) ∨ hN (h) (1) ≤ ((v3) + (1)).toNatClampNeg
        · rw [if_pos hg232] at hp; cases hp
        rw [if_neg hg232] at hp
        refine e_iaload f306_1071 (Or.inr (WF.x w 1 (by decide))) rfl hg232 ?_
        refine e_aload_n f306_1072 rfl ?_
        refine e_iload_n f306_1073 rfl ?_
        refine e_iconst (v := 2) f306_1074 (by decide) ?_
        refine e_iadd f306_1075 ?_
        by_cases hg233 : ((v3) + (2)) < (0 : Int32) ∨ hN (h) (1) ≤ ((v3) + (2)).toNatClampNeg
        · rw [if_pos hg233] at hp; cases hp
        rw [if_neg hg233] at hp
        refine e_iaload f306_1076 (Or.inr (WF.x w 1 (by decide))) rfl hg233 ?_
        obtain ⟨r234, hr235, hp⟩ := bind_some hp
        try dsimp only at hp
        refine e_callV (st := []) (o := 32) (as := [.int (hI (h) (1) ((v3) + (1)).toNatClampNeg), .int (hI (h) (1) ((v3) + (2)).toNatClampNeg)]) f306_1077 (by decide) rfl rfl (Nat.le_of_ble_eq_true rfl) (WF.t w 32 (by decide)) (Nat.le_of_ble_eq_true rfl) (p136_ok (d + 61) F (h) w (hI (h) (1) ((v3) + (1)).toNatClampNeg) (hI (h) (1) ((v3) + (2)).toNatClampNeg) r234 hr235) ?_
        show ex _ 306 (1080, [some (.ref (1)), some (.ref (32)), some (.ref (86)), some (.int (v3))], [.int (r234)], h) = _
        refine e_aload_n f306_1080 rfl ?_
        refine e_aload_n f306_1081 rfl ?_
        refine e_iload_n f306_1082 rfl ?_
        refine e_iconst (v := 1) f306_1083 (by decide) ?_
        refine e_iadd f306_1084 ?_
        by_cases hg236 : ((v3) + (1)) < (0 : Int32) ∨ hN (h) (1) ≤ ((v3) + (1)).toNatClampNeg
        · rw [if_pos hg236] at hp; cases hp
        rw [if_neg hg236] at hp
        refine e_iaload f306_1085 (Or.inr (WF.x w 1 (by decide))) rfl hg236 ?_
        refine e_aload_n f306_1086 rfl ?_
        refine e_iload_n f306_1087 rfl ?_
        refine e_iconst (v := 2) f306_1088 (by decide) ?_
        refine e_iadd f306_1089 ?_
        by_cases hg237 : ((v3) + (2)) < (0 : Int32) ∨ hN (h) (1) ≤ ((v3) + (2)).toNatClampNeg
        · rw [if_pos hg237] at hp; cases hp
        rw [if_neg hg237] at hp
        refine e_iaload f306_1090 (Or.inr (WF.x w 1 (by decide))) rfl hg237 ?_
        obtain ⟨r238, hr239, hp⟩ := bind_some hp
        try dsimp only at hp
        refine e_callV (st := [.int (r234)]) (o := 86) (as := [.int (hI (h) (1) ((v3) + (1)).toNatClampNeg), .int (hI (h) (1) ((v3) + (2)).toNatClampNeg)]) f306_1091 (by decide) rfl rfl (Nat.le_of_ble_eq_true rfl) (WF.t w 86 (by decide)) (Nat.le_of_ble_eq_true rfl) (p232_ok (d + 59) F (h) w (hI (h) (1) ((v3) + (1)).toNatClampNeg) (hI (h) (1) ((v3) + (2)).toNatClampNeg) r238 hr239) ?_
        show ex _ 306 (1094, [some (.ref (1)), some (.ref (32)), some (.ref (86)), some (.int (v3))], [.int (r238), .int (r234)], h) = _
        by_cases hc240 : (r234) = ((r238) : Int32)
        · rw [if_pos hc240] at hp
          refine e_icmp_eq_t f306_1094 hc240 ?_
          refine ex_weak (ls := [some (.ref (1)), some (.ref (32)), some (.ref (86)), some (.int (v3))]) (le2_ok ⟨Or.inr rfl, Or.inr rfl, Or.inr rfl, Or.inr rfl, trivial⟩) ?_
          exact p306_j2120_ok d F ((p306_L18 F n)) (ih) (h) (w) (v3) _ hp
        · rw [if_neg hc240] at hp
          refine e_icmp_eq_f f306_1094 hc240 ?_
          refine e_iconst (v := 0) f306_1097 (by decide) ?_
          have hp := Option.some.inj hp
          subst hp
          exact e_ireturn f306_1098 (by decide)
      rw [if_neg hc231] at hp
      by_cases hc241 : ((hI (h) (1) (v3).toNatClampNeg) &&& (63)) = (23 : Int32)
      · rw [if_pos hc241] at hp
        refine e_sw (t := 1099) f306_33 (by rw [hc241]; decide) (by rw [hc241]; decide) ?_
        refine e_aload_n f306_1099 rfl ?_
        refine e_aload_n f306_1100 rfl ?_
        refine e_iload_n f306_1101 rfl ?_
        refine e_iconst (v := 1) f306_1102 (by decide) ?_
        refine e_iadd f306_1103 ?_
        by_cases hg242 : ((v3) + (1)) < (0 : Int32) ∨ hN (h) (1) ≤ ((v3) + (1)).toNatClampNeg
        · rw [if_pos hg242] at hp; cases hp
        rw [if_neg hg242] at hp
        refine e_iaload f306_1104 (Or.inr (WF.x w 1 (by decide))) rfl hg242 ?_
        obtain ⟨r243, hr244, hp⟩ := bind_some hp
        try dsimp only at hp
        refine e_callV (st := []) (o := 32) (as := [.int (hI (h) (1) ((v3) + (1)).toNatClampNeg)]) f306_1105 (by decide) rfl rfl (Nat.le_of_ble_eq_true rfl) (WF.t w 32 (by decide)) (Nat.le_of_ble_eq_true rfl) (p137_ok (d + 61) F (h) w (hI (h) (1) ((v3) + (1)).toNatClampNeg) r243 hr244) ?_
        show ex _ 306 (1108, [some (.ref (1)), some (.ref (32)), some (.ref (86)), some (.int (v3))], [.int (r243.1)], r243.2) = _
        refine e_aload_n f306_1108 rfl ?_
        refine e_aload_n f306_1109 rfl ?_
        refine e_iload_n f306_1110 rfl ?_
        refine e_iconst (v := 1) f306_1111 (by decide) ?_
        refine e_iadd f306_1112 ?_
        by_cases hg245 : ((v3) + (1)) < (0 : Int32) ∨ hN (r243.2) (1) ≤ ((v3) + (1)).toNatClampNeg
        · rw [if_pos hg245] at hp; cases hp
        rw [if_neg hg245] at hp
        refine e_iaload f306_1113 (Or.inr (WF.x (p137_w F (h) w (hI (h) (1) ((v3) + (1)).toNatClampNeg)  r243 hr244) 1 (by decide))) rfl hg245 ?_
        obtain ⟨r246, hr247, hp⟩ := bind_some hp
        try dsimp only at hp
        refine e_callV (st := [.int (r243.1)]) (o := 86) (as := [.int (hI (r243.2) (1) ((v3) + (1)).toNatClampNeg)]) f306_1114 (by decide) rfl rfl (Nat.le_of_ble_eq_true rfl) (WF.t (p137_w F (h) w (hI (h) (1) ((v3) + (1)).toNatClampNeg)  r243 hr244) 86 (by decide)) (Nat.le_of_ble_eq_true rfl) (p234_ok (d + 61) F (r243.2) (p137_w F (h) w (hI (h) (1) ((v3) + (1)).toNatClampNeg)  r243 hr244) (hI (r243.2) (1) ((v3) + (1)).toNatClampNeg) r246 hr247) ?_
        show ex _ 306 (1117, [some (.ref (1)), some (.ref (32)), some (.ref (86)), some (.int (v3))], [.int (r246.1), .int (r243.1)], r246.2) = _
        by_cases hc248 : (r243.1) = ((r246.1) : Int32)
        · rw [if_pos hc248] at hp
          refine e_icmp_eq_t f306_1117 hc248 ?_
          refine ex_weak (ls := [some (.ref (1)), some (.ref (32)), some (.ref (86)), some (.int (v3))]) (le2_ok ⟨Or.inr rfl, Or.inr rfl, Or.inr rfl, Or.inr rfl, trivial⟩) ?_
          exact p306_j2120_ok d F ((p306_L18 F n)) (ih) (r246.2) ((p234_w F (r243.2) (p137_w F (h) w (hI (h) (1) ((v3) + (1)).toNatClampNeg)  r243 hr244) (hI (r243.2) (1) ((v3) + (1)).toNatClampNeg)  r246 hr247)) (v3) _ hp
        · rw [if_neg hc248] at hp
          refine e_icmp_eq_f f306_1117 hc248 ?_
          refine e_iconst (v := 0) f306_1120 (by decide) ?_
          have hp := Option.some.inj hp
          subst hp
          exact e_ireturn f306_1121 (by decide)
      rw [if_neg hc241] at hp
      by_cases hc249 : ((hI (h) (1) (v3).toNatClampNeg) &&& (63)) = (24 : Int32)
      · rw [if_pos hc249] at hp
        refine e_sw (t := 1122) f306_33 (by rw [hc249]; decide) (by rw [hc249]; decide) ?_
        refine e_aload_n f306_1122 rfl ?_
        refine e_aload_n f306_1123 rfl ?_
        refine e_iload_n f306_1124 rfl ?_
        refine e_iconst (v := 1) f306_1125 (by decide) ?_
        refine e_iadd f306_1126 ?_
        by_cases hg250 : ((v3) + (1)) < (0 : Int32) ∨ hN (h) (1) ≤ ((v3) + (1)).toNatClampNeg
        · rw [if_pos hg250] at hp; cases hp
        rw [if_neg hg250] at hp
        refine e_iaload f306_1127 (Or.inr (WF.x w 1 (by decide))) rfl hg250 ?_
        refine e_aload_n f306_1128 rfl ?_
        refine e_iload_n f306_1129 rfl ?_
        refine e_iconst (v := 2) f306_1130 (by decide) ?_
        refine e_iadd f306_1131 ?_
        by_cases hg251 : ((v3) + (2)) < (0 : Int32) ∨ hN (h) (1) ≤ ((v3) + (2)).toNatClampNeg
        · rw [if_pos hg251] at hp; cases hp
        rw [if_neg hg251] at hp
        refine e_iaload f306_1132 (Or.inr (WF.x w 1 (by decide))) rfl hg251 ?_
        refine e_aload_n f306_1133 rfl ?_
        refine e_iload_n f306_1134 rfl ?_
        refine e_iconst (v := 3) f306_1135 (by decide) ?_
        refine e_iadd f306_1136 ?_
        by_cases hg252 : ((v3) + (3)) < (0 : Int32) ∨ hN (h) (1) ≤ ((v3) + (3)).toNatClampNeg
        · rw [if_pos hg252] at hp; cases hp
        rw [if_neg hg252] at hp
        refine e_iaload f306_1137 (Or.inr (WF.x w 1 (by decide))) rfl hg252 ?_
        obtain ⟨r253, hr254, hp⟩ := bind_some hp
        try dsimp only at hp
        refine e_callV (st := []) (o := 32) (as := [.int (hI (h) (1) ((v3) + (1)).toNatClampNeg), .int (hI (h) (1) ((v3) + (2)).toNatClampNeg), .int (hI (h) (1) ((v3) + (3)).toNatClampNeg)]) f306_1138 (by decide) rfl rfl (Nat.le_of_ble_eq_true rfl) (WF.t w 32 (by decide)) (Nat.le_of_ble_eq_true rfl) (p138_ok (d + 62) F (h) w (hI (h) (1) ((v3) + (1)).toNatClampNeg) (hI (h) (1) ((v3) + (2)).toNatClampNeg) (hI (h) (1) ((v3) + (3)).toNatClampNeg) r253 hr254) ?_
        show ex _ 306 (1141, [some (.ref (1)), some (.ref (32)), some (.ref (86)), some (.int (v3))], [.int (r253)], h) = _
        refine e_aload_n f306_1141 rfl ?_
        refine e_aload_n f306_1142 rfl ?_
        refine e_iload_n f306_1143 rfl ?_
        refine e_iconst (v := 1) f306_1144 (by decide) ?_
        refine e_iadd f306_1145 ?_
        by_cases hg255 : ((v3) + (1)) < (0 : Int32) ∨ hN (h) (1) ≤ ((v3) + (1)).toNatClampNeg
        · rw [if_pos hg255] at hp; cases hp
        rw [if_neg hg255] at hp
        refine e_iaload f306_1146 (Or.inr (WF.x w 1 (by decide))) rfl hg255 ?_
        refine e_aload_n f306_1147 rfl ?_
        refine e_iload_n f306_1148 rfl ?_
        refine e_iconst (v := 2) f306_1149 (by decide) ?_
        refine e_iadd f306_1150 ?_
        by_cases hg256 : ((v3) + (2)) < (0 : Int32) ∨ hN (h) (1) ≤ ((v3) + (2)).toNatClampNeg
        · rw [if_pos hg256] at hp; cases hp
        rw [if_neg hg256] at hp
        refine e_iaload f306_1151 (Or.inr (WF.x w 1 (by decide))) rfl hg256 ?_
        refine e_aload_n f306_1152 rfl ?_
        refine e_iload_n f306_1153 rfl ?_
        refine e_iconst (v := 3) f306_1154 (by decide) ?_
        refine e_iadd f306_1155 ?_
        by_cases hg257 : ((v3) + (3)) < (0 : Int32) ∨ hN (h) (1) ≤ ((v3) + (3)).toNatClampNeg
        · rw [if_pos hg257] at hp; cases hp
        rw [if_neg hg257] at hp
        refine e_iaload f306_1156 (Or.inr (WF.x w 1 (by decide))) rfl hg257 ?_
        obtain ⟨r258, hr259, hp⟩ := bind_some hp
        try dsimp only at hp
        refine e_callV (st := [.int (r253)]) (o := 86) (as := [.int (hI (h) (1) ((v3) + (1)).toNatClampNeg), .int (hI (h) (1) ((v3) + (2)).toNatClampNeg), .int (hI (h) (1) ((v3) + (3)).toNatClampNeg)]) f306_1157 (by decide) rfl rfl (Nat.le_of_ble_eq_true rfl) (WF.t w 86 (by decide)) (Nat.le_of_ble_eq_true rfl) (p237_ok (d + 62) F (h) w (hI (h) (1) ((v3) + (1)).toNatClampNeg) (hI (h) (1) ((v3) + (2)).toNatClampNeg) (hI (h) (1) ((v3) + (3)).toNatClampNeg) r258 hr259) ?_
        show ex _ 306 (1160, [some (.ref (1)), some (.ref (32)), some (.ref (86)), some (.int (v3))], [.int (r258), .int (r253)], h) = _
        by_cases hc260 : (r253) = ((r258) : Int32)
        · rw [if_pos hc260] at hp
          refine e_icmp_eq_t f306_1160 hc260 ?_
          refine ex_weak (ls := [some (.ref (1)), some (.ref (32)), some (.ref (86)), some (.int (v3))]) (le2_ok ⟨Or.inr rfl, Or.inr rfl, Or.inr rfl, Or.inr rfl, trivial⟩) ?_
          exact p306_j2120_ok d F ((p306_L18 F n)) (ih) (h) (w) (v3) _ hp
        · rw [if_neg hc260] at hp
          refine e_icmp_eq_f f306_1160 hc260 ?_
          refine e_iconst (v := 0) f306_1163 (by decide) ?_
          have hp := Option.some.inj hp
          subst hp
          exact e_ireturn f306_1164 (by decide)
      rw [if_neg hc249] at hp
      by_cases hc261 : ((hI (h) (1) (v3).toNatClampNeg) &&& (63)) = (25 : Int32)
      · rw [if_pos hc261] at hp
        refine e_sw (t := 1165) f306_33 (by rw [hc261]; decide) (by rw [hc261]; decide) ?_
        refine e_aload_n f306_1165 rfl ?_
        refine e_aload_n f306_1166 rfl ?_
        refine e_iload_n f306_1167 rfl ?_
        refine e_iconst (v := 1) f306_1168 (by decide) ?_
        refine e_iadd f306_1169 ?_
        by_cases hg262 : ((v3) + (1)) < (0 : Int32) ∨ hN (h) (1) ≤ ((v3) + (1)).toNatClampNeg
        · rw [if_pos hg262] at hp; cases hp
        rw [if_neg hg262] at hp
        refine e_iaload f306_1170 (Or.inr (WF.x w 1 (by decide))) rfl hg262 ?_
        refine e_aload_n f306_1171 rfl ?_
        refine e_iload_n f306_1172 rfl ?_
        refine e_iconst (v := 2) f306_1173 (by decide) ?_
        refine e_iadd f306_1174 ?_
        by_cases hg263 : ((v3) + (2)) < (0 : Int32) ∨ hN (h) (1) ≤ ((v3) + (2)).toNatClampNeg
        · rw [if_pos hg263] at hp; cases hp
        rw [if_neg hg263] at hp
        refine e_iaload f306_1175 (Or.inr (WF.x w 1 (by decide))) rfl hg263 ?_
        obtain ⟨r264, hr265, hp⟩ := bind_some hp
        try dsimp only at hp
        refine e_callV (st := []) (o := 32) (as := [.int (hI (h) (1) ((v3) + (1)).toNatClampNeg), .int (hI (h) (1) ((v3) + (2)).toNatClampNeg)]) f306_1176 (by decide) rfl rfl (Nat.le_of_ble_eq_true rfl) (WF.t w 32 (by decide)) (Nat.le_of_ble_eq_true rfl) (p139_ok (d + 64) (h) w (hI (h) (1) ((v3) + (1)).toNatClampNeg) (hI (h) (1) ((v3) + (2)).toNatClampNeg) r264 hr265) ?_
        show ex _ 306 (1179, [some (.ref (1)), some (.ref (32)), some (.ref (86)), some (.int (v3))], [.int (r264.1)], r264.2) = _
        refine e_aload_n f306_1179 rfl ?_
        refine e_aload_n f306_1180 rfl ?_
        refine e_iload_n f306_1181 rfl ?_
        refine e_iconst (v := 1) f306_1182 (by decide) ?_
        refine e_iadd f306_1183 ?_
        by_cases hg266 : ((v3) + (1)) < (0 : Int32) ∨ hN (r264.2) (1) ≤ ((v3) + (1)).toNatClampNeg
        · rw [if_pos hg266] at hp; cases hp
        rw [if_neg hg266] at hp
        refine e_iaload f306_1184 (Or.inr (WF.x (p139_w (h) w (hI (h) (1) ((v3) + (1)).toNatClampNeg) (hI (h) (1) ((v3) + (2)).toNatClampNeg)  r264 hr265) 1 (by decide))) rfl hg266 ?_
        refine e_aload_n f306_1185 rfl ?_
        refine e_iload_n f306_1186 rfl ?_
        refine e_iconst (v := 2) f306_1187 (by decide) ?_
        refine e_iadd f306_1188 ?_
        by_cases hg267 : ((v3) + (2)) < (0 : Int32) ∨ hN (r264.2) (1) ≤ ((v3) + (2)).toNatClampNeg
        · rw [if_pos hg267] at hp; cases hp
        rw [if_neg hg267] at hp
        refine e_iaload f306_1189 (Or.inr (WF.x (p139_w (h) w (hI (h) (1) ((v3) + (1)).toNatClampNeg) (hI (h) (1) ((v3) + (2)).toNatClampNeg)  r264 hr265) 1 (by decide))) rfl hg267 ?_
        obtain ⟨r268, hr269, hp⟩ := bind_some hp
        try dsimp only at hp
        refine e_callV (st := [.int (r264.1)]) (o := 86) (as := [.int (hI (r264.2) (1) ((v3) + (1)).toNatClampNeg), .int (hI (r264.2) (1) ((v3) + (2)).toNatClampNeg)]) f306_1190 (by decide) rfl rfl (Nat.le_of_ble_eq_true rfl) (WF.t (p139_w (h) w (hI (h) (1) ((v3) + (1)).toNatClampNeg) (hI (h) (1) ((v3) + (2)).toNatClampNeg)  r264 hr265) 86 (by decide)) (Nat.le_of_ble_eq_true rfl) (p238_ok (d + 64) (r264.2) (p139_w (h) w (hI (h) (1) ((v3) + (1)).toNatClampNeg) (hI (h) (1) ((v3) + (2)).toNatClampNeg)  r264 hr265) (hI (r264.2) (1) ((v3) + (1)).toNatClampNeg) (hI (r264.2) (1) ((v3) + (2)).toNatClampNeg) r268 hr269) ?_
        show ex _ 306 (1193, [some (.ref (1)), some (.ref (32)), some (.ref (86)), some (.int (v3))], [.int (r268.1), .int (r264.1)], r268.2) = _
        by_cases hc270 : (r264.1) = ((r268.1) : Int32)
        · rw [if_pos hc270] at hp
          refine e_icmp_eq_t f306_1193 hc270 ?_
          refine ex_weak (ls := [some (.ref (1)), some (.ref (32)), some (.ref (86)), some (.int (v3))]) (le2_ok ⟨Or.inr rfl, Or.inr rfl, Or.inr rfl, Or.inr rfl, trivial⟩) ?_
          exact p306_j2120_ok d F ((p306_L18 F n)) (ih) (r268.2) ((p238_w (r264.2) (p139_w (h) w (hI (h) (1) ((v3) + (1)).toNatClampNeg) (hI (h) (1) ((v3) + (2)).toNatClampNeg)  r264 hr265) (hI (r264.2) (1) ((v3) + (1)).toNatClampNeg) (hI (r264.2) (1) ((v3) + (2)).toNatClampNeg)  r268 hr269)) (v3) _ hp
        · rw [if_neg hc270] at hp
          refine e_icmp_eq_f f306_1193 hc270 ?_
          refine e_iconst (v := 0) f306_1196 (by decide) ?_
          have hp := Option.some.inj hp
          subst hp
          exact e_ireturn f306_1197 (by decide)
      rw [if_neg hc261] at hp
      by_cases hc271 : ((hI (h) (1) (v3).toNatClampNeg) &&& (63)) = (26 : Int32)
      · rw [if_pos hc271] at hp
        refine e_sw (t := 1198) f306_33 (by rw [hc271]; decide) (by rw [hc271]; decide) ?_
        refine e_aload_n f306_1198 rfl ?_
        refine e_aload_n f306_1199 rfl ?_
        refine e_iload_n f306_1200 rfl ?_
        refine e_iconst (v := 1) f306_1201 (by decide) ?_
        refine e_iadd f306_1202 ?_
        by_cases hg272 : ((v3) + (1)) < (0 : Int32) ∨ hN (h) (1) ≤ ((v3) + (1)).toNatClampNeg
        · rw [if_pos hg272] at hp; cases hp
        rw [if_neg hg272] at hp
        refine e_iaload f306_1203 (Or.inr (WF.x w 1 (by decide))) rfl hg272 ?_
        refine e_aload_n f306_1204 rfl ?_
        refine e_iload_n f306_1205 rfl ?_
        refine e_iconst (v := 2) f306_1206 (by decide) ?_
        refine e_iadd f306_1207 ?_
        by_cases hg273 : ((v3) + (2)) < (0 : Int32) ∨ hN (h) (1) ≤ ((v3) + (2)).toNatClampNeg
        · rw [if_pos hg273] at hp; cases hp
        rw [if_neg hg273] at hp
        refine e_iaload f306_1208 (Or.inr (WF.x w 1 (by decide))) rfl hg273 ?_
        refine e_aload_n f306_1209 rfl ?_
        refine e_iload_n f306_1210 rfl ?_
        refine e_iconst (v := 3) f306_1211 (by decide) ?_
        refine e_iadd f306_1212 ?_
        by_cases hg274 : ((v3) + (3)) < (0 : Int32) ∨ hN (h) (1) ≤ ((v3) + (3)).toNatClampNeg
        · rw [if_pos hg274] at hp; cases hp
        rw [if_neg hg274] at hp
        refine e_iaload f306_1213 (Or.inr (WF.x w 1 (by decide))) rfl hg274 ?_
        refine e_aload_n f306_1214 rfl ?_
        refine e_iload_n f306_1215 rfl ?_
        refine e_iconst (v := 4) f306_1216 (by decide) ?_
        refine e_iadd f306_1217 ?_
        by_cases hg275 : ((v3) + (4)) < (0 : Int32) ∨ hN (h) (1) ≤ ((v3) + (4)).toNatClampNeg
        · rw [if_pos hg275] at hp; cases hp
        rw [if_neg hg275] at hp
        refine e_iaload f306_1218 (Or.inr (WF.x w 1 (by decide))) rfl hg275 ?_
        obtain ⟨r276, hr277, hp⟩ := bind_some hp
        try dsimp only at hp
        refine e_callV (st := []) (o := 32) (as := [.int (hI (h) (1) ((v3) + (1)).toNatClampNeg), .int (hI (h) (1) ((v3) + (2)).toNatClampNeg), .int (hI (h) (1) ((v3) + (3)).toNatClampNeg), .int (hI (h) (1) ((v3) + (4)).toNatClampNeg)]) f306_1219 (by decide) rfl rfl (Nat.le_of_ble_eq_true rfl) (WF.t w 32 (by decide)) (Nat.le_of_ble_eq_true rfl) (p140_ok (d + 62) (h) w (hI (h) (1) ((v3) + (1)).toNatClampNeg) (hI (h) (1) ((v3) + (2)).toNatClampNeg) (hI (h) (1) ((v3) + (3)).toNatClampNeg) (hI (h) (1) ((v3) + (4)).toNatClampNeg) r276 hr277) ?_
        show ex _ 306 (1222, [some (.ref (1)), some (.ref (32)), some (.ref (86)), some (.int (v3))], [.int (r276.1)], r276.2) = _
        refine e_aload_n f306_1222 rfl ?_
        refine e_aload_n f306_1223 rfl ?_
        refine e_iload_n f306_1224 rfl ?_
        refine e_iconst (v := 1) f306_1225 (by decide) ?_
        refine e_iadd f306_1226 ?_
        by_cases hg278 : ((v3) + (1)) < (0 : Int32) ∨ hN (r276.2) (1) ≤ ((v3) + (1)).toNatClampNeg
        · rw [if_pos hg278] at hp; cases hp
        rw [if_neg hg278] at hp
        refine e_iaload f306_1227 (Or.inr (WF.x (p140_w (h) w (hI (h) (1) ((v3) + (1)).toNatClampNeg) (hI (h) (1) ((v3) + (2)).toNatClampNeg) (hI (h) (1) ((v3) + (3)).toNatClampNeg) (hI (h) (1) ((v3) + (4)).toNatClampNeg)  r276 hr277) 1 (by decide))) rfl hg278 ?_
        refine e_aload_n f306_1228 rfl ?_
        refine e_iload_n f306_1229 rfl ?_
        refine e_iconst (v := 2) f306_1230 (by decide) ?_
        refine e_iadd f306_1231 ?_
        by_cases hg279 : ((v3) + (2)) < (0 : Int32) ∨ hN (r276.2) (1) ≤ ((v3) + (2)).toNatClampNeg
        · rw [if_pos hg279] at hp; cases hp
        rw [if_neg hg279] at hp
        refine e_iaload f306_1232 (Or.inr (WF.x (p140_w (h) w (hI (h) (1) ((v3) + (1)).toNatClampNeg) (hI (h) (1) ((v3) + (2)).toNatClampNeg) (hI (h) (1) ((v3) + (3)).toNatClampNeg) (hI (h) (1) ((v3) + (4)).toNatClampNeg)  r276 hr277) 1 (by decide))) rfl hg279 ?_
        refine e_aload_n f306_1233 rfl ?_
        refine e_iload_n f306_1234 rfl ?_
        refine e_iconst (v := 3) f306_1235 (by decide) ?_
        refine e_iadd f306_1236 ?_
        by_cases hg280 : ((v3) + (3)) < (0 : Int32) ∨ hN (r276.2) (1) ≤ ((v3) + (3)).toNatClampNeg
        · rw [if_pos hg280] at hp; cases hp
        rw [if_neg hg280] at hp
        refine e_iaload f306_1237 (Or.inr (WF.x (p140_w (h) w (hI (h) (1) ((v3) + (1)).toNatClampNeg) (hI (h) (1) ((v3) + (2)).toNatClampNeg) (hI (h) (1) ((v3) + (3)).toNatClampNeg) (hI (h) (1) ((v3) + (4)).toNatClampNeg)  r276 hr277) 1 (by decide))) rfl hg280 ?_
        refine e_aload_n f306_1238 rfl ?_
        refine e_iload_n f306_1239 rfl ?_
        refine e_iconst (v := 4) f306_1240 (by decide) ?_
        refine e_iadd f306_1241 ?_
        by_cases hg281 : ((v3) + (4)) < (0 : Int32) ∨ hN (r276.2) (1) ≤ ((v3) + (4)).toNatClampNeg
        · rw [if_pos hg281] at hp; cases hp
        rw [if_neg hg281] at hp
        refine e_iaload f306_1242 (Or.inr (WF.x (p140_w (h) w (hI (h) (1) ((v3) + (1)).toNatClampNeg) (hI (h) (1) ((v3) + (2)).toNatClampNeg) (hI (h) (1) ((v3) + (3)).toNatClampNeg) (hI (h) (1) ((v3) + (4)).toNatClampNeg)  r276 hr277) 1 (by decide))) rfl hg281 ?_
        obtain ⟨r282, hr283, hp⟩ := bind_some hp
        try dsimp only at hp
        refine e_callV (st := [.int (r276.1)]) (o := 86) (as := [.int (hI (r276.2) (1) ((v3) + (1)).toNatClampNeg), .int (hI (r276.2) (1) ((v3) + (2)).toNatClampNeg), .int (hI (r276.2) (1) ((v3) + (3)).toNatClampNeg), .int (hI (r276.2) (1) ((v3) + (4)).toNatClampNeg)]) f306_1243 (by decide) rfl rfl (Nat.le_of_ble_eq_true rfl) (WF.t (p140_w (h) w (hI (h) (1) ((v3) + (1)).toNatClampNeg) (hI (h) (1) ((v3) + (2)).toNatClampNeg) (hI (h) (1) ((v3) + (3)).toNatClampNeg) (hI (h) (1) ((v3) + (4)).toNatClampNeg)  r276 hr277) 86 (by decide)) (Nat.le_of_ble_eq_true rfl) (p239_ok (d + 62) (r276.2) (p140_w (h) w (hI (h) (1) ((v3) + (1)).toNatClampNeg) (hI (h) (1) ((v3) + (2)).toNatClampNeg) (hI (h) (1) ((v3) + (3)).toNatClampNeg) (hI (h) (1) ((v3) + (4)).toNatClampNeg)  r276 hr277) (hI (r276.2) (1) ((v3) + (1)).toNatClampNeg) (hI (r276.2) (1) ((v3) + (2)).toNatClampNeg) (hI (r276.2) (1) ((v3) + (3)).toNatClampNeg) (hI (r276.2) (1) ((v3) + (4)).toNatClampNeg) r282 hr283) ?_
        show ex _ 306 (1246, [some (.ref (1)), some (.ref (32)), some (.ref (86)), some (.int (v3))], [.int (r282.1), .int (r276.1)], r282.2) = _
        by_cases hc284 : (r276.1) = ((r282.1) : Int32)
        · rw [if_pos hc284] at hp
          refine e_icmp_eq_t f306_1246 hc284 ?_
          refine ex_weak (ls := [some (.ref (1)), some (.ref (32)), some (.ref (86)), some (.int (v3))]) (le2_ok ⟨Or.inr rfl, Or.inr rfl, Or.inr rfl, Or.inr rfl, trivial⟩) ?_
          exact p306_j2120_ok d F ((p306_L18 F n)) (ih) (r282.2) ((p239_w (r276.2) (p140_w (h) w (hI (h) (1) ((v3) + (1)).toNatClampNeg) (hI (h) (1) ((v3) + (2)).toNatClampNeg) (hI (h) (1) ((v3) + (3)).toNatClampNeg) (hI (h) (1) ((v3) + (4)).toNatClampNeg)  r276 hr277) (hI (r276.2) (1) ((v3) + (1)).toNatClampNeg) (hI (r276.2) (1) ((v3) + (2)).toNatClampNeg) (hI (r276.2) (1) ((v3) + (3)).toNatClampNeg) (hI (r276.2) (1) ((v3) + (4)).toNatClampNeg)  r282 hr283)) (v3) _ hp
        · rw [if_neg hc284] at hp
          refine e_icmp_eq_f f306_1246 hc284 ?_
          refine e_iconst (v := 0) f306_1249 (by decide) ?_
          have hp := Option.some.inj hp
          subst hp
          exact e_ireturn f306_1250 (by decide)
      rw [if_neg hc271] at hp
      by_cases hc285 : ((hI (h) (1) (v3).toNatClampNeg) &&& (63)) = (27 : Int32)
      · rw [if_pos hc285] at hp
        refine e_sw (t := 1251) f306_33 (by rw [hc285]; decide) (by rw [hc285]; decide) ?_
        refine e_aload_n f306_1251 rfl ?_
        refine e_aload_n f306_1252 rfl ?_
        refine e_iload_n f306_1253 rfl ?_
        refine e_iconst (v := 1) f306_1254 (by decide) ?_
        refine e_iadd f306_1255 ?_
        by_cases hg286 : ((v3) + (1)) < (0 : Int32) ∨ hN (h) (1) ≤ ((v3) + (1)).toNatClampNeg
        · rw [if_pos hg286] at hp; cases hp
        rw [if_neg hg286] at hp
        refine e_iaload f306_1256 (Or.inr (WF.x w 1 (by decide))) rfl hg286 ?_
        refine e_aload_n f306_1257 rfl ?_
        refine e_iload_n f306_1258 rfl ?_
        refine e_iconst (v := 2) f306_1259 (by decide) ?_
        refine e_iadd f306_1260 ?_
        by_cases hg287 : ((v3) + (2)) < (0 : Int32) ∨ hN (h) (1) ≤ ((v3) + (2)).toNatClampNeg
        · rw [if_pos hg287] at hp; cases hp
        rw [if_neg hg287] at hp
        refine e_iaload f306_1261 (Or.inr (WF.x w 1 (by decide))) rfl hg287 ?_
        obtain ⟨r288, hr289, hp⟩ := bind_some hp
        try dsimp only at hp
        refine e_callV (st := []) (o := 32) (as := [.int (hI (h) (1) ((v3) + (1)).toNatClampNeg), .int (hI (h) (1) ((v3) + (2)).toNatClampNeg)]) f306_1262 (by decide) rfl rfl (Nat.le_of_ble_eq_true rfl) (WF.t w 32 (by decide)) (Nat.le_of_ble_eq_true rfl) (p141_ok (d + 61) F (h) w (hI (h) (1) ((v3) + (1)).toNatClampNeg) (hI (h) (1) ((v3) + (2)).toNatClampNeg) r288 hr289) ?_
        show ex _ 306 (1265, [some (.ref (1)), some (.ref (32)), some (.ref (86)), some (.int (v3))], [.int (r288)], h) = _
        refine e_aload_n f306_1265 rfl ?_
        refine e_aload_n f306_1266 rfl ?_
        refine e_iload_n f306_1267 rfl ?_
        refine e_iconst (v := 1) f306_1268 (by decide) ?_
        refine e_iadd f306_1269 ?_
        by_cases hg290 : ((v3) + (1)) < (0 : Int32) ∨ hN (h) (1) ≤ ((v3) + (1)).toNatClampNeg
        · rw [if_pos hg290] at hp; cases hp
        rw [if_neg hg290] at hp
        refine e_iaload f306_1270 (Or.inr (WF.x w 1 (by decide))) rfl hg290 ?_
        refine e_aload_n f306_1271 rfl ?_
        refine e_iload_n f306_1272 rfl ?_
        refine e_iconst (v := 2) f306_1273 (by decide) ?_
        refine e_iadd f306_1274 ?_
        by_cases hg291 : ((v3) + (2)) < (0 : Int32) ∨ hN (h) (1) ≤ ((v3) + (2)).toNatClampNeg
        · rw [if_pos hg291] at hp; cases hp
        rw [if_neg hg291] at hp
        refine e_iaload f306_1275 (Or.inr (WF.x w 1 (by decide))) rfl hg291 ?_
        obtain ⟨r292, hr293, hp⟩ := bind_some hp
        try dsimp only at hp
        refine e_callV (st := [.int (r288)]) (o := 86) (as := [.int (hI (h) (1) ((v3) + (1)).toNatClampNeg), .int (hI (h) (1) ((v3) + (2)).toNatClampNeg)]) f306_1276 (by decide) rfl rfl (Nat.le_of_ble_eq_true rfl) (WF.t w 86 (by decide)) (Nat.le_of_ble_eq_true rfl) (p240_ok (d + 62) F (h) w (hI (h) (1) ((v3) + (1)).toNatClampNeg) (hI (h) (1) ((v3) + (2)).toNatClampNeg) r292 hr293) ?_
        show ex _ 306 (1279, [some (.ref (1)), some (.ref (32)), some (.ref (86)), some (.int (v3))], [.int (r292), .int (r288)], h) = _
        by_cases hc294 : (r288) = ((r292) : Int32)
        · rw [if_pos hc294] at hp
          refine e_icmp_eq_t f306_1279 hc294 ?_
          refine ex_weak (ls := [some (.ref (1)), some (.ref (32)), some (.ref (86)), some (.int (v3))]) (le2_ok ⟨Or.inr rfl, Or.inr rfl, Or.inr rfl, Or.inr rfl, trivial⟩) ?_
          exact p306_j2120_ok d F ((p306_L18 F n)) (ih) (h) (w) (v3) _ hp
        · rw [if_neg hc294] at hp
          refine e_icmp_eq_f f306_1279 hc294 ?_
          refine e_iconst (v := 0) f306_1282 (by decide) ?_
          have hp := Option.some.inj hp
          subst hp
          exact e_ireturn f306_1283 (by decide)
      rw [if_neg hc285] at hp
      by_cases hc295 : ((hI (h) (1) (v3).toNatClampNeg) &&& (63)) = (28 : Int32)
      · rw [if_pos hc295] at hp
        refine e_sw (t := 1284) f306_33 (by rw [hc295]; decide) (by rw [hc295]; decide) ?_
        refine e_aload_n f306_1284 rfl ?_
        refine e_aload_n f306_1285 rfl ?_
        refine e_iload_n f306_1286 rfl ?_
        refine e_iconst (v := 1) f306_1287 (by decide) ?_
        refine e_iadd f306_1288 ?_
        by_cases hg296 : ((v3) + (1)) < (0 : Int32) ∨ hN (h) (1) ≤ ((v3) + (1)).toNatClampNeg
        · rw [if_pos hg296] at hp; cases hp
        rw [if_neg hg296] at hp
        refine e_iaload f306_1289 (Or.inr (WF.x w 1 (by decide))) rfl hg296 ?_
        refine e_aload_n f306_1290 rfl ?_
        refine e_iload_n f306_1291 rfl ?_
        refine e_iconst (v := 2) f306_1292 (by decide) ?_
        refine e_iadd f306_1293 ?_
        by_cases hg297 : ((v3) + (2)) < (0 : Int32) ∨ hN (h) (1) ≤ ((v3) + (2)).toNatClampNeg
        · rw [if_pos hg297] at hp; cases hp
        rw [if_neg hg297] at hp
        refine e_iaload f306_1294 (Or.inr (WF.x w 1 (by decide))) rfl hg297 ?_
        refine e_aload_n f306_1295 rfl ?_
        refine e_iload_n f306_1296 rfl ?_
        refine e_iconst (v := 3) f306_1297 (by decide) ?_
        refine e_iadd f306_1298 ?_
        by_cases hg298 : ((v3) + (3)) < (0 : Int32) ∨ hN (h) (1) ≤ ((v3) + (3)).toNatClampNeg
        · rw [if_pos hg298] at hp; cases hp
        rw [if_neg hg298] at hp
        refine e_iaload f306_1299 (Or.inr (WF.x w 1 (by decide))) rfl hg298 ?_
        refine e_aload_n f306_1300 rfl ?_
        refine e_iload_n f306_1301 rfl ?_
        refine e_iconst (v := 4) f306_1302 (by decide) ?_
        refine e_iadd f306_1303 ?_
        by_cases hg299 : ((v3) + (4)) < (0 : Int32) ∨ hN (h) (1) ≤ ((v3) + (4)).toNatClampNeg
        · rw [if_pos hg299] at hp; cases hp
        rw [if_neg hg299] at hp
        refine e_iaload f306_1304 (Or.inr (WF.x w 1 (by decide))) rfl hg299 ?_
        refine e_aload_n f306_1305 rfl ?_
        refine e_iload_n f306_1306 rfl ?_
        refine e_iconst (v := 5) f306_1307 (by decide) ?_
        refine e_iadd f306_1308 ?_
        by_cases hg300 : ((v3) + (5)) < (0 : Int32) ∨ hN (h) (1) ≤ ((v3) + (5)).toNatClampNeg
        · rw [if_pos hg300] at hp; cases hp
        rw [if_neg hg300] at hp
        refine e_iaload f306_1309 (Or.inr (WF.x w 1 (by decide))) rfl hg300 ?_
        obtain ⟨r301, hr302, hp⟩ := bind_some hp
        try dsimp only at hp
        refine e_callV (st := []) (o := 32) (as := [.int (hI (h) (1) ((v3) + (1)).toNatClampNeg), .int (hI (h) (1) ((v3) + (2)).toNatClampNeg), .int (hI (h) (1) ((v3) + (3)).toNatClampNeg), .int (hI (h) (1) ((v3) + (4)).toNatClampNeg), .int (hI (h) (1) ((v3) + (5)).toNatClampNeg)]) f306_1310 (by decide) rfl rfl (Nat.le_of_ble_eq_true rfl) (WF.t w 32 (by decide)) (Nat.le_of_ble_eq_true rfl) (p142_ok (d + 64) F (h) w (hI (h) (1) ((v3) + (1)).toNatClampNeg) (hI (h) (1) ((v3) + (2)).toNatClampNeg) (hI (h) (1) ((v3) + (3)).toNatClampNeg) (hI (h) (1) ((v3) + (4)).toNatClampNeg) (hI (h) (1) ((v3) + (5)).toNatClampNeg) r301 hr302) ?_
        show ex _ 306 (1313, [some (.ref (1)), some (.ref (32)), some (.ref (86)), some (.int (v3))], [.int (r301.1)], r301.2) = _
        refine e_aload_n f306_1313 rfl ?_
        refine e_aload_n f306_1314 rfl ?_
        refine e_iload_n f306_1315 rfl ?_
        refine e_iconst (v := 1) f306_1316 (by decide) ?_
        refine e_iadd f306_1317 ?_
        by_cases hg303 : ((v3) + (1)) < (0 : Int32) ∨ hN (r301.2) (1) ≤ ((v3) + (1)).toNatClampNeg
        · rw [if_pos hg303] at hp; cases hp
        rw [if_neg hg303] at hp
        refine e_iaload f306_1318 (Or.inr (WF.x (p142_w F (h) w (hI (h) (1) ((v3) + (1)).toNatClampNeg) (hI (h) (1) ((v3) + (2)).toNatClampNeg) (hI (h) (1) ((v3) + (3)).toNatClampNeg) (hI (h) (1) ((v3) + (4)).toNatClampNeg) (hI (h) (1) ((v3) + (5)).toNatClampNeg)  r301 hr302) 1 (by decide))) rfl hg303 ?_
        refine e_aload_n f306_1319 rfl ?_
        refine e_iload_n f306_1320 rfl ?_
        refine e_iconst (v := 2) f306_1321 (by decide) ?_
        refine e_iadd f306_1322 ?_
        by_cases hg304 : ((v3) + (2)) < (0 : Int32) ∨ hN (r301.2) (1) ≤ ((v3) + (2)).toNatClampNeg
        · rw [if_pos hg304] at hp; cases hp
        rw [if_neg hg304] at hp
        refine e_iaload f306_1323 (Or.inr (WF.x (p142_w F (h) w (hI (h) (1) ((v3) + (1)).toNatClampNeg) (hI (h) (1) ((v3) + (2)).toNatClampNeg) (hI (h) (1) ((v3) + (3)).toNatClampNeg) (hI (h) (1) ((v3) + (4)).toNatClampNeg) (hI (h) (1) ((v3) + (5)).toNatClampNeg)  r301 hr302) 1 (by decide))) rfl hg304 ?_
        refine e_aload_n f306_1324 rfl ?_
        refine e_iload_n f306_1325 rfl ?_
        refine e_iconst (v := 3) f306_1326 (by decide) ?_
        refine e_iadd f306_1327 ?_
        by_cases hg305 : ((v3) + (3)) < (0 : Int32) ∨ hN (r301.2) (1) ≤ ((v3) + (3)).toNatClampNeg
        · rw [if_pos hg305] at hp; cases hp
        rw [if_neg hg305] at hp
        refine e_iaload f306_1328 (Or.inr (WF.x (p142_w F (h) w (hI (h) (1) ((v3) + (1)).toNatClampNeg) (hI (h) (1) ((v3) + (2)).toNatClampNeg) (hI (h) (1) ((v3) + (3)).toNatClampNeg) (hI (h) (1) ((v3) + (4)).toNatClampNeg) (hI (h) (1) ((v3) + (5)).toNatClampNeg)  r301 hr302) 1 (by decide))) rfl hg305 ?_
        refine e_aload_n f306_1329 rfl ?_
        refine e_iload_n f306_1330 rfl ?_
        refine e_iconst (v := 4) f306_1331 (by decide) ?_
        refine e_iadd f306_1332 ?_
        by_cases hg306 : ((v3) + (4)) < (0 : Int32) ∨ hN (r301.2) (1) ≤ ((v3) + (4)).toNatClampNeg
        · rw [if_pos hg306] at hp; cases hp
        rw [if_neg hg306] at hp
        refine e_iaload f306_1333 (Or.inr (WF.x (p142_w F (h) w (hI (h) (1) ((v3) + (1)).toNatClampNeg) (hI (h) (1) ((v3) + (2)).toNatClampNeg) (hI (h) (1) ((v3) + (3)).toNatClampNeg) (hI (h) (1) ((v3) + (4)).toNatClampNeg) (hI (h) (1) ((v3) + (5)).toNatClampNeg)  r301 hr302) 1 (by decide))) rfl hg306 ?_
        refine e_aload_n f306_1334 rfl ?_
        refine e_iload_n f306_1335 rfl ?_
        refine e_iconst (v := 5) f306_1336 (by decide) ?_
        refine e_iadd f306_1337 ?_
        by_cases hg307 : ((v3) + (5)) < (0 : Int32) ∨ hN (r301.2) (1) ≤ ((v3) + (5)).toNatClampNeg
        · rw [if_pos hg307] at hp; cases hp
        rw [if_neg hg307] at hp
        refine e_iaload f306_1338 (Or.inr (WF.x (p142_w F (h) w (hI (h) (1) ((v3) + (1)).toNatClampNeg) (hI (h) (1) ((v3) + (2)).toNatClampNeg) (hI (h) (1) ((v3) + (3)).toNatClampNeg) (hI (h) (1) ((v3) + (4)).toNatClampNeg) (hI (h) (1) ((v3) + (5)).toNatClampNeg)  r301 hr302) 1 (by decide))) rfl hg307 ?_
        obtain ⟨r308, hr309, hp⟩ := bind_some hp
        try dsimp only at hp
        refine e_callV (st := [.int (r301.1)]) (o := 86) (as := [.int (hI (r301.2) (1) ((v3) + (1)).toNatClampNeg), .int (hI (r301.2) (1) ((v3) + (2)).toNatClampNeg), .int (hI (r301.2) (1) ((v3) + (3)).toNatClampNeg), .int (hI (r301.2) (1) ((v3) + (4)).toNatClampNeg), .int (hI (r301.2) (1) ((v3) + (5)).toNatClampNeg)]) f306_1339 (by decide) rfl rfl (Nat.le_of_ble_eq_true rfl) (WF.t (p142_w F (h) w (hI (h) (1) ((v3) + (1)).toNatClampNeg) (hI (h) (1) ((v3) + (2)).toNatClampNeg) (hI (h) (1) ((v3) + (3)).toNatClampNeg) (hI (h) (1) ((v3) + (4)).toNatClampNeg) (hI (h) (1) ((v3) + (5)).toNatClampNeg)  r301 hr302) 86 (by decide)) (Nat.le_of_ble_eq_true rfl) (p241_ok (d + 64) F (r301.2) (p142_w F (h) w (hI (h) (1) ((v3) + (1)).toNatClampNeg) (hI (h) (1) ((v3) + (2)).toNatClampNeg) (hI (h) (1) ((v3) + (3)).toNatClampNeg) (hI (h) (1) ((v3) + (4)).toNatClampNeg) (hI (h) (1) ((v3) + (5)).toNatClampNeg)  r301 hr302) (hI (r301.2) (1) ((v3) + (1)).toNatClampNeg) (hI (r301.2) (1) ((v3) + (2)).toNatClampNeg) (hI (r301.2) (1) ((v3) + (3)).toNatClampNeg) (hI (r301.2) (1) ((v3) + (4)).toNatClampNeg) (hI (r301.2) (1) ((v3) + (5)).toNatClampNeg) r308 hr309) ?_
        show ex _ 306 (1342, [some (.ref (1)), some (.ref (32)), some (.ref (86)), some (.int (v3))], [.int (r308.1), .int (r301.1)], r308.2) = _
        by_cases hc310 : (r301.1) = ((r308.1) : Int32)
        · rw [if_pos hc310] at hp
          refine e_icmp_eq_t f306_1342 hc310 ?_
          refine ex_weak (ls := [some (.ref (1)), some (.ref (32)), some (.ref (86)), some (.int (v3))]) (le2_ok ⟨Or.inr rfl, Or.inr rfl, Or.inr rfl, Or.inr rfl, trivial⟩) ?_
          exact p306_j2120_ok d F ((p306_L18 F n)) (ih) (r308.2) ((p241_w F (r301.2) (p142_w F (h) w (hI (h) (1) ((v3) + (1)).toNatClampNeg) (hI (h) (1) ((v3) + (2)).toNatClampNeg) (hI (h) (1) ((v3) + (3)).toNatClampNeg) (hI (h) (1) ((v3) + (4)).toNatClampNeg) (hI (h) (1) ((v3) + (5)).toNatClampNeg)  r301 hr302) (hI (r301.2) (1) ((v3) + (1)).toNatClampNeg) (hI (r301.2) (1) ((v3) + (2)).toNatClampNeg) (hI (r301.2) (1) ((v3) + (3)).toNatClampNeg) (hI (r301.2) (1) ((v3) + (4)).toNatClampNeg) (hI (r301.2) (1) ((v3) + (5)).toNatClampNeg)  r308 hr309)) (v3) _ hp
        · rw [if_neg hc310] at hp
          refine e_icmp_eq_f f306_1342 hc310 ?_
          refine e_iconst (v := 0) f306_1345 (by decide) ?_
          have hp := Option.some.inj hp
          subst hp
          exact e_ireturn f306_1346 (by decide)
      rw [if_neg hc295] at hp
      by_cases hc311 : ((hI (h) (1) (v3).toNatClampNeg) &&& (63)) = (29 : Int32)
      · rw [if_pos hc311] at hp
        refine e_sw (t := 1347) f306_33 (by rw [hc311]; decide) (by rw [hc311]; decide) ?_
        refine e_aload_n f306_1347 rfl ?_
        refine e_aload_n f306_1348 rfl ?_
        refine e_iload_n f306_1349 rfl ?_
        refine e_iconst (v := 1) f306_1350 (by decide) ?_
        refine e_iadd f306_1351 ?_
        by_cases hg312 : ((v3) + (1)) < (0 : Int32) ∨ hN (h) (1) ≤ ((v3) + (1)).toNatClampNeg
        · rw [if_pos hg312] at hp; cases hp
        rw [if_neg hg312] at hp
        refine e_iaload f306_1352 (Or.inr (WF.x w 1 (by decide))) rfl hg312 ?_
        obtain ⟨r313, hr314, hp⟩ := bind_some hp
        try dsimp only at hp
        refine e_callV (st := []) (o := 32) (as := [.int (hI (h) (1) ((v3) + (1)).toNatClampNeg)]) f306_1353 (by decide) rfl rfl (Nat.le_of_ble_eq_true rfl) (WF.t w 32 (by decide)) (Nat.le_of_ble_eq_true rfl) (p143_ok (d + 64) (h) w (hI (h) (1) ((v3) + (1)).toNatClampNeg) r313 hr314) ?_
        show ex _ 306 (1356, [some (.ref (1)), some (.ref (32)), some (.ref (86)), some (.int (v3))], [.int (r313.1)], r313.2) = _
        refine e_aload_n f306_1356 rfl ?_
        refine e_aload_n f306_1357 rfl ?_
        refine e_iload_n f306_1358 rfl ?_
        refine e_iconst (v := 1) f306_1359 (by decide) ?_
        refine e_iadd f306_1360 ?_
        by_cases hg315 : ((v3) + (1)) < (0 : Int32) ∨ hN (r313.2) (1) ≤ ((v3) + (1)).toNatClampNeg
        · rw [if_pos hg315] at hp; cases hp
        rw [if_neg hg315] at hp
        refine e_iaload f306_1361 (Or.inr (WF.x (p143_w (h) w (hI (h) (1) ((v3) + (1)).toNatClampNeg)  r313 hr314) 1 (by decide))) rfl hg315 ?_
        obtain ⟨r316, hr317, hp⟩ := bind_some hp
        try dsimp only at hp
        refine e_callV (st := [.int (r313.1)]) (o := 86) (as := [.int (hI (r313.2) (1) ((v3) + (1)).toNatClampNeg)]) f306_1362 (by decide) rfl rfl (Nat.le_of_ble_eq_true rfl) (WF.t (p143_w (h) w (hI (h) (1) ((v3) + (1)).toNatClampNeg)  r313 hr314) 86 (by decide)) (Nat.le_of_ble_eq_true rfl) (p243_ok (d + 65) (r313.2) (p143_w (h) w (hI (h) (1) ((v3) + (1)).toNatClampNeg)  r313 hr314) (hI (r313.2) (1) ((v3) + (1)).toNatClampNeg) r316 hr317) ?_
        show ex _ 306 (1365, [some (.ref (1)), some (.ref (32)), some (.ref (86)), some (.int (v3))], [.int (r316.1), .int (r313.1)], r316.2) = _
        by_cases hc318 : (r313.1) = ((r316.1) : Int32)
        · rw [if_pos hc318] at hp
          refine e_icmp_eq_t f306_1365 hc318 ?_
          refine ex_weak (ls := [some (.ref (1)), some (.ref (32)), some (.ref (86)), some (.int (v3))]) (le2_ok ⟨Or.inr rfl, Or.inr rfl, Or.inr rfl, Or.inr rfl, trivial⟩) ?_
          exact p306_j2120_ok d F ((p306_L18 F n)) (ih) (r316.2) ((p243_w (r313.2) (p143_w (h) w (hI (h) (1) ((v3) + (1)).toNatClampNeg)  r313 hr314) (hI (r313.2) (1) ((v3) + (1)).toNatClampNeg)  r316 hr317)) (v3) _ hp
        · rw [if_neg hc318] at hp
          refine e_icmp_eq_f f306_1365 hc318 ?_
          refine e_iconst (v := 0) f306_1368 (by decide) ?_
          have hp := Option.some.inj hp
          subst hp
          exact e_ireturn f306_1369 (by decide)
      rw [if_neg hc311] at hp
      by_cases hc319 : ((hI (h) (1) (v3).toNatClampNeg) &&& (63)) = (30 : Int32)
      · rw [if_pos hc319] at hp
        refine e_sw (t := 1370) f306_33 (by rw [hc319]; decide) (by rw [hc319]; decide) ?_
        refine e_aload_n f306_1370 rfl ?_
        refine e_aload_n f306_1371 rfl ?_
        refine e_iload_n f306_1372 rfl ?_
        refine e_iconst (v := 1) f306_1373 (by decide) ?_
        refine e_iadd f306_1374 ?_
        by_cases hg320 : ((v3) + (1)) < (0 : Int32) ∨ hN (h) (1) ≤ ((v3) + (1)).toNatClampNeg
        · rw [if_pos hg320] at hp; cases hp
        rw [if_neg hg320] at hp
        refine e_iaload f306_1375 (Or.inr (WF.x w 1 (by decide))) rfl hg320 ?_
        obtain ⟨r321, hr322, hp⟩ := bind_some hp
        try dsimp only at hp
        refine e_callV (st := []) (o := 32) (as := [.int (hI (h) (1) ((v3) + (1)).toNatClampNeg)]) f306_1376 (by decide) rfl rfl (Nat.le_of_ble_eq_true rfl) (WF.t w 32 (by decide)) (Nat.le_of_ble_eq_true rfl) (p144_ok d F (h) w (hI (h) (1) ((v3) + (1)).toNatClampNeg) r321 hr322) ?_
        show ex _ 306 (1379, [some (.ref (1)), some (.ref (32)), some (.ref (86)), some (.int (v3))], [.int (r321.1)], r321.2) = _
        refine e_aload_n f306_1379 rfl ?_
        refine e_aload_n f306_1380 rfl ?_
        refine e_iload_n f306_1381 rfl ?_
        refine e_iconst (v := 1) f306_1382 (by decide) ?_
        refine e_iadd f306_1383 ?_
        by_cases hg323 : ((v3) + (1)) < (0 : Int32) ∨ hN (r321.2) (1) ≤ ((v3) + (1)).toNatClampNeg
        · rw [if_pos hg323] at hp; cases hp
        rw [if_neg hg323] at hp
        refine e_iaload f306_1384 (Or.inr (WF.x (p144_w F (h) w (hI (h) (1) ((v3) + (1)).toNatClampNeg)  r321 hr322) 1 (by decide))) rfl hg323 ?_
        obtain ⟨r324, hr325, hp⟩ := bind_some hp
        try dsimp only at hp
        refine e_callV (st := [.int (r321.1)]) (o := 86) (as := [.int (hI (r321.2) (1) ((v3) + (1)).toNatClampNeg)]) f306_1385 (by decide) rfl rfl (Nat.le_of_ble_eq_true rfl) (WF.t (p144_w F (h) w (hI (h) (1) ((v3) + (1)).toNatClampNeg)  r321 hr322) 86 (by decide)) (Nat.le_of_ble_eq_true rfl) (p267_ok (d + 61) F (r321.2) (p144_w F (h) w (hI (h) (1) ((v3) + (1)).toNatClampNeg)  r321 hr322) (hI (r321.2) (1) ((v3) + (1)).toNatClampNeg) r324 hr325) ?_
        show ex _ 306 (1388, [some (.ref (1)), some (.ref (32)), some (.ref (86)), some (.int (v3))], [.int (r324.1), .int (r321.1)], r324.2) = _
        by_cases hc326 : (r321.1) = ((r324.1) : Int32)
        · rw [if_pos hc326] at hp
          refine e_icmp_eq_t f306_1388 hc326 ?_
          refine ex_weak (ls := [some (.ref (1)), some (.ref (32)), some (.ref (86)), some (.int (v3))]) (le2_ok ⟨Or.inr rfl, Or.inr rfl, Or.inr rfl, Or.inr rfl, trivial⟩) ?_
          exact p306_j2120_ok d F ((p306_L18 F n)) (ih) (r324.2) ((p267_w F (r321.2) (p144_w F (h) w (hI (h) (1) ((v3) + (1)).toNatClampNeg)  r321 hr322) (hI (r321.2) (1) ((v3) + (1)).toNatClampNeg)  r324 hr325)) (v3) _ hp
        · rw [if_neg hc326] at hp
          refine e_icmp_eq_f f306_1388 hc326 ?_
          refine e_iconst (v := 0) f306_1391 (by decide) ?_
          have hp := Option.some.inj hp
          subst hp
          exact e_ireturn f306_1392 (by decide)
      rw [if_neg hc319] at hp
      by_cases hc327 : ((hI (h) (1) (v3).toNatClampNeg) &&& (63)) = (31 : Int32)
      · rw [if_pos hc327] at hp
        refine e_sw (t := 1393) f306_33 (by rw [hc327]; decide) (by rw [hc327]; decide) ?_
        refine e_aload_n f306_1393 rfl ?_
        refine e_aload_n f306_1394 rfl ?_
        refine e_iload_n f306_1395 rfl ?_
        refine e_iconst (v := 1) f306_1396 (by decide) ?_
        refine e_iadd f306_1397 ?_
        by_cases hg328 : ((v3) + (1)) < (0 : Int32) ∨ hN (h) (1) ≤ ((v3) + (1)).toNatClampNeg
        · rw [if_pos hg328] at hp; cases hp
        rw [if_neg hg328] at hp
        refine e_iaload f306_1398 (Or.inr (WF.x w 1 (by decide))) rfl hg328 ?_
        obtain ⟨r329, hr330, hp⟩ := bind_some hp
        try dsimp only at hp
        refine e_callV (st := []) (o := 32) (as := [.int (hI (h) (1) ((v3) + (1)).toNatClampNeg)]) f306_1399 (by decide) rfl rfl (Nat.le_of_ble_eq_true rfl) (WF.t w 32 (by decide)) (Nat.le_of_ble_eq_true rfl) (p145_ok (d + 63) F (h) w (hI (h) (1) ((v3) + (1)).toNatClampNeg) r329 hr330) ?_
        show ex _ 306 (1402, [some (.ref (1)), some (.ref (32)), some (.ref (86)), some (.int (v3))], [.int (r329)], h) = _
        refine e_aload_n f306_1402 rfl ?_
        refine e_aload_n f306_1403 rfl ?_
        refine e_iload_n f306_1404 rfl ?_
        refine e_iconst (v := 1) f306_1405 (by decide) ?_
        refine e_iadd f306_1406 ?_
        by_cases hg331 : ((v3) + (1)) < (0 : Int32) ∨ hN (h) (1) ≤ ((v3) + (1)).toNatClampNeg
        · rw [if_pos hg331] at hp; cases hp
        rw [if_neg hg331] at hp
        refine e_iaload f306_1407 (Or.inr (WF.x w 1 (by decide))) rfl hg331 ?_
        obtain ⟨r332, hr333, hp⟩ := bind_some hp
        try dsimp only at hp
        refine e_callV (st := [.int (r329)]) (o := 86) (as := [.int (hI (h) (1) ((v3) + (1)).toNatClampNeg)]) f306_1408 (by decide) rfl rfl (Nat.le_of_ble_eq_true rfl) (WF.t w 86 (by decide)) (Nat.le_of_ble_eq_true rfl) (p269_ok (d + 63) F (h) w (hI (h) (1) ((v3) + (1)).toNatClampNeg) r332 hr333) ?_
        show ex _ 306 (1411, [some (.ref (1)), some (.ref (32)), some (.ref (86)), some (.int (v3))], [.int (r332), .int (r329)], h) = _
        by_cases hc334 : (r329) = ((r332) : Int32)
        · rw [if_pos hc334] at hp
          refine e_icmp_eq_t f306_1411 hc334 ?_
          refine ex_weak (ls := [some (.ref (1)), some (.ref (32)), some (.ref (86)), some (.int (v3))]) (le2_ok ⟨Or.inr rfl, Or.inr rfl, Or.inr rfl, Or.inr rfl, trivial⟩) ?_
          exact p306_j2120_ok d F ((p306_L18 F n)) (ih) (h) (w) (v3) _ hp
        · rw [if_neg hc334] at hp
          refine e_icmp_eq_f f306_1411 hc334 ?_
          refine e_iconst (v := 0) f306_1414 (by decide) ?_
          have hp := Option.some.inj hp
          subst hp
          exact e_ireturn f306_1415 (by decide)
      rw [if_neg hc327] at hp
      by_cases hc335 : ((hI (h) (1) (v3).toNatClampNeg) &&& (63)) = (32 : Int32)
      · rw [if_pos hc335] at hp
        refine e_sw (t := 1416) f306_33 (by rw [hc335]; decide) (by rw [hc335]; decide) ?_
        refine e_aload_n f306_1416 rfl ?_
        refine e_aload_n f306_1417 rfl ?_
        refine e_iload_n f306_1418 rfl ?_
        refine e_iconst (v := 1) f306_1419 (by decide) ?_
        refine e_iadd f306_1420 ?_
        by_cases hg336 : ((v3) + (1)) < (0 : Int32) ∨ hN (h) (1) ≤ ((v3) + (1)).toNatClampNeg
        · rw [if_pos hg336] at hp; cases hp
        rw [if_neg hg336] at hp
        refine e_iaload f306_1421 (Or.inr (WF.x w 1 (by decide))) rfl hg336 ?_
        refine e_aload_n f306_1422 rfl ?_
        refine e_iload_n f306_1423 rfl ?_
        refine e_iconst (v := 2) f306_1424 (by decide) ?_
        refine e_iadd f306_1425 ?_
        by_cases hg337 : ((v3) + (2)) < (0 : Int32) ∨ hN (h) (1) ≤ ((v3) + (2)).toNatClampNeg
        · rw [if_pos hg337] at hp; cases hp
        rw [if_neg hg337] at hp
        refine e_iaload f306_1426 (Or.inr (WF.x w 1 (by decide))) rfl hg337 ?_
        refine e_i2l f306_1427 ?_
        refine e_bipush (v := 32) f306_1428 (by decide) ?_
        refine e_lshl f306_1430 ?_
        refine e_aload_n f306_1431 rfl ?_
        refine e_iload_n f306_1432 rfl ?_
        refine e_iconst (v := 3) f306_1433 (by decide) ?_
        refine e_iadd f306_1434 ?_
        by_cases hg338 : ((v3) + (3)) < (0 : Int32) ∨ hN (h) (1) ≤ ((v3) + (3)).toNatClampNeg
        · rw [if_pos hg338] at hp; cases hp
        rw [if_neg hg338] at hp
        refine e_iaload f306_1435 (Or.inr (WF.x w 1 (by decide))) rfl hg338 ?_
        refine e_i2l f306_1436 ?_
        refine e_ldc2 (v := 4294967295) f306_1437 (by decide) ?_
        refine e_land f306_1440 ?_
        refine e_lor f306_1441 ?_
        refine e_aload_n f306_1442 rfl ?_
        refine e_iload_n f306_1443 rfl ?_
        refine e_iconst (v := 4) f306_1444 (by decide) ?_
        refine e_iadd f306_1445 ?_
        by_cases hg339 : ((v3) + (4)) < (0 : Int32) ∨ hN (h) (1) ≤ ((v3) + (4)).toNatClampNeg
        · rw [if_pos hg339] at hp; cases hp
        rw [if_neg hg339] at hp
        refine e_iaload f306_1446 (Or.inr (WF.x w 1 (by decide))) rfl hg339 ?_
        refine e_aload_n f306_1447 rfl ?_
        refine e_iload_n f306_1448 rfl ?_
        refine e_iconst (v := 5) f306_1449 (by decide) ?_
        refine e_iadd f306_1450 ?_
        by_cases hg340 : ((v3) + (5)) < (0 : Int32) ∨ hN (h) (1) ≤ ((v3) + (5)).toNatClampNeg
        · rw [if_pos hg340] at hp; cases hp
        rw [if_neg hg340] at hp
        refine e_iaload f306_1451 (Or.inr (WF.x w 1 (by decide))) rfl hg340 ?_
        obtain ⟨r341, hr342, hp⟩ := bind_some hp
        try dsimp only at hp
        refine e_callV (st := []) (o := 32) (as := [.int (hI (h) (1) ((v3) + (1)).toNatClampNeg), .long ((((hI (h) (1) ((v3) + (2)).toNatClampNeg).toInt64) <<< ((32 : Int32).toInt64 &&& 63)) ||| (((hI (h) (1) ((v3) + (3)).toNatClampNeg).toInt64) &&& ((4294967295 : Int64)))), .int (hI (h) (1) ((v3) + (4)).toNatClampNeg), .int (hI (h) (1) ((v3) + (5)).toNatClampNeg)]) f306_1452 (by decide) rfl rfl (Nat.le_of_ble_eq_true rfl) (WF.t w 32 (by decide)) (Nat.le_of_ble_eq_true rfl) (p146_ok (d + 62) (h) w (hI (h) (1) ((v3) + (1)).toNatClampNeg) ((((hI (h) (1) ((v3) + (2)).toNatClampNeg).toInt64) <<< ((32 : Int32).toInt64 &&& 63)) ||| (((hI (h) (1) ((v3) + (3)).toNatClampNeg).toInt64) &&& ((4294967295 : Int64)))) (hI (h) (1) ((v3) + (4)).toNatClampNeg) (hI (h) (1) ((v3) + (5)).toNatClampNeg) r341 hr342) ?_
        show ex _ 306 (1455, [some (.ref (1)), some (.ref (32)), some (.ref (86)), some (.int (v3))], [.int (r341.1)], r341.2) = _
        refine e_aload_n f306_1455 rfl ?_
        refine e_aload_n f306_1456 rfl ?_
        refine e_iload_n f306_1457 rfl ?_
        refine e_iconst (v := 1) f306_1458 (by decide) ?_
        refine e_iadd f306_1459 ?_
        by_cases hg343 : ((v3) + (1)) < (0 : Int32) ∨ hN (r341.2) (1) ≤ ((v3) + (1)).toNatClampNeg
        · rw [if_pos hg343] at hp; cases hp
        rw [if_neg hg343] at hp
        refine e_iaload f306_1460 (Or.inr (WF.x (p146_w (h) w (hI (h) (1) ((v3) + (1)).toNatClampNeg) ((((hI (h) (1) ((v3) + (2)).toNatClampNeg).toInt64) <<< ((32 : Int32).toInt64 &&& 63)) ||| (((hI (h) (1) ((v3) + (3)).toNatClampNeg).toInt64) &&& ((4294967295 : Int64)))) (hI (h) (1) ((v3) + (4)).toNatClampNeg) (hI (h) (1) ((v3) + (5)).toNatClampNeg)  r341 hr342) 1 (by decide))) rfl hg343 ?_
        refine e_aload_n f306_1461 rfl ?_
        refine e_iload_n f306_1462 rfl ?_
        refine e_iconst (v := 2) f306_1463 (by decide) ?_
        refine e_iadd f306_1464 ?_
        by_cases hg344 : ((v3) + (2)) < (0 : Int32) ∨ hN (r341.2) (1) ≤ ((v3) + (2)).toNatClampNeg
        · rw [if_pos hg344] at hp; cases hp
        rw [if_neg hg344] at hp
        refine e_iaload f306_1465 (Or.inr (WF.x (p146_w (h) w (hI (h) (1) ((v3) + (1)).toNatClampNeg) ((((hI (h) (1) ((v3) + (2)).toNatClampNeg).toInt64) <<< ((32 : Int32).toInt64 &&& 63)) ||| (((hI (h) (1) ((v3) + (3)).toNatClampNeg).toInt64) &&& ((4294967295 : Int64)))) (hI (h) (1) ((v3) + (4)).toNatClampNeg) (hI (h) (1) ((v3) + (5)).toNatClampNeg)  r341 hr342) 1 (by decide))) rfl hg344 ?_
        refine e_i2l f306_1466 ?_
        refine e_bipush (v := 32) f306_1467 (by decide) ?_
        refine e_lshl f306_1469 ?_
        refine e_aload_n f306_1470 rfl ?_
        refine e_iload_n f306_1471 rfl ?_
        refine e_iconst (v := 3) f306_1472 (by decide) ?_
        refine e_iadd f306_1473 ?_
        by_cases hg345 : ((v3) + (3)) < (0 : Int32) ∨ hN (r341.2) (1) ≤ ((v3) + (3)).toNatClampNeg
        · rw [if_pos hg345] at hp; cases hp
        rw [if_neg hg345] at hp
        refine e_iaload f306_1474 (Or.inr (WF.x (p146_w (h) w (hI (h) (1) ((v3) + (1)).toNatClampNeg) ((((hI (h) (1) ((v3) + (2)).toNatClampNeg).toInt64) <<< ((32 : Int32).toInt64 &&& 63)) ||| (((hI (h) (1) ((v3) + (3)).toNatClampNeg).toInt64) &&& ((4294967295 : Int64)))) (hI (h) (1) ((v3) + (4)).toNatClampNeg) (hI (h) (1) ((v3) + (5)).toNatClampNeg)  r341 hr342) 1 (by decide))) rfl hg345 ?_
        refine e_i2l f306_1475 ?_
        refine e_ldc2 (v := 4294967295) f306_1476 (by decide) ?_
        refine e_land f306_1479 ?_
        refine e_lor f306_1480 ?_
        refine e_aload_n f306_1481 rfl ?_
        refine e_iload_n f306_1482 rfl ?_
        refine e_iconst (v := 4) f306_1483 (by decide) ?_
        refine e_iadd f306_1484 ?_
        by_cases hg346 : ((v3) + (4)) < (0 : Int32) ∨ hN (r341.2) (1) ≤ ((v3) + (4)).toNatClampNeg
        · rw [if_pos hg346] at hp; cases hp
        rw [if_neg hg346] at hp
        refine e_iaload f306_1485 (Or.inr (WF.x (p146_w (h) w (hI (h) (1) ((v3) + (1)).toNatClampNeg) ((((hI (h) (1) ((v3) + (2)).toNatClampNeg).toInt64) <<< ((32 : Int32).toInt64 &&& 63)) ||| (((hI (h) (1) ((v3) + (3)).toNatClampNeg).toInt64) &&& ((4294967295 : Int64)))) (hI (h) (1) ((v3) + (4)).toNatClampNeg) (hI (h) (1) ((v3) + (5)).toNatClampNeg)  r341 hr342) 1 (by decide))) rfl hg346 ?_
        refine e_aload_n f306_1486 rfl ?_
        refine e_iload_n f306_1487 rfl ?_
        refine e_iconst (v := 5) f306_1488 (by decide) ?_
        refine e_iadd f306_1489 ?_
        by_cases hg347 : ((v3) + (5)) < (0 : Int32) ∨ hN (r341.2) (1) ≤ ((v3) + (5)).toNatClampNeg
        · rw [if_pos hg347] at hp; cases hp
        rw [if_neg hg347] at hp
        refine e_iaload f306_1490 (Or.inr (WF.x (p146_w (h) w (hI (h) (1) ((v3) + (1)).toNatClampNeg) ((((hI (h) (1) ((v3) + (2)).toNatClampNeg).toInt64) <<< ((32 : Int32).toInt64 &&& 63)) ||| (((hI (h) (1) ((v3) + (3)).toNatClampNeg).toInt64) &&& ((4294967295 : Int64)))) (hI (h) (1) ((v3) + (4)).toNatClampNeg) (hI (h) (1) ((v3) + (5)).toNatClampNeg)  r341 hr342) 1 (by decide))) rfl hg347 ?_
        obtain ⟨r348, hr349, hp⟩ := bind_some hp
        try dsimp only at hp
        refine e_callV (st := [.int (r341.1)]) (o := 86) (as := [.int (hI (r341.2) (1) ((v3) + (1)).toNatClampNeg), .long ((((hI (r341.2) (1) ((v3) + (2)).toNatClampNeg).toInt64) <<< ((32 : Int32).toInt64 &&& 63)) ||| (((hI (r341.2) (1) ((v3) + (3)).toNatClampNeg).toInt64) &&& ((4294967295 : Int64)))), .int (hI (r341.2) (1) ((v3) + (4)).toNatClampNeg), .int (hI (r341.2) (1) ((v3) + (5)).toNatClampNeg)]) f306_1491 (by decide) rfl rfl (Nat.le_of_ble_eq_true rfl) (WF.t (p146_w (h) w (hI (h) (1) ((v3) + (1)).toNatClampNeg) ((((hI (h) (1) ((v3) + (2)).toNatClampNeg).toInt64) <<< ((32 : Int32).toInt64 &&& 63)) ||| (((hI (h) (1) ((v3) + (3)).toNatClampNeg).toInt64) &&& ((4294967295 : Int64)))) (hI (h) (1) ((v3) + (4)).toNatClampNeg) (hI (h) (1) ((v3) + (5)).toNatClampNeg)  r341 hr342) 86 (by decide)) (Nat.le_of_ble_eq_true rfl) (p275_ok (d + 62) (r341.2) (p146_w (h) w (hI (h) (1) ((v3) + (1)).toNatClampNeg) ((((hI (h) (1) ((v3) + (2)).toNatClampNeg).toInt64) <<< ((32 : Int32).toInt64 &&& 63)) ||| (((hI (h) (1) ((v3) + (3)).toNatClampNeg).toInt64) &&& ((4294967295 : Int64)))) (hI (h) (1) ((v3) + (4)).toNatClampNeg) (hI (h) (1) ((v3) + (5)).toNatClampNeg)  r341 hr342) (hI (r341.2) (1) ((v3) + (1)).toNatClampNeg) ((((hI (r341.2) (1) ((v3) + (2)).toNatClampNeg).toInt64) <<< ((32 : Int32).toInt64 &&& 63)) ||| (((hI (r341.2) (1) ((v3) + (3)).toNatClampNeg).toInt64) &&& ((4294967295 : Int64)))) (hI (r341.2) (1) ((v3) + (4)).toNatClampNeg) (hI (r341.2) (1) ((v3) + (5)).toNatClampNeg) r348 hr349) ?_
        show ex _ 306 (1494, [some (.ref (1)), some (.ref (32)), some (.ref (86)), some (.int (v3))], [.int (r348.1), .int (r341.1)], r348.2) = _
        by_cases hc350 : (r341.1) = ((r348.1) : Int32)
        · rw [if_pos hc350] at hp
          refine e_icmp_eq_t f306_1494 hc350 ?_
          refine ex_weak (ls := [some (.ref (1)), some (.ref (32)), some (.ref (86)), some (.int (v3))]) (le2_ok ⟨Or.inr rfl, Or.inr rfl, Or.inr rfl, Or.inr rfl, trivial⟩) ?_
          exact p306_j2120_ok d F ((p306_L18 F n)) (ih) (r348.2) ((p275_w (r341.2) (p146_w (h) w (hI (h) (1) ((v3) + (1)).toNatClampNeg) ((((hI (h) (1) ((v3) + (2)).toNatClampNeg).toInt64) <<< ((32 : Int32).toInt64 &&& 63)) ||| (((hI (h) (1) ((v3) + (3)).toNatClampNeg).toInt64) &&& ((4294967295 : Int64)))) (hI (h) (1) ((v3) + (4)).toNatClampNeg) (hI (h) (1) ((v3) + (5)).toNatClampNeg)  r341 hr342) (hI (r341.2) (1) ((v3) + (1)).toNatClampNeg) ((((hI (r341.2) (1) ((v3) + (2)).toNatClampNeg).toInt64) <<< ((32 : Int32).toInt64 &&& 63)) ||| (((hI (r341.2) (1) ((v3) + (3)).toNatClampNeg).toInt64) &&& ((4294967295 : Int64)))) (hI (r341.2) (1) ((v3) + (4)).toNatClampNeg) (hI (r341.2) (1) ((v3) + (5)).toNatClampNeg)  r348 hr349)) (v3) _ hp
        · rw [if_neg hc350] at hp
          refine e_icmp_eq_f f306_1494 hc350 ?_
          refine e_iconst (v := 0) f306_1497 (by decide) ?_
          have hp := Option.some.inj hp
          subst hp
          exact e_ireturn f306_1498 (by decide)
      rw [if_neg hc335] at hp
      by_cases hc351 : ((hI (h) (1) (v3).toNatClampNeg) &&& (63)) = (33 : Int32)
      · rw [if_pos hc351] at hp
        refine e_sw (t := 1499) f306_33 (by rw [hc351]; decide) (by rw [hc351]; decide) ?_
        refine e_aload_n f306_1499 rfl ?_
        refine e_aload_n f306_1500 rfl ?_
        refine e_iload_n f306_1501 rfl ?_
        refine e_iconst (v := 1) f306_1502 (by decide) ?_
        refine e_iadd f306_1503 ?_
        by_cases hg352 : ((v3) + (1)) < (0 : Int32) ∨ hN (h) (1) ≤ ((v3) + (1)).toNatClampNeg
        · rw [if_pos hg352] at hp; cases hp
        rw [if_neg hg352] at hp
        refine e_iaload f306_1504 (Or.inr (WF.x w 1 (by decide))) rfl hg352 ?_
        refine e_aload_n f306_1505 rfl ?_
        refine e_iload_n f306_1506 rfl ?_
        refine e_iconst (v := 2) f306_1507 (by decide) ?_
        refine e_iadd f306_1508 ?_
        by_cases hg353 : ((v3) + (2)) < (0 : Int32) ∨ hN (h) (1) ≤ ((v3) + (2)).toNatClampNeg
        · rw [if_pos hg353] at hp; cases hp
        rw [if_neg hg353] at hp
        refine e_iaload f306_1509 (Or.inr (WF.x w 1 (by decide))) rfl hg353 ?_
        by_cases hc354 : (hI (h) (1) ((v3) + (2)).toNatClampNeg) = (0 : Int32)
        · rw [if_pos hc354] at hp
          refine e_if_eq_t f306_1510 hc354 ?_
          refine e_iconst (v := 0) f306_1517 (by decide) ?_
          refine ex_weak (ls := [some (.ref (1)), some (.ref (32)), some (.ref (86)), some (.int (v3))]) (le2_ok ⟨Or.inr rfl, Or.inr rfl, Or.inr rfl, Or.inr rfl, trivial⟩) ?_
          exact p306_j1518_ok d F ((p306_L18 F n)) (ih) (h) (w) (v3) (0) (hI (h) (1) ((v3) + (1)).toNatClampNeg) _ hp
        · rw [if_neg hc354] at hp
          refine e_if_eq_f f306_1510 hc354 ?_
          refine e_iconst (v := 1) f306_1513 (by decide) ?_
          refine e_goto f306_1514 ?_
          refine ex_weak (ls := [some (.ref (1)), some (.ref (32)), some (.ref (86)), some (.int (v3))]) (le2_ok ⟨Or.inr rfl, Or.inr rfl, Or.inr rfl, Or.inr rfl, trivial⟩) ?_
          exact p306_j1518_ok d F ((p306_L18 F n)) (ih) (h) (w) (v3) (1) (hI (h) (1) ((v3) + (1)).toNatClampNeg) _ hp
      rw [if_neg hc351] at hp
      by_cases hc355 : ((hI (h) (1) (v3).toNatClampNeg) &&& (63)) = (34 : Int32)
      · rw [if_pos hc355] at hp
        refine e_sw (t := 1548) f306_33 (by rw [hc355]; decide) (by rw [hc355]; decide) ?_
        refine e_aload_n f306_1548 rfl ?_
        refine e_aload_n f306_1549 rfl ?_
        refine e_iload_n f306_1550 rfl ?_
        refine e_iconst (v := 1) f306_1551 (by decide) ?_
        refine e_iadd f306_1552 ?_
        by_cases hg356 : ((v3) + (1)) < (0 : Int32) ∨ hN (h) (1) ≤ ((v3) + (1)).toNatClampNeg
        · rw [if_pos hg356] at hp; cases hp
        rw [if_neg hg356] at hp
        refine e_iaload f306_1553 (Or.inr (WF.x w 1 (by decide))) rfl hg356 ?_
        refine e_aload_n f306_1554 rfl ?_
        refine e_iload_n f306_1555 rfl ?_
        refine e_iconst (v := 2) f306_1556 (by decide) ?_
        refine e_iadd f306_1557 ?_
        by_cases hg357 : ((v3) + (2)) < (0 : Int32) ∨ hN (h) (1) ≤ ((v3) + (2)).toNatClampNeg
        · rw [if_pos hg357] at hp; cases hp
        rw [if_neg hg357] at hp
        refine e_iaload f306_1558 (Or.inr (WF.x w 1 (by decide))) rfl hg357 ?_
        refine e_aload_n f306_1559 rfl ?_
        refine e_iload_n f306_1560 rfl ?_
        refine e_iconst (v := 3) f306_1561 (by decide) ?_
        refine e_iadd f306_1562 ?_
        by_cases hg358 : ((v3) + (3)) < (0 : Int32) ∨ hN (h) (1) ≤ ((v3) + (3)).toNatClampNeg
        · rw [if_pos hg358] at hp; cases hp
        rw [if_neg hg358] at hp
        refine e_iaload f306_1563 (Or.inr (WF.x w 1 (by decide))) rfl hg358 ?_
        obtain ⟨r359, hr360, hp⟩ := bind_some hp
        try dsimp only at hp
        refine e_callV (st := []) (o := 32) (as := [.int (hI (h) (1) ((v3) + (1)).toNatClampNeg), .int (hI (h) (1) ((v3) + (2)).toNatClampNeg), .int (hI (h) (1) ((v3) + (3)).toNatClampNeg)]) f306_1564 (by decide) rfl rfl (Nat.le_of_ble_eq_true rfl) (WF.t w 32 (by decide)) (Nat.le_of_ble_eq_true rfl) (p148_ok (d + 59) F (h) w (hI (h) (1) ((v3) + (1)).toNatClampNeg) (hI (h) (1) ((v3) + (2)).toNatClampNeg) (hI (h) (1) ((v3) + (3)).toNatClampNeg) r359 hr360) ?_
        show ex _ 306 (1567, [some (.ref (1)), some (.ref (32)), some (.ref (86)), some (.int (v3))], [.int (r359.1)], r359.2) = _
        refine e_aload_n f306_1567 rfl ?_
        refine e_aload_n f306_1568 rfl ?_
        refine e_iload_n f306_1569 rfl ?_
        refine e_iconst (v := 1) f306_1570 (by decide) ?_
        refine e_iadd f306_1571 ?_
        by_cases hg361 : ((v3) + (1)) < (0 : Int32) ∨ hN (r359.2) (1) ≤ ((v3) + (1)).toNatClampNeg
        · rw [if_pos hg361] at hp; cases hp
        rw [if_neg hg361] at hp
        refine e_iaload f306_1572 (Or.inr (WF.x (p148_w F (h) w (hI (h) (1) ((v3) + (1)).toNatClampNeg) (hI (h) (1) ((v3) + (2)).toNatClampNeg) (hI (h) (1) ((v3) + (3)).toNatClampNeg)  r359 hr360) 1 (by decide))) rfl hg361 ?_
        refine e_aload_n f306_1573 rfl ?_
        refine e_iload_n f306_1574 rfl ?_
        refine e_iconst (v := 2) f306_1575 (by decide) ?_
        refine e_iadd f306_1576 ?_
        by_cases hg362 : ((v3) + (2)) < (0 : Int32) ∨ hN (r359.2) (1) ≤ ((v3) + (2)).toNatClampNeg
        · rw [if_pos hg362] at hp; cases hp
        rw [if_neg hg362] at hp
        refine e_iaload f306_1577 (Or.inr (WF.x (p148_w F (h) w (hI (h) (1) ((v3) + (1)).toNatClampNeg) (hI (h) (1) ((v3) + (2)).toNatClampNeg) (hI (h) (1) ((v3) + (3)).toNatClampNeg)  r359 hr360) 1 (by decide))) rfl hg362 ?_
        refine e_aload_n f306_1578 rfl ?_
        refine e_iload_n f306_1579 rfl ?_
        refine e_iconst (v := 3) f306_1580 (by decide) ?_
        refine e_iadd f306_1581 ?_
        by_cases hg363 : ((v3) + (3)) < (0 : Int32) ∨ hN (r359.2) (1) ≤ ((v3) + (3)).toNatClampNeg
        · rw [if_pos hg363] at hp; cases hp
        rw [if_neg hg363] at hp
        refine e_iaload f306_1582 (Or.inr (WF.x (p148_w F (h) w (hI (h) (1) ((v3) + (1)).toNatClampNeg) (hI (h) (1) ((v3) + (2)).toNatClampNeg) (hI (h) (1) ((v3) + (3)).toNatClampNeg)  r359 hr360) 1 (by decide))) rfl hg363 ?_
        obtain ⟨r364, hr365, hp⟩ := bind_some hp
        try dsimp only at hp
        refine e_callV (st := [.int (r359.1)]) (o := 86) (as := [.int (hI (r359.2) (1) ((v3) + (1)).toNatClampNeg), .int (hI (r359.2) (1) ((v3) + (2)).toNatClampNeg), .int (hI (r359.2) (1) ((v3) + (3)).toNatClampNeg)]) f306_1583 (by decide) rfl rfl (Nat.le_of_ble_eq_true rfl) (WF.t (p148_w F (h) w (hI (h) (1) ((v3) + (1)).toNatClampNeg) (hI (h) (1) ((v3) + (2)).toNatClampNeg) (hI (h) (1) ((v3) + (3)).toNatClampNeg)  r359 hr360) 86 (by decide)) (Nat.le_of_ble_eq_true rfl) (p283_ok (d + 57) F (r359.2) (p148_w F (h) w (hI (h) (1) ((v3) + (1)).toNatClampNeg) (hI (h) (1) ((v3) + (2)).toNatClampNeg) (hI (h) (1) ((v3) + (3)).toNatClampNeg)  r359 hr360) (hI (r359.2) (1) ((v3) + (1)).toNatClampNeg) (hI (r359.2) (1) ((v3) + (2)).toNatClampNeg) (hI (r359.2) (1) ((v3) + (3)).toNatClampNeg) r364 hr365) ?_
        show ex _ 306 (1586, [some (.ref (1)), some (.ref (32)), some (.ref (86)), some (.int (v3))], [.int (r364.1), .int (r359.1)], r364.2) = _
        by_cases hc366 : (r359.1) = ((r364.1) : Int32)
        · rw [if_pos hc366] at hp
          refine e_icmp_eq_t f306_1586 hc366 ?_
          refine ex_weak (ls := [some (.ref (1)), some (.ref (32)), some (.ref (86)), some (.int (v3))]) (le2_ok ⟨Or.inr rfl, Or.inr rfl, Or.inr rfl, Or.inr rfl, trivial⟩) ?_
          exact p306_j2120_ok d F ((p306_L18 F n)) (ih) (r364.2) ((p283_w F (r359.2) (p148_w F (h) w (hI (h) (1) ((v3) + (1)).toNatClampNeg) (hI (h) (1) ((v3) + (2)).toNatClampNeg) (hI (h) (1) ((v3) + (3)).toNatClampNeg)  r359 hr360) (hI (r359.2) (1) ((v3) + (1)).toNatClampNeg) (hI (r359.2) (1) ((v3) + (2)).toNatClampNeg) (hI (r359.2) (1) ((v3) + (3)).toNatClampNeg)  r364 hr365)) (v3) _ hp
        · rw [if_neg hc366] at hp
          refine e_icmp_eq_f f306_1586 hc366 ?_
          refine e_iconst (v := 0) f306_1589 (by decide) ?_
          have hp := Option.some.inj hp
          subst hp
          exact e_ireturn f306_1590 (by decide)
      rw [if_neg hc355] at hp
      by_cases hc367 : ((hI (h) (1) (v3).toNatClampNeg) &&& (63)) = (35 : Int32)
      · rw [if_pos hc367] at hp
        refine e_sw (t := 1591) f306_33 (by rw [hc367]; decide) (by rw [hc367]; decide) ?_
        refine e_aload_n f306_1591 rfl ?_
        obtain ⟨r368, hr369, hp⟩ := bind_some hp
        try dsimp only at hp
        refine e_callV (st := []) (o := 32) (as := []) f306_1592 (by decide) rfl rfl (Nat.le_of_ble_eq_true rfl) (WF.t w 32 (by decide)) (Nat.le_of_ble_eq_true rfl) (p149_ok (d + 65) (h) w r368 hr369) ?_
        show ex _ 306 (1595, [some (.ref (1)), some (.ref (32)), some (.ref (86)), some (.int (v3))], [.int (r368)], h) = _
        refine e_aload_n f306_1595 rfl ?_
        obtain ⟨r370, hr371, hp⟩ := bind_some hp
        try dsimp only at hp
        refine e_callV (st := [.int (r368)]) (o := 86) (as := []) f306_1596 (by decide) rfl rfl (Nat.le_of_ble_eq_true rfl) (WF.t w 86 (by decide)) (Nat.le_of_ble_eq_true rfl) (p284_ok (d + 65) (h) w r370 hr371) ?_
        show ex _ 306 (1599, [some (.ref (1)), some (.ref (32)), some (.ref (86)), some (.int (v3))], [.int (r370), .int (r368)], h) = _
        by_cases hc372 : (r368) = ((r370) : Int32)
        · rw [if_pos hc372] at hp
          refine e_icmp_eq_t f306_1599 hc372 ?_
          refine ex_weak (ls := [some (.ref (1)), some (.ref (32)), some (.ref (86)), some (.int (v3))]) (le2_ok ⟨Or.inr rfl, Or.inr rfl, Or.inr rfl, Or.inr rfl, trivial⟩) ?_
          exact p306_j2120_ok d F ((p306_L18 F n)) (ih) (h) (w) (v3) _ hp
        · rw [if_neg hc372] at hp
          refine e_icmp_eq_f f306_1599 hc372 ?_
          refine e_iconst (v := 0) f306_1602 (by decide) ?_
          have hp := Option.some.inj hp
          subst hp
          exact e_ireturn f306_1603 (by decide)
      rw [if_neg hc367] at hp
      by_cases hc373 : ((hI (h) (1) (v3).toNatClampNeg) &&& (63)) = (36 : Int32)
      · rw [if_pos hc373] at hp
        refine e_sw (t := 1604) f306_33 (by rw [hc373]; decide) (by rw [hc373]; decide) ?_
        refine e_aload_n f306_1604 rfl ?_
        refine e_aload_n f306_1605 rfl ?_
        refine e_iload_n f306_1606 rfl ?_
        refine e_iconst (v := 1) f306_1607 (by decide) ?_
        refine e_iadd f306_1608 ?_
        by_cases hg374 : ((v3) + (1)) < (0 : Int32) ∨ hN (h) (1) ≤ ((v3) + (1)).toNatClampNeg
        · rw [if_pos hg374] at hp; cases hp
        rw [if_neg hg374] at hp
        refine e_iaload f306_1609 (Or.inr (WF.x w 1 (by decide))) rfl hg374 ?_
        refine e_aload_n f306_1610 rfl ?_
        refine e_iload_n f306_1611 rfl ?_
        refine e_iconst (v := 2) f306_1612 (by decide) ?_
        refine e_iadd f306_1613 ?_
        by_cases hg375 : ((v3) + (2)) < (0 : Int32) ∨ hN (h) (1) ≤ ((v3) + (2)).toNatClampNeg
        · rw [if_pos hg375] at hp; cases hp
        rw [if_neg hg375] at hp
        refine e_iaload f306_1614 (Or.inr (WF.x w 1 (by decide))) rfl hg375 ?_
        obtain ⟨r376, hr377, hp⟩ := bind_some hp
        try dsimp only at hp
        refine e_callV (st := []) (o := 32) (as := [.int (hI (h) (1) ((v3) + (1)).toNatClampNeg), .int (hI (h) (1) ((v3) + (2)).toNatClampNeg)]) f306_1615 (by decide) rfl rfl (Nat.le_of_ble_eq_true rfl) (WF.t w 32 (by decide)) (Nat.le_of_ble_eq_true rfl) (p150_ok (d + 62) (h) w (hI (h) (1) ((v3) + (1)).toNatClampNeg) (hI (h) (1) ((v3) + (2)).toNatClampNeg) r376 hr377) ?_
        show ex _ 306 (1618, [some (.ref (1)), some (.ref (32)), some (.ref (86)), some (.int (v3))], [.int (r376.1)], r376.2) = _
        refine e_aload_n f306_1618 rfl ?_
        refine e_aload_n f306_1619 rfl ?_
        refine e_iload_n f306_1620 rfl ?_
        refine e_iconst (v := 1) f306_1621 (by decide) ?_
        refine e_iadd f306_1622 ?_
        by_cases hg378 : ((v3) + (1)) < (0 : Int32) ∨ hN (r376.2) (1) ≤ ((v3) + (1)).toNatClampNeg
        · rw [if_pos hg378] at hp; cases hp
        rw [if_neg hg378] at hp
        refine e_iaload f306_1623 (Or.inr (WF.x (p150_w (h) w (hI (h) (1) ((v3) + (1)).toNatClampNeg) (hI (h) (1) ((v3) + (2)).toNatClampNeg)  r376 hr377) 1 (by decide))) rfl hg378 ?_
        refine e_aload_n f306_1624 rfl ?_
        refine e_iload_n f306_1625 rfl ?_
        refine e_iconst (v := 2) f306_1626 (by decide) ?_
        refine e_iadd f306_1627 ?_
        by_cases hg379 : ((v3) + (2)) < (0 : Int32) ∨ hN (r376.2) (1) ≤ ((v3) + (2)).toNatClampNeg
        · rw [if_pos hg379] at hp; cases hp
        rw [if_neg hg379] at hp
        refine e_iaload f306_1628 (Or.inr (WF.x (p150_w (h) w (hI (h) (1) ((v3) + (1)).toNatClampNeg) (hI (h) (1) ((v3) + (2)).toNatClampNeg)  r376 hr377) 1 (by decide))) rfl hg379 ?_
        obtain ⟨r380, hr381, hp⟩ := bind_some hp
        try dsimp only at hp
        refine e_callV (st := [.int (r376.1)]) (o := 86) (as := [.int (hI (r376.2) (1) ((v3) + (1)).toNatClampNeg), .int (hI (r376.2) (1) ((v3) + (2)).toNatClampNeg)]) f306_1629 (by decide) rfl rfl (Nat.le_of_ble_eq_true rfl) (WF.t (p150_w (h) w (hI (h) (1) ((v3) + (1)).toNatClampNeg) (hI (h) (1) ((v3) + (2)).toNatClampNeg)  r376 hr377) 86 (by decide)) (Nat.le_of_ble_eq_true rfl) (p285_ok (d + 62) (r376.2) (p150_w (h) w (hI (h) (1) ((v3) + (1)).toNatClampNeg) (hI (h) (1) ((v3) + (2)).toNatClampNeg)  r376 hr377) (hI (r376.2) (1) ((v3) + (1)).toNatClampNeg) (hI (r376.2) (1) ((v3) + (2)).toNatClampNeg) r380 hr381) ?_
        show ex _ 306 (1632, [some (.ref (1)), some (.ref (32)), some (.ref (86)), some (.int (v3))], [.int (r380.1), .int (r376.1)], r380.2) = _
        by_cases hc382 : (r376.1) = ((r380.1) : Int32)
        · rw [if_pos hc382] at hp
          refine e_icmp_eq_t f306_1632 hc382 ?_
          refine ex_weak (ls := [some (.ref (1)), some (.ref (32)), some (.ref (86)), some (.int (v3))]) (le2_ok ⟨Or.inr rfl, Or.inr rfl, Or.inr rfl, Or.inr rfl, trivial⟩) ?_
          exact p306_j2120_ok d F ((p306_L18 F n)) (ih) (r380.2) ((p285_w (r376.2) (p150_w (h) w (hI (h) (1) ((v3) + (1)).toNatClampNeg) (hI (h) (1) ((v3) + (2)).toNatClampNeg)  r376 hr377) (hI (r376.2) (1) ((v3) + (1)).toNatClampNeg) (hI (r376.2) (1) ((v3) + (2)).toNatClampNeg)  r380 hr381)) (v3) _ hp
        · rw [if_neg hc382] at hp
          refine e_icmp_eq_f f306_1632 hc382 ?_
          refine e_iconst (v := 0) f306_1635 (by decide) ?_
          have hp := Option.some.inj hp
          subst hp
          exact e_ireturn f306_1636 (by decide)
      rw [if_neg hc373] at hp
      by_cases hc383 : ((hI (h) (1) (v3).toNatClampNeg) &&& (63)) = (37 : Int32)
      · rw [if_pos hc383] at hp
        refine e_sw (t := 1637) f306_33 (by rw [hc383]; decide) (by rw [hc383]; decide) ?_
        refine e_aload_n f306_1637 rfl ?_
        refine e_aload_n f306_1638 rfl ?_
        refine e_iload_n f306_1639 rfl ?_
        refine e_iconst (v := 1) f306_1640 (by decide) ?_
        refine e_iadd f306_1641 ?_
        by_cases hg384 : ((v3) + (1)) < (0 : Int32) ∨ hN (h) (1) ≤ ((v3) + (1)).toNatClampNeg
        · rw [if_pos hg384] at hp; cases hp
        rw [if_neg hg384] at hp
        refine e_iaload f306_1642 (Or.inr (WF.x w 1 (by decide))) rfl hg384 ?_
        obtain ⟨r385, hr386, hp⟩ := bind_some hp
        try dsimp only at hp
        refine e_callV (st := []) (o := 32) (as := [.int (hI (h) (1) ((v3) + (1)).toNatClampNeg)]) f306_1643 (by decide) rfl rfl (Nat.le_of_ble_eq_true rfl) (WF.t w 32 (by decide)) (Nat.le_of_ble_eq_true rfl) (p151_ok (d + 61) F (h) w (hI (h) (1) ((v3) + (1)).toNatClampNeg) r385 hr386) ?_
        show ex _ 306 (1646, [some (.ref (1)), some (.ref (32)), some (.ref (86)), some (.int (v3))], [.long (r385.1)], r385.2) = _
        refine e_aload_n f306_1646 rfl ?_
        refine e_aload_n f306_1647 rfl ?_
        refine e_iload_n f306_1648 rfl ?_
        refine e_iconst (v := 1) f306_1649 (by decide) ?_
        refine e_iadd f306_1650 ?_
        by_cases hg387 : ((v3) + (1)) < (0 : Int32) ∨ hN (r385.2) (1) ≤ ((v3) + (1)).toNatClampNeg
        · rw [if_pos hg387] at hp; cases hp
        rw [if_neg hg387] at hp
        refine e_iaload f306_1651 (Or.inr (WF.x (p151_w F (h) w (hI (h) (1) ((v3) + (1)).toNatClampNeg)  r385 hr386) 1 (by decide))) rfl hg387 ?_
        obtain ⟨r388, hr389, hp⟩ := bind_some hp
        try dsimp only at hp
        refine e_callV (st := [.long (r385.1)]) (o := 86) (as := [.int (hI (r385.2) (1) ((v3) + (1)).toNatClampNeg)]) f306_1652 (by decide) rfl rfl (Nat.le_of_ble_eq_true rfl) (WF.t (p151_w F (h) w (hI (h) (1) ((v3) + (1)).toNatClampNeg)  r385 hr386) 86 (by decide)) (Nat.le_of_ble_eq_true rfl) (p287_ok (d + 60) F (r385.2) (p151_w F (h) w (hI (h) (1) ((v3) + (1)).toNatClampNeg)  r385 hr386) (hI (r385.2) (1) ((v3) + (1)).toNatClampNeg) r388 hr389) ?_
        show ex _ 306 (1655, [some (.ref (1)), some (.ref (32)), some (.ref (86)), some (.int (v3))], [.long (r388.1), .long (r385.1)], r388.2) = _
        refine e_lcmp f306_1655 ?_
        by_cases hc390 : (lg_cmp (r385.1) (r388.1)) = (0 : Int32)
        · rw [if_pos hc390] at hp
          refine e_if_eq_t f306_1656 hc390 ?_
          refine ex_weak (ls := [some (.ref (1)), some (.ref (32)), some (.ref (86)), some (.int (v3))]) (le2_ok ⟨Or.inr rfl, Or.inr rfl, Or.inr rfl, Or.inr rfl, trivial⟩) ?_
          exact p306_j2120_ok d F ((p306_L18 F n)) (ih) (r388.2) ((p287_w F (r385.2) (p151_w F (h) w (hI (h) (1) ((v3) + (1)).toNatClampNeg)  r385 hr386) (hI (r385.2) (1) ((v3) + (1)).toNatClampNeg)  r388 hr389)) (v3) _ hp
        · rw [if_neg hc390] at hp
          refine e_if_eq_f f306_1656 hc390 ?_
          refine e_iconst (v := 0) f306_1659 (by decide) ?_
          have hp := Option.some.inj hp
          subst hp
          exact e_ireturn f306_1660 (by decide)
      rw [if_neg hc383] at hp
      by_cases hc391 : ((hI (h) (1) (v3).toNatClampNeg) &&& (63)) = (38 : Int32)
      · rw [if_pos hc391] at hp
        refine e_sw (t := 1661) f306_33 (by rw [hc391]; decide) (by rw [hc391]; decide) ?_
        refine e_aload_n f306_1661 rfl ?_
        obtain ⟨r392, hr393, hp⟩ := bind_some hp
        try dsimp only at hp
        refine e_callV (st := []) (o := 32) (as := []) f306_1662 (by decide) rfl rfl (Nat.le_of_ble_eq_true rfl) (WF.t w 32 (by decide)) (Nat.le_of_ble_eq_true rfl) (p152_ok (d + 58) F (h) w r392 hr393) ?_
        show ex _ 306 (1665, [some (.ref (1)), some (.ref (32)), some (.ref (86)), some (.int (v3))], [.int (r392.1)], r392.2) = _
        refine e_aload_n f306_1665 rfl ?_
        obtain ⟨r394, hr395, hp⟩ := bind_some hp
        try dsimp only at hp
        refine e_callV (st := [.int (r392.1)]) (o := 86) (as := []) f306_1666 (by decide) rfl rfl (Nat.le_of_ble_eq_true rfl) (WF.t (p152_w F (h) w  r392 hr393) 86 (by decide)) (Nat.le_of_ble_eq_true rfl) (p288_ok (d + 57) F (r392.2) (p152_w F (h) w  r392 hr393) r394 hr395) ?_
        show ex _ 306 (1669, [some (.ref (1)), some (.ref (32)), some (.ref (86)), some (.int (v3))], [.int (r394.1), .int (r392.1)], r394.2) = _
        by_cases hc396 : (r392.1) = ((r394.1) : Int32)
        · rw [if_pos hc396] at hp
          refine e_icmp_eq_t f306_1669 hc396 ?_
          refine ex_weak (ls := [some (.ref (1)), some (.ref (32)), some (.ref (86)), some (.int (v3))]) (le2_ok ⟨Or.inr rfl, Or.inr rfl, Or.inr rfl, Or.inr rfl, trivial⟩) ?_
          exact p306_j2120_ok d F ((p306_L18 F n)) (ih) (r394.2) ((p288_w F (r392.2) (p152_w F (h) w  r392 hr393)  r394 hr395)) (v3) _ hp
        · rw [if_neg hc396] at hp
          refine e_icmp_eq_f f306_1669 hc396 ?_
          refine e_iconst (v := 0) f306_1672 (by decide) ?_
          have hp := Option.some.inj hp
          subst hp
          exact e_ireturn f306_1673 (by decide)
      rw [if_neg hc391] at hp
      by_cases hc397 : ((hI (h) (1) (v3).toNatClampNeg) &&& (63)) = (39 : Int32)
      · rw [if_pos hc397] at hp
        refine e_sw (t := 1674) f306_33 (by rw [hc397]; decide) (by rw [hc397]; decide) ?_
        refine e_aload_n f306_1674 rfl ?_
        refine e_aload_n f306_1675 rfl ?_
        refine e_iload_n f306_1676 rfl ?_
        refine e_iconst (v := 1) f306_1677 (by decide) ?_
        refine e_iadd f306_1678 ?_
        by_cases hg398 : ((v3) + (1)) < (0 : Int32) ∨ hN (h) (1) ≤ ((v3) + (1)).toNatClampNeg
        · rw [if_pos hg398] at hp; cases hp
        rw [if_neg hg398] at hp
        refine e_iaload f306_1679 (Or.inr (WF.x w 1 (by decide))) rfl hg398 ?_
        refine e_aload_n f306_1680 rfl ?_
        refine e_iload_n f306_1681 rfl ?_
        refine e_iconst (v := 2) f306_1682 (by decide) ?_
        refine e_iadd f306_1683 ?_
        by_cases hg399 : ((v3) + (2)) < (0 : Int32) ∨ hN (h) (1) ≤ ((v3) + (2)).toNatClampNeg
        · rw [if_pos hg399] at hp; cases hp
        rw [if_neg hg399] at hp
        refine e_iaload f306_1684 (Or.inr (WF.x w 1 (by decide))) rfl hg399 ?_
        refine e_aload_n f306_1685 rfl ?_
        refine e_iload_n f306_1686 rfl ?_
        refine e_iconst (v := 3) f306_1687 (by decide) ?_
        refine e_iadd f306_1688 ?_
        by_cases hg400 : ((v3) + (3)) < (0 : Int32) ∨ hN (h) (1) ≤ ((v3) + (3)).toNatClampNeg
        · rw [if_pos hg400] at hp; cases hp
        rw [if_neg hg400] at hp
        refine e_iaload f306_1689 (Or.inr (WF.x w 1 (by decide))) rfl hg400 ?_
        obtain ⟨r401, hr402, hp⟩ := bind_some hp
        try dsimp only at hp
        refine e_callV (st := []) (o := 32) (as := [.int (hI (h) (1) ((v3) + (1)).toNatClampNeg), .int (hI (h) (1) ((v3) + (2)).toNatClampNeg), .int (hI (h) (1) ((v3) + (3)).toNatClampNeg)]) f306_1690 (by decide) rfl rfl (Nat.le_of_ble_eq_true rfl) (WF.t w 32 (by decide)) (Nat.le_of_ble_eq_true rfl) (p153_ok (d + 63) (h) w (hI (h) (1) ((v3) + (1)).toNatClampNeg) (hI (h) (1) ((v3) + (2)).toNatClampNeg) (hI (h) (1) ((v3) + (3)).toNatClampNeg) r401 hr402) ?_
        show ex _ 306 (1693, [some (.ref (1)), some (.ref (32)), some (.ref (86)), some (.int (v3))], [.int (r401)], h) = _
        refine e_aload_n f306_1693 rfl ?_
        refine e_aload_n f306_1694 rfl ?_
        refine e_iload_n f306_1695 rfl ?_
        refine e_iconst (v := 1) f306_1696 (by decide) ?_
        refine e_iadd f306_1697 ?_
        by_cases hg403 : ((v3) + (1)) < (0 : Int32) ∨ hN (h) (1) ≤ ((v3) + (1)).toNatClampNeg
        · rw [if_pos hg403] at hp; cases hp
        rw [if_neg hg403] at hp
        refine e_iaload f306_1698 (Or.inr (WF.x w 1 (by decide))) rfl hg403 ?_
        refine e_aload_n f306_1699 rfl ?_
        refine e_iload_n f306_1700 rfl ?_
        refine e_iconst (v := 2) f306_1701 (by decide) ?_
        refine e_iadd f306_1702 ?_
        by_cases hg404 : ((v3) + (2)) < (0 : Int32) ∨ hN (h) (1) ≤ ((v3) + (2)).toNatClampNeg
        · rw [if_pos hg404] at hp; cases hp
        rw [if_neg hg404] at hp
        refine e_iaload f306_1703 (Or.inr (WF.x w 1 (by decide))) rfl hg404 ?_
        refine e_aload_n f306_1704 rfl ?_
        refine e_iload_n f306_1705 rfl ?_
        refine e_iconst (v := 3) f306_1706 (by decide) ?_
        refine e_iadd f306_1707 ?_
        by_cases hg405 : ((v3) + (3)) < (0 : Int32) ∨ hN (h) (1) ≤ ((v3) + (3)).toNatClampNeg
        · rw [if_pos hg405] at hp; cases hp
        rw [if_neg hg405] at hp
        refine e_iaload f306_1708 (Or.inr (WF.x w 1 (by decide))) rfl hg405 ?_
        obtain ⟨r406, hr407, hp⟩ := bind_some hp
        try dsimp only at hp
        refine e_callV (st := [.int (r401)]) (o := 86) (as := [.int (hI (h) (1) ((v3) + (1)).toNatClampNeg), .int (hI (h) (1) ((v3) + (2)).toNatClampNeg), .int (hI (h) (1) ((v3) + (3)).toNatClampNeg)]) f306_1709 (by decide) rfl rfl (Nat.le_of_ble_eq_true rfl) (WF.t w 86 (by decide)) (Nat.le_of_ble_eq_true rfl) (p289_ok (d + 62) (h) w (hI (h) (1) ((v3) + (1)).toNatClampNeg) (hI (h) (1) ((v3) + (2)).toNatClampNeg) (hI (h) (1) ((v3) + (3)).toNatClampNeg) r406 hr407) ?_
        show ex _ 306 (1712, [some (.ref (1)), some (.ref (32)), some (.ref (86)), some (.int (v3))], [.int (r406), .int (r401)], h) = _
        by_cases hc408 : (r401) = ((r406) : Int32)
        · rw [if_pos hc408] at hp
          refine e_icmp_eq_t f306_1712 hc408 ?_
          refine ex_weak (ls := [some (.ref (1)), some (.ref (32)), some (.ref (86)), some (.int (v3))]) (le2_ok ⟨Or.inr rfl, Or.inr rfl, Or.inr rfl, Or.inr rfl, trivial⟩) ?_
          exact p306_j2120_ok d F ((p306_L18 F n)) (ih) (h) (w) (v3) _ hp
        · rw [if_neg hc408] at hp
          refine e_icmp_eq_f f306_1712 hc408 ?_
          refine e_iconst (v := 0) f306_1715 (by decide) ?_
          have hp := Option.some.inj hp
          subst hp
          exact e_ireturn f306_1716 (by decide)
      rw [if_neg hc397] at hp
      by_cases hc409 : ((hI (h) (1) (v3).toNatClampNeg) &&& (63)) = (40 : Int32)
      · rw [if_pos hc409] at hp
        refine e_sw (t := 1717) f306_33 (by rw [hc409]; decide) (by rw [hc409]; decide) ?_
        refine e_aload_n f306_1717 rfl ?_
        refine e_aload_n f306_1718 rfl ?_
        refine e_iload_n f306_1719 rfl ?_
        refine e_iconst (v := 1) f306_1720 (by decide) ?_
        refine e_iadd f306_1721 ?_
        by_cases hg410 : ((v3) + (1)) < (0 : Int32) ∨ hN (h) (1) ≤ ((v3) + (1)).toNatClampNeg
        · rw [if_pos hg410] at hp; cases hp
        rw [if_neg hg410] at hp
        refine e_iaload f306_1722 (Or.inr (WF.x w 1 (by decide))) rfl hg410 ?_
        refine e_aload_n f306_1723 rfl ?_
        refine e_iload_n f306_1724 rfl ?_
        refine e_iconst (v := 2) f306_1725 (by decide) ?_
        refine e_iadd f306_1726 ?_
        by_cases hg411 : ((v3) + (2)) < (0 : Int32) ∨ hN (h) (1) ≤ ((v3) + (2)).toNatClampNeg
        · rw [if_pos hg411] at hp; cases hp
        rw [if_neg hg411] at hp
        refine e_iaload f306_1727 (Or.inr (WF.x w 1 (by decide))) rfl hg411 ?_
        refine e_aload_n f306_1728 rfl ?_
        refine e_iload_n f306_1729 rfl ?_
        refine e_iconst (v := 3) f306_1730 (by decide) ?_
        refine e_iadd f306_1731 ?_
        by_cases hg412 : ((v3) + (3)) < (0 : Int32) ∨ hN (h) (1) ≤ ((v3) + (3)).toNatClampNeg
        · rw [if_pos hg412] at hp; cases hp
        rw [if_neg hg412] at hp
        refine e_iaload f306_1732 (Or.inr (WF.x w 1 (by decide))) rfl hg412 ?_
        obtain ⟨r413, hr414, hp⟩ := bind_some hp
        try dsimp only at hp
        refine e_callV (st := []) (o := 32) (as := [.int (hI (h) (1) ((v3) + (1)).toNatClampNeg), .int (hI (h) (1) ((v3) + (2)).toNatClampNeg), .int (hI (h) (1) ((v3) + (3)).toNatClampNeg)]) f306_1733 (by decide) rfl rfl (Nat.le_of_ble_eq_true rfl) (WF.t w 32 (by decide)) (Nat.le_of_ble_eq_true rfl) (p154_ok (d + 62) F (h) w (hI (h) (1) ((v3) + (1)).toNatClampNeg) (hI (h) (1) ((v3) + (2)).toNatClampNeg) (hI (h) (1) ((v3) + (3)).toNatClampNeg) r413 hr414) ?_
        show ex _ 306 (1736, [some (.ref (1)), some (.ref (32)), some (.ref (86)), some (.int (v3))], [.int (r413)], h) = _
        refine e_aload_n f306_1736 rfl ?_
        refine e_aload_n f306_1737 rfl ?_
        refine e_iload_n f306_1738 rfl ?_
        refine e_iconst (v := 1) f306_1739 (by decide) ?_
        refine e_iadd f306_1740 ?_
        by_cases hg415 : ((v3) + (1)) < (0 : Int32) ∨ hN (h) (1) ≤ ((v3) + (1)).toNatClampNeg
        · rw [if_pos hg415] at hp; cases hp
        rw [if_neg hg415] at hp
        refine e_iaload f306_1741 (Or.inr (WF.x w 1 (by decide))) rfl hg415 ?_
        refine e_aload_n f306_1742 rfl ?_
        refine e_iload_n f306_1743 rfl ?_
        refine e_iconst (v := 2) f306_1744 (by decide) ?_
        refine e_iadd f306_1745 ?_
        by_cases hg416 : ((v3) + (2)) < (0 : Int32) ∨ hN (h) (1) ≤ ((v3) + (2)).toNatClampNeg
        · rw [if_pos hg416] at hp; cases hp
        rw [if_neg hg416] at hp
        refine e_iaload f306_1746 (Or.inr (WF.x w 1 (by decide))) rfl hg416 ?_
        refine e_aload_n f306_1747 rfl ?_
        refine e_iload_n f306_1748 rfl ?_
        refine e_iconst (v := 3) f306_1749 (by decide) ?_
        refine e_iadd f306_1750 ?_
        by_cases hg417 : ((v3) + (3)) < (0 : Int32) ∨ hN (h) (1) ≤ ((v3) + (3)).toNatClampNeg
        · rw [if_pos hg417] at hp; cases hp
        rw [if_neg hg417] at hp
        refine e_iaload f306_1751 (Or.inr (WF.x w 1 (by decide))) rfl hg417 ?_
        obtain ⟨r418, hr419, hp⟩ := bind_some hp
        try dsimp only at hp
        refine e_callV (st := [.int (r413)]) (o := 86) (as := [.int (hI (h) (1) ((v3) + (1)).toNatClampNeg), .int (hI (h) (1) ((v3) + (2)).toNatClampNeg), .int (hI (h) (1) ((v3) + (3)).toNatClampNeg)]) f306_1752 (by decide) rfl rfl (Nat.le_of_ble_eq_true rfl) (WF.t w 86 (by decide)) (Nat.le_of_ble_eq_true rfl) (p291_ok (d + 62) F (h) w (hI (h) (1) ((v3) + (1)).toNatClampNeg) (hI (h) (1) ((v3) + (2)).toNatClampNeg) (hI (h) (1) ((v3) + (3)).toNatClampNeg) r418 hr419) ?_
        show ex _ 306 (1755, [some (.ref (1)), some (.ref (32)), some (.ref (86)), some (.int (v3))], [.int (r418.1), .int (r413)], r418.2) = _
        by_cases hc420 : (r413) = ((r418.1) : Int32)
        · rw [if_pos hc420] at hp
          refine e_icmp_eq_t f306_1755 hc420 ?_
          refine ex_weak (ls := [some (.ref (1)), some (.ref (32)), some (.ref (86)), some (.int (v3))]) (le2_ok ⟨Or.inr rfl, Or.inr rfl, Or.inr rfl, Or.inr rfl, trivial⟩) ?_
          exact p306_j2120_ok d F ((p306_L18 F n)) (ih) (r418.2) ((p291_w F (h) w (hI (h) (1) ((v3) + (1)).toNatClampNeg) (hI (h) (1) ((v3) + (2)).toNatClampNeg) (hI (h) (1) ((v3) + (3)).toNatClampNeg)  r418 hr419)) (v3) _ hp
        · rw [if_neg hc420] at hp
          refine e_icmp_eq_f f306_1755 hc420 ?_
          refine e_iconst (v := 0) f306_1758 (by decide) ?_
          have hp := Option.some.inj hp
          subst hp
          exact e_ireturn f306_1759 (by decide)
      rw [if_neg hc409] at hp
      by_cases hc421 : ((hI (h) (1) (v3).toNatClampNeg) &&& (63)) = (41 : Int32)
      · rw [if_pos hc421] at hp
        refine e_sw (t := 1760) f306_33 (by rw [hc421]; decide) (by rw [hc421]; decide) ?_
        refine e_aload_n f306_1760 rfl ?_
        refine e_aload_n f306_1761 rfl ?_
        refine e_iload_n f306_1762 rfl ?_
        refine e_iconst (v := 1) f306_1763 (by decide) ?_
        refine e_iadd f306_1764 ?_
        by_cases hg422 : ((v3) + (1)) < (0 : Int32) ∨ hN (h) (1) ≤ ((v3) + (1)).toNatClampNeg
        · rw [if_pos hg422] at hp; cases hp
        rw [if_neg hg422] at hp
        refine e_iaload f306_1765 (Or.inr (WF.x w 1 (by decide))) rfl hg422 ?_
        refine e_aload_n f306_1766 rfl ?_
        refine e_iload_n f306_1767 rfl ?_
        refine e_iconst (v := 2) f306_1768 (by decide) ?_
        refine e_iadd f306_1769 ?_
        by_cases hg423 : ((v3) + (2)) < (0 : Int32) ∨ hN (h) (1) ≤ ((v3) + (2)).toNatClampNeg
        · rw [if_pos hg423] at hp; cases hp
        rw [if_neg hg423] at hp
        refine e_iaload f306_1770 (Or.inr (WF.x w 1 (by decide))) rfl hg423 ?_
        obtain ⟨r424, hr425, hp⟩ := bind_some hp
        try dsimp only at hp
        refine e_callV (st := []) (o := 32) (as := [.int (hI (h) (1) ((v3) + (1)).toNatClampNeg), .int (hI (h) (1) ((v3) + (2)).toNatClampNeg)]) f306_1771 (by decide) rfl rfl (Nat.le_of_ble_eq_true rfl) (WF.t w 32 (by decide)) (Nat.le_of_ble_eq_true rfl) (p155_ok (d + 63) (h) w (hI (h) (1) ((v3) + (1)).toNatClampNeg) (hI (h) (1) ((v3) + (2)).toNatClampNeg) r424 hr425) ?_
        show ex _ 306 (1774, [some (.ref (1)), some (.ref (32)), some (.ref (86)), some (.int (v3))], [.int (r424.1)], r424.2) = _
        refine e_aload_n f306_1774 rfl ?_
        refine e_aload_n f306_1775 rfl ?_
        refine e_iload_n f306_1776 rfl ?_
        refine e_iconst (v := 1) f306_1777 (by decide) ?_
        refine e_iadd f306_1778 ?_
        by_cases hg426 : ((v3) + (1)) < (0 : Int32) ∨ hN (r424.2) (1) ≤ ((v3) + (1)).toNatClampNeg
        · rw [if_pos hg426] at hp; cases hp
        rw [if_neg hg426] at hp
        refine e_iaload f306_1779 (Or.inr (WF.x (p155_w (h) w (hI (h) (1) ((v3) + (1)).toNatClampNeg) (hI (h) (1) ((v3) + (2)).toNatClampNeg)  r424 hr425) 1 (by decide))) rfl hg426 ?_
        refine e_aload_n f306_1780 rfl ?_
        refine e_iload_n f306_1781 rfl ?_
        refine e_iconst (v := 2) f306_1782 (by decide) ?_
        refine e_iadd f306_1783 ?_
        by_cases hg427 : ((v3) + (2)) < (0 : Int32) ∨ hN (r424.2) (1) ≤ ((v3) + (2)).toNatClampNeg
        · rw [if_pos hg427] at hp; cases hp
        rw [if_neg hg427] at hp
        refine e_iaload f306_1784 (Or.inr (WF.x (p155_w (h) w (hI (h) (1) ((v3) + (1)).toNatClampNeg) (hI (h) (1) ((v3) + (2)).toNatClampNeg)  r424 hr425) 1 (by decide))) rfl hg427 ?_
        obtain ⟨r428, hr429, hp⟩ := bind_some hp
        try dsimp only at hp
        refine e_callV (st := [.int (r424.1)]) (o := 86) (as := [.int (hI (r424.2) (1) ((v3) + (1)).toNatClampNeg), .int (hI (r424.2) (1) ((v3) + (2)).toNatClampNeg)]) f306_1785 (by decide) rfl rfl (Nat.le_of_ble_eq_true rfl) (WF.t (p155_w (h) w (hI (h) (1) ((v3) + (1)).toNatClampNeg) (hI (h) (1) ((v3) + (2)).toNatClampNeg)  r424 hr425) 86 (by decide)) (Nat.le_of_ble_eq_true rfl) (p292_ok (d + 63) (r424.2) (p155_w (h) w (hI (h) (1) ((v3) + (1)).toNatClampNeg) (hI (h) (1) ((v3) + (2)).toNatClampNeg)  r424 hr425) (hI (r424.2) (1) ((v3) + (1)).toNatClampNeg) (hI (r424.2) (1) ((v3) + (2)).toNatClampNeg) r428 hr429) ?_
        show ex _ 306 (1788, [some (.ref (1)), some (.ref (32)), some (.ref (86)), some (.int (v3))], [.int (r428.1), .int (r424.1)], r428.2) = _
        by_cases hc430 : (r424.1) = ((r428.1) : Int32)
        · rw [if_pos hc430] at hp
          refine e_icmp_eq_t f306_1788 hc430 ?_
          refine ex_weak (ls := [some (.ref (1)), some (.ref (32)), some (.ref (86)), some (.int (v3))]) (le2_ok ⟨Or.inr rfl, Or.inr rfl, Or.inr rfl, Or.inr rfl, trivial⟩) ?_
          exact p306_j2120_ok d F ((p306_L18 F n)) (ih) (r428.2) ((p292_w (r424.2) (p155_w (h) w (hI (h) (1) ((v3) + (1)).toNatClampNeg) (hI (h) (1) ((v3) + (2)).toNatClampNeg)  r424 hr425) (hI (r424.2) (1) ((v3) + (1)).toNatClampNeg) (hI (r424.2) (1) ((v3) + (2)).toNatClampNeg)  r428 hr429)) (v3) _ hp
        · rw [if_neg hc430] at hp
          refine e_icmp_eq_f f306_1788 hc430 ?_
          refine e_iconst (v := 0) f306_1791 (by decide) ?_
          have hp := Option.some.inj hp
          subst hp
          exact e_ireturn f306_1792 (by decide)
      rw [if_neg hc421] at hp
      by_cases hc431 : ((hI (h) (1) (v3).toNatClampNeg) &&& (63)) = (42 : Int32)
      · rw [if_pos hc431] at hp
        refine e_sw (t := 1793) f306_33 (by rw [hc431]; decide) (by rw [hc431]; decide) ?_
        refine e_aload_n f306_1793 rfl ?_
        refine e_aload_n f306_1794 rfl ?_
        refine e_iload_n f306_1795 rfl ?_
        refine e_iconst (v := 1) f306_1796 (by decide) ?_
        refine e_iadd f306_1797 ?_
        by_cases hg432 : ((v3) + (1)) < (0 : Int32) ∨ hN (h) (1) ≤ ((v3) + (1)).toNatClampNeg
        · rw [if_pos hg432] at hp; cases hp
        rw [if_neg hg432] at hp
        refine e_iaload f306_1798 (Or.inr (WF.x w 1 (by decide))) rfl hg432 ?_
        refine e_aload_n f306_1799 rfl ?_
        refine e_iload_n f306_1800 rfl ?_
        refine e_iconst (v := 2) f306_1801 (by decide) ?_
        refine e_iadd f306_1802 ?_
        by_cases hg433 : ((v3) + (2)) < (0 : Int32) ∨ hN (h) (1) ≤ ((v3) + (2)).toNatClampNeg
        · rw [if_pos hg433] at hp; cases hp
        rw [if_neg hg433] at hp
        refine e_iaload f306_1803 (Or.inr (WF.x w 1 (by decide))) rfl hg433 ?_
        obtain ⟨r434, hr435, hp⟩ := bind_some hp
        try dsimp only at hp
        refine e_callV (st := []) (o := 32) (as := [.int (hI (h) (1) ((v3) + (1)).toNatClampNeg), .int (hI (h) (1) ((v3) + (2)).toNatClampNeg)]) f306_1804 (by decide) rfl rfl (Nat.le_of_ble_eq_true rfl) (WF.t w 32 (by decide)) (Nat.le_of_ble_eq_true rfl) (p156_ok (d + 60) F (h) w (hI (h) (1) ((v3) + (1)).toNatClampNeg) (hI (h) (1) ((v3) + (2)).toNatClampNeg) r434 hr435) ?_
        show ex _ 306 (1807, [some (.ref (1)), some (.ref (32)), some (.ref (86)), some (.int (v3))], [.int (r434.1)], r434.2) = _
        refine e_aload_n f306_1807 rfl ?_
        refine e_aload_n f306_1808 rfl ?_
        refine e_iload_n f306_1809 rfl ?_
        refine e_iconst (v := 1) f306_1810 (by decide) ?_
        refine e_iadd f306_1811 ?_
        by_cases hg436 : ((v3) + (1)) < (0 : Int32) ∨ hN (r434.2) (1) ≤ ((v3) + (1)).toNatClampNeg
        · rw [if_pos hg436] at hp; cases hp
        rw [if_neg hg436] at hp
        refine e_iaload f306_1812 (Or.inr (WF.x (p156_w F (h) w (hI (h) (1) ((v3) + (1)).toNatClampNeg) (hI (h) (1) ((v3) + (2)).toNatClampNeg)  r434 hr435) 1 (by decide))) rfl hg436 ?_
        refine e_aload_n f306_1813 rfl ?_
        refine e_iload_n f306_1814 rfl ?_
        refine e_iconst (v := 2) f306_1815 (by decide) ?_
        refine e_iadd f306_1816 ?_
        by_cases hg437 : ((v3) + (2)) < (0 : Int32) ∨ hN (r434.2) (1) ≤ ((v3) + (2)).toNatClampNeg
        · rw [if_pos hg437] at hp; cases hp
        rw [if_neg hg437] at hp
        refine e_iaload f306_1817 (Or.inr (WF.x (p156_w F (h) w (hI (h) (1) ((v3) + (1)).toNatClampNeg) (hI (h) (1) ((v3) + (2)).toNatClampNeg)  r434 hr435) 1 (by decide))) rfl hg437 ?_
        obtain ⟨r438, hr439, hp⟩ := bind_some hp
        try dsimp only at hp
        refine e_callV (st := [.int (r434.1)]) (o := 86) (as := [.int (hI (r434.2) (1) ((v3) + (1)).toNatClampNeg), .int (hI (r434.2) (1) ((v3) + (2)).toNatClampNeg)]) f306_1818 (by decide) rfl rfl (Nat.le_of_ble_eq_true rfl) (WF.t (p156_w F (h) w (hI (h) (1) ((v3) + (1)).toNatClampNeg) (hI (h) (1) ((v3) + (2)).toNatClampNeg)  r434 hr435) 86 (by decide)) (Nat.le_of_ble_eq_true rfl) (p296_ok (d + 59) F (r434.2) (p156_w F (h) w (hI (h) (1) ((v3) + (1)).toNatClampNeg) (hI (h) (1) ((v3) + (2)).toNatClampNeg)  r434 hr435) (hI (r434.2) (1) ((v3) + (1)).toNatClampNeg) (hI (r434.2) (1) ((v3) + (2)).toNatClampNeg) r438 hr439) ?_
        show ex _ 306 (1821, [some (.ref (1)), some (.ref (32)), some (.ref (86)), some (.int (v3))], [.int (r438.1), .int (r434.1)], r438.2) = _
        by_cases hc440 : (r434.1) = ((r438.1) : Int32)
        · rw [if_pos hc440] at hp
          refine e_icmp_eq_t f306_1821 hc440 ?_
          refine ex_weak (ls := [some (.ref (1)), some (.ref (32)), some (.ref (86)), some (.int (v3))]) (le2_ok ⟨Or.inr rfl, Or.inr rfl, Or.inr rfl, Or.inr rfl, trivial⟩) ?_
          exact p306_j2120_ok d F ((p306_L18 F n)) (ih) (r438.2) ((p296_w F (r434.2) (p156_w F (h) w (hI (h) (1) ((v3) + (1)).toNatClampNeg) (hI (h) (1) ((v3) + (2)).toNatClampNeg)  r434 hr435) (hI (r434.2) (1) ((v3) + (1)).toNatClampNeg) (hI (r434.2) (1) ((v3) + (2)).toNatClampNeg)  r438 hr439)) (v3) _ hp
        · rw [if_neg hc440] at hp
          refine e_icmp_eq_f f306_1821 hc440 ?_
          refine e_iconst (v := 0) f306_1824 (by decide) ?_
          have hp := Option.some.inj hp
          subst hp
          exact e_ireturn f306_1825 (by decide)
      rw [if_neg hc431] at hp
      by_cases hc441 : ((hI (h) (1) (v3).toNatClampNeg) &&& (63)) = (43 : Int32)
      · rw [if_pos hc441] at hp
        refine e_sw (t := 1826) f306_33 (by rw [hc441]; decide) (by rw [hc441]; decide) ?_
        refine e_aload_n f306_1826 rfl ?_
        refine e_aload_n f306_1827 rfl ?_
        refine e_iload_n f306_1828 rfl ?_
        refine e_iconst (v := 1) f306_1829 (by decide) ?_
        refine e_iadd f306_1830 ?_
        by_cases hg442 : ((v3) + (1)) < (0 : Int32) ∨ hN (h) (1) ≤ ((v3) + (1)).toNatClampNeg
        · rw [if_pos hg442] at hp; cases hp
        rw [if_neg hg442] at hp
        refine e_iaload f306_1831 (Or.inr (WF.x w 1 (by decide))) rfl hg442 ?_
        refine e_aload_n f306_1832 rfl ?_
        refine e_iload_n f306_1833 rfl ?_
        refine e_iconst (v := 2) f306_1834 (by decide) ?_
        refine e_iadd f306_1835 ?_
        by_cases hg443 : ((v3) + (2)) < (0 : Int32) ∨ hN (h) (1) ≤ ((v3) + (2)).toNatClampNeg
        · rw [if_pos hg443] at hp; cases hp
        rw [if_neg hg443] at hp
        refine e_iaload f306_1836 (Or.inr (WF.x w 1 (by decide))) rfl hg443 ?_
        obtain ⟨r444, hr445, hp⟩ := bind_some hp
        try dsimp only at hp
        refine e_callV (st := []) (o := 32) (as := [.int (hI (h) (1) ((v3) + (1)).toNatClampNeg), .int (hI (h) (1) ((v3) + (2)).toNatClampNeg)]) f306_1837 (by decide) rfl rfl (Nat.le_of_ble_eq_true rfl) (WF.t w 32 (by decide)) (Nat.le_of_ble_eq_true rfl) (p157_ok (d + 61) F (h) w (hI (h) (1) ((v3) + (1)).toNatClampNeg) (hI (h) (1) ((v3) + (2)).toNatClampNeg) r444 hr445) ?_
        show ex _ 306 (1840, [some (.ref (1)), some (.ref (32)), some (.ref (86)), some (.int (v3))], [.int (r444.1)], r444.2) = _
        refine e_aload_n f306_1840 rfl ?_
        refine e_aload_n f306_1841 rfl ?_
        refine e_iload_n f306_1842 rfl ?_
        refine e_iconst (v := 1) f306_1843 (by decide) ?_
        refine e_iadd f306_1844 ?_
        by_cases hg446 : ((v3) + (1)) < (0 : Int32) ∨ hN (r444.2) (1) ≤ ((v3) + (1)).toNatClampNeg
        · rw [if_pos hg446] at hp; cases hp
        rw [if_neg hg446] at hp
        refine e_iaload f306_1845 (Or.inr (WF.x (p157_w F (h) w (hI (h) (1) ((v3) + (1)).toNatClampNeg) (hI (h) (1) ((v3) + (2)).toNatClampNeg)  r444 hr445) 1 (by decide))) rfl hg446 ?_
        refine e_aload_n f306_1846 rfl ?_
        refine e_iload_n f306_1847 rfl ?_
        refine e_iconst (v := 2) f306_1848 (by decide) ?_
        refine e_iadd f306_1849 ?_
        by_cases hg447 : ((v3) + (2)) < (0 : Int32) ∨ hN (r444.2) (1) ≤ ((v3) + (2)).toNatClampNeg
        · rw [if_pos hg447] at hp; cases hp
        rw [if_neg hg447] at hp
        refine e_iaload f306_1850 (Or.inr (WF.x (p157_w F (h) w (hI (h) (1) ((v3) + (1)).toNatClampNeg) (hI (h) (1) ((v3) + (2)).toNatClampNeg)  r444 hr445) 1 (by decide))) rfl hg447 ?_
        obtain ⟨r448, hr449, hp⟩ := bind_some hp
        try dsimp only at hp
        refine e_callV (st := [.int (r444.1)]) (o := 86) (as := [.int (hI (r444.2) (1) ((v3) + (1)).toNatClampNeg), .int (hI (r444.2) (1) ((v3) + (2)).toNatClampNeg)]) f306_1851 (by decide) rfl rfl (Nat.le_of_ble_eq_true rfl) (WF.t (p157_w F (h) w (hI (h) (1) ((v3) + (1)).toNatClampNeg) (hI (h) (1) ((v3) + (2)).toNatClampNeg)  r444 hr445) 86 (by decide)) (Nat.le_of_ble_eq_true rfl) (p294_ok (d + 60) F (r444.2) (p157_w F (h) w (hI (h) (1) ((v3) + (1)).toNatClampNeg) (hI (h) (1) ((v3) + (2)).toNatClampNeg)  r444 hr445) (hI (r444.2) (1) ((v3) + (1)).toNatClampNeg) (hI (r444.2) (1) ((v3) + (2)).toNatClampNeg) r448 hr449) ?_
        show ex _ 306 (1854, [some (.ref (1)), some (.ref (32)), some (.ref (86)), some (.int (v3))], [.int (r448.1), .int (r444.1)], r448.2) = _
        by_cases hc450 : (r444.1) = ((r448.1) : Int32)
        · rw [if_pos hc450] at hp
          refine e_icmp_eq_t f306_1854 hc450 ?_
          refine ex_weak (ls := [some (.ref (1)), some (.ref (32)), some (.ref (86)), some (.int (v3))]) (le2_ok ⟨Or.inr rfl, Or.inr rfl, Or.inr rfl, Or.inr rfl, trivial⟩) ?_
          exact p306_j2120_ok d F ((p306_L18 F n)) (ih) (r448.2) ((p294_w F (r444.2) (p157_w F (h) w (hI (h) (1) ((v3) + (1)).toNatClampNeg) (hI (h) (1) ((v3) + (2)).toNatClampNeg)  r444 hr445) (hI (r444.2) (1) ((v3) + (1)).toNatClampNeg) (hI (r444.2) (1) ((v3) + (2)).toNatClampNeg)  r448 hr449)) (v3) _ hp
        · rw [if_neg hc450] at hp
          refine e_icmp_eq_f f306_1854 hc450 ?_
          refine e_iconst (v := 0) f306_1857 (by decide) ?_
          have hp := Option.some.inj hp
          subst hp
          exact e_ireturn f306_1858 (by decide)
      rw [if_neg hc441] at hp
      by_cases hc451 : ((hI (h) (1) (v3).toNatClampNeg) &&& (63)) = (44 : Int32)
      · rw [if_pos hc451] at hp
        refine e_sw (t := 1859) f306_33 (by rw [hc451]; decide) (by rw [hc451]; decide) ?_
        refine e_aload_n f306_1859 rfl ?_
        refine e_aload_n f306_1860 rfl ?_
        refine e_iload_n f306_1861 rfl ?_
        refine e_iconst (v := 1) f306_1862 (by decide) ?_
        refine e_iadd f306_1863 ?_
        by_cases hg452 : ((v3) + (1)) < (0 : Int32) ∨ hN (h) (1) ≤ ((v3) + (1)).toNatClampNeg
        · rw [if_pos hg452] at hp; cases hp
        rw [if_neg hg452] at hp
        refine e_iaload f306_1864 (Or.inr (WF.x w 1 (by decide))) rfl hg452 ?_
        refine e_aload_n f306_1865 rfl ?_
        refine e_iload_n f306_1866 rfl ?_
        refine e_iconst (v := 2) f306_1867 (by decide) ?_
        refine e_iadd f306_1868 ?_
        by_cases hg453 : ((v3) + (2)) < (0 : Int32) ∨ hN (h) (1) ≤ ((v3) + (2)).toNatClampNeg
        · rw [if_pos hg453] at hp; cases hp
        rw [if_neg hg453] at hp
        refine e_iaload f306_1869 (Or.inr (WF.x w 1 (by decide))) rfl hg453 ?_
        by_cases hc454 : (hI (h) (1) ((v3) + (2)).toNatClampNeg) = (0 : Int32)
        · rw [if_pos hc454] at hp
          refine e_if_eq_t f306_1870 hc454 ?_
          refine e_iconst (v := 0) f306_1877 (by decide) ?_
          refine ex_weak (ls := [some (.ref (1)), some (.ref (32)), some (.ref (86)), some (.int (v3))]) (le2_ok ⟨Or.inr rfl, Or.inr rfl, Or.inr rfl, Or.inr rfl, trivial⟩) ?_
          exact p306_j1878_ok d F ((p306_L18 F n)) (ih) (h) (w) (v3) (0) (hI (h) (1) ((v3) + (1)).toNatClampNeg) _ hp
        · rw [if_neg hc454] at hp
          refine e_if_eq_f f306_1870 hc454 ?_
          refine e_iconst (v := 1) f306_1873 (by decide) ?_
          refine e_goto f306_1874 ?_
          refine ex_weak (ls := [some (.ref (1)), some (.ref (32)), some (.ref (86)), some (.int (v3))]) (le2_ok ⟨Or.inr rfl, Or.inr rfl, Or.inr rfl, Or.inr rfl, trivial⟩) ?_
          exact p306_j1878_ok d F ((p306_L18 F n)) (ih) (h) (w) (v3) (1) (hI (h) (1) ((v3) + (1)).toNatClampNeg) _ hp
      rw [if_neg hc451] at hp
      by_cases hc455 : ((hI (h) (1) (v3).toNatClampNeg) &&& (63)) = (45 : Int32)
      · rw [if_pos hc455] at hp
        refine e_sw (t := 1908) f306_33 (by rw [hc455]; decide) (by rw [hc455]; decide) ?_
        refine e_aload_n f306_1908 rfl ?_
        refine e_aload_n f306_1909 rfl ?_
        refine e_iload_n f306_1910 rfl ?_
        refine e_iconst (v := 1) f306_1911 (by decide) ?_
        refine e_iadd f306_1912 ?_
        by_cases hg456 : ((v3) + (1)) < (0 : Int32) ∨ hN (h) (1) ≤ ((v3) + (1)).toNatClampNeg
        · rw [if_pos hg456] at hp; cases hp
        rw [if_neg hg456] at hp
        refine e_iaload f306_1913 (Or.inr (WF.x w 1 (by decide))) rfl hg456 ?_
        obtain ⟨r457, hr458, hp⟩ := bind_some hp
        try dsimp only at hp
        refine e_callV (st := []) (o := 32) (as := [.int (hI (h) (1) ((v3) + (1)).toNatClampNeg)]) f306_1914 (by decide) rfl rfl (Nat.le_of_ble_eq_true rfl) (WF.t w 32 (by decide)) (Nat.le_of_ble_eq_true rfl) (p159_ok (d + 60) F (h) w (hI (h) (1) ((v3) + (1)).toNatClampNeg) r457 hr458) ?_
        show ex _ 306 (1917, [some (.ref (1)), some (.ref (32)), some (.ref (86)), some (.int (v3))], [.int (r457.1)], r457.2) = _
        refine e_aload_n f306_1917 rfl ?_
        refine e_aload_n f306_1918 rfl ?_
        refine e_iload_n f306_1919 rfl ?_
        refine e_iconst (v := 1) f306_1920 (by decide) ?_
        refine e_iadd f306_1921 ?_
        by_cases hg459 : ((v3) + (1)) < (0 : Int32) ∨ hN (r457.2) (1) ≤ ((v3) + (1)).toNatClampNeg
        · rw [if_pos hg459] at hp; cases hp
        rw [if_neg hg459] at hp
        refine e_iaload f306_1922 (Or.inr (WF.x (p159_w F (h) w (hI (h) (1) ((v3) + (1)).toNatClampNeg)  r457 hr458) 1 (by decide))) rfl hg459 ?_
        obtain ⟨r460, hr461, hp⟩ := bind_some hp
        try dsimp only at hp
        refine e_callV (st := [.int (r457.1)]) (o := 86) (as := [.int (hI (r457.2) (1) ((v3) + (1)).toNatClampNeg)]) f306_1923 (by decide) rfl rfl (Nat.le_of_ble_eq_true rfl) (WF.t (p159_w F (h) w (hI (h) (1) ((v3) + (1)).toNatClampNeg)  r457 hr458) 86 (by decide)) (Nat.le_of_ble_eq_true rfl) (p298_ok (d + 59) F (r457.2) (p159_w F (h) w (hI (h) (1) ((v3) + (1)).toNatClampNeg)  r457 hr458) (hI (r457.2) (1) ((v3) + (1)).toNatClampNeg) r460 hr461) ?_
        show ex _ 306 (1926, [some (.ref (1)), some (.ref (32)), some (.ref (86)), some (.int (v3))], [.int (r460.1), .int (r457.1)], r460.2) = _
        by_cases hc462 : (r457.1) = ((r460.1) : Int32)
        · rw [if_pos hc462] at hp
          refine e_icmp_eq_t f306_1926 hc462 ?_
          refine ex_weak (ls := [some (.ref (1)), some (.ref (32)), some (.ref (86)), some (.int (v3))]) (le2_ok ⟨Or.inr rfl, Or.inr rfl, Or.inr rfl, Or.inr rfl, trivial⟩) ?_
          exact p306_j2120_ok d F ((p306_L18 F n)) (ih) (r460.2) ((p298_w F (r457.2) (p159_w F (h) w (hI (h) (1) ((v3) + (1)).toNatClampNeg)  r457 hr458) (hI (r457.2) (1) ((v3) + (1)).toNatClampNeg)  r460 hr461)) (v3) _ hp
        · rw [if_neg hc462] at hp
          refine e_icmp_eq_f f306_1926 hc462 ?_
          refine e_iconst (v := 0) f306_1929 (by decide) ?_
          have hp := Option.some.inj hp
          subst hp
          exact e_ireturn f306_1930 (by decide)
      rw [if_neg hc455] at hp
      by_cases hc463 : ((hI (h) (1) (v3).toNatClampNeg) &&& (63)) = (46 : Int32)
      · rw [if_pos hc463] at hp
        refine e_sw (t := 1931) f306_33 (by rw [hc463]; decide) (by rw [hc463]; decide) ?_
        refine e_aload_n f306_1931 rfl ?_
        obtain ⟨r464, hr465, hp⟩ := bind_some hp
        try dsimp only at hp
        refine e_callV (st := []) (o := 32) (as := []) f306_1932 (by decide) rfl rfl (Nat.le_of_ble_eq_true rfl) (WF.t w 32 (by decide)) (Nat.le_of_ble_eq_true rfl) (p160_ok (d + 60) F (h) w r464 hr465) ?_
        show ex _ 306 (1935, [some (.ref (1)), some (.ref (32)), some (.ref (86)), some (.int (v3))], [.int (r464.1)], r464.2) = _
        refine e_aload_n f306_1935 rfl ?_
        obtain ⟨r466, hr467, hp⟩ := bind_some hp
        try dsimp only at hp
        refine e_callV (st := [.int (r464.1)]) (o := 86) (as := []) f306_1936 (by decide) rfl rfl (Nat.le_of_ble_eq_true rfl) (WF.t (p160_w F (h) w  r464 hr465) 86 (by decide)) (Nat.le_of_ble_eq_true rfl) (p299_ok (d + 59) F (r464.2) (p160_w F (h) w  r464 hr465) r466 hr467) ?_
        show ex _ 306 (1939, [some (.ref (1)), some (.ref (32)), some (.ref (86)), some (.int (v3))], [.int (r466.1), .int (r464.1)], r466.2) = _
        by_cases hc468 : (r464.1) = ((r466.1) : Int32)
        · rw [if_pos hc468] at hp
          refine e_icmp_eq_t f306_1939 hc468 ?_
          refine ex_weak (ls := [some (.ref (1)), some (.ref (32)), some (.ref (86)), some (.int (v3))]) (le2_ok ⟨Or.inr rfl, Or.inr rfl, Or.inr rfl, Or.inr rfl, trivial⟩) ?_
          exact p306_j2120_ok d F ((p306_L18 F n)) (ih) (r466.2) ((p299_w F (r464.2) (p160_w F (h) w  r464 hr465)  r466 hr467)) (v3) _ hp
        · rw [if_neg hc468] at hp
          refine e_icmp_eq_f f306_1939 hc468 ?_
          refine e_iconst (v := 0) f306_1942 (by decide) ?_
          have hp := Option.some.inj hp
          subst hp
          exact e_ireturn f306_1943 (by decide)
      rw [if_neg hc463] at hp
      by_cases hc469 : ((hI (h) (1) (v3).toNatClampNeg) &&& (63)) = (47 : Int32)
      · rw [if_pos hc469] at hp
        refine e_sw (t := 1944) f306_33 (by rw [hc469]; decide) (by rw [hc469]; decide) ?_
        refine e_aload_n f306_1944 rfl ?_
        refine e_aload_n f306_1945 rfl ?_
        refine e_iload_n f306_1946 rfl ?_
        refine e_iconst (v := 1) f306_1947 (by decide) ?_
        refine e_iadd f306_1948 ?_
        by_cases hg470 : ((v3) + (1)) < (0 : Int32) ∨ hN (h) (1) ≤ ((v3) + (1)).toNatClampNeg
        · rw [if_pos hg470] at hp; cases hp
        rw [if_neg hg470] at hp
        refine e_iaload f306_1949 (Or.inr (WF.x w 1 (by decide))) rfl hg470 ?_
        refine e_aload_n f306_1950 rfl ?_
        refine e_iload_n f306_1951 rfl ?_
        refine e_iconst (v := 2) f306_1952 (by decide) ?_
        refine e_iadd f306_1953 ?_
        by_cases hg471 : ((v3) + (2)) < (0 : Int32) ∨ hN (h) (1) ≤ ((v3) + (2)).toNatClampNeg
        · rw [if_pos hg471] at hp; cases hp
        rw [if_neg hg471] at hp
        refine e_iaload f306_1954 (Or.inr (WF.x w 1 (by decide))) rfl hg471 ?_
        obtain ⟨r472, hr473, hp⟩ := bind_some hp
        try dsimp only at hp
        refine e_callV (st := []) (o := 32) (as := [.int (hI (h) (1) ((v3) + (1)).toNatClampNeg), .int (hI (h) (1) ((v3) + (2)).toNatClampNeg)]) f306_1955 (by decide) rfl rfl (Nat.le_of_ble_eq_true rfl) (WF.t w 32 (by decide)) (Nat.le_of_ble_eq_true rfl) (p161_ok (d + 63) (h) w (hI (h) (1) ((v3) + (1)).toNatClampNeg) (hI (h) (1) ((v3) + (2)).toNatClampNeg) r472 hr473) ?_
        show ex _ 306 (1958, [some (.ref (1)), some (.ref (32)), some (.ref (86)), some (.int (v3))], [.int (r472)], h) = _
        refine e_aload_n f306_1958 rfl ?_
        refine e_aload_n f306_1959 rfl ?_
        refine e_iload_n f306_1960 rfl ?_
        refine e_iconst (v := 1) f306_1961 (by decide) ?_
        refine e_iadd f306_1962 ?_
        by_cases hg474 : ((v3) + (1)) < (0 : Int32) ∨ hN (h) (1) ≤ ((v3) + (1)).toNatClampNeg
        · rw [if_pos hg474] at hp; cases hp
        rw [if_neg hg474] at hp
        refine e_iaload f306_1963 (Or.inr (WF.x w 1 (by decide))) rfl hg474 ?_
        refine e_aload_n f306_1964 rfl ?_
        refine e_iload_n f306_1965 rfl ?_
        refine e_iconst (v := 2) f306_1966 (by decide) ?_
        refine e_iadd f306_1967 ?_
        by_cases hg475 : ((v3) + (2)) < (0 : Int32) ∨ hN (h) (1) ≤ ((v3) + (2)).toNatClampNeg
        · rw [if_pos hg475] at hp; cases hp
        rw [if_neg hg475] at hp
        refine e_iaload f306_1968 (Or.inr (WF.x w 1 (by decide))) rfl hg475 ?_
        obtain ⟨r476, hr477, hp⟩ := bind_some hp
        try dsimp only at hp
        refine e_callV (st := [.int (r472)]) (o := 86) (as := [.int (hI (h) (1) ((v3) + (1)).toNatClampNeg), .int (hI (h) (1) ((v3) + (2)).toNatClampNeg)]) f306_1969 (by decide) rfl rfl (Nat.le_of_ble_eq_true rfl) (WF.t w 86 (by decide)) (Nat.le_of_ble_eq_true rfl) (p300_ok (d + 63) (h) w (hI (h) (1) ((v3) + (1)).toNatClampNeg) (hI (h) (1) ((v3) + (2)).toNatClampNeg) r476 hr477) ?_
        show ex _ 306 (1972, [some (.ref (1)), some (.ref (32)), some (.ref (86)), some (.int (v3))], [.int (r476), .int (r472)], h) = _
        by_cases hc478 : (r472) = ((r476) : Int32)
        · rw [if_pos hc478] at hp
          refine e_icmp_eq_t f306_1972 hc478 ?_
          refine ex_weak (ls := [some (.ref (1)), some (.ref (32)), some (.ref (86)), some (.int (v3))]) (le2_ok ⟨Or.inr rfl, Or.inr rfl, Or.inr rfl, Or.inr rfl, trivial⟩) ?_
          exact p306_j2120_ok d F ((p306_L18 F n)) (ih) (h) (w) (v3) _ hp
        · rw [if_neg hc478] at hp
          refine e_icmp_eq_f f306_1972 hc478 ?_
          refine e_iconst (v := 0) f306_1975 (by decide) ?_
          have hp := Option.some.inj hp
          subst hp
          exact e_ireturn f306_1976 (by decide)
      rw [if_neg hc469] at hp
      by_cases hc479 : ((hI (h) (1) (v3).toNatClampNeg) &&& (63)) = (48 : Int32)
      · rw [if_pos hc479] at hp
        refine e_sw (t := 1977) f306_33 (by rw [hc479]; decide) (by rw [hc479]; decide) ?_
        refine e_aload_n f306_1977 rfl ?_
        refine e_aload_n f306_1978 rfl ?_
        refine e_iload_n f306_1979 rfl ?_
        refine e_iconst (v := 1) f306_1980 (by decide) ?_
        refine e_iadd f306_1981 ?_
        by_cases hg480 : ((v3) + (1)) < (0 : Int32) ∨ hN (h) (1) ≤ ((v3) + (1)).toNatClampNeg
        · rw [if_pos hg480] at hp; cases hp
        rw [if_neg hg480] at hp
        refine e_iaload f306_1982 (Or.inr (WF.x w 1 (by decide))) rfl hg480 ?_
        refine e_aload_n f306_1983 rfl ?_
        refine e_iload_n f306_1984 rfl ?_
        refine e_iconst (v := 2) f306_1985 (by decide) ?_
        refine e_iadd f306_1986 ?_
        by_cases hg481 : ((v3) + (2)) < (0 : Int32) ∨ hN (h) (1) ≤ ((v3) + (2)).toNatClampNeg
        · rw [if_pos hg481] at hp; cases hp
        rw [if_neg hg481] at hp
        refine e_iaload f306_1987 (Or.inr (WF.x w 1 (by decide))) rfl hg481 ?_
        obtain ⟨r482, hr483, hp⟩ := bind_some hp
        try dsimp only at hp
        refine e_callV (st := []) (o := 32) (as := [.int (hI (h) (1) ((v3) + (1)).toNatClampNeg), .int (hI (h) (1) ((v3) + (2)).toNatClampNeg)]) f306_1988 (by decide) rfl rfl (Nat.le_of_ble_eq_true rfl) (WF.t w 32 (by decide)) (Nat.le_of_ble_eq_true rfl) (p162_ok (d + 63) (h) w (hI (h) (1) ((v3) + (1)).toNatClampNeg) (hI (h) (1) ((v3) + (2)).toNatClampNeg) r482 hr483) ?_
        show ex _ 306 (1991, [some (.ref (1)), some (.ref (32)), some (.ref (86)), some (.int (v3))], [.int (r482.1)], r482.2) = _
        refine e_aload_n f306_1991 rfl ?_
        refine e_aload_n f306_1992 rfl ?_
        refine e_iload_n f306_1993 rfl ?_
        refine e_iconst (v := 1) f306_1994 (by decide) ?_
        refine e_iadd f306_1995 ?_
        by_cases hg484 : ((v3) + (1)) < (0 : Int32) ∨ hN (r482.2) (1) ≤ ((v3) + (1)).toNatClampNeg
        · rw [if_pos hg484] at hp; cases hp
        rw [if_neg hg484] at hp
        refine e_iaload f306_1996 (Or.inr (WF.x (p162_w (h) w (hI (h) (1) ((v3) + (1)).toNatClampNeg) (hI (h) (1) ((v3) + (2)).toNatClampNeg)  r482 hr483) 1 (by decide))) rfl hg484 ?_
        refine e_aload_n f306_1997 rfl ?_
        refine e_iload_n f306_1998 rfl ?_
        refine e_iconst (v := 2) f306_1999 (by decide) ?_
        refine e_iadd f306_2000 ?_
        by_cases hg485 : ((v3) + (2)) < (0 : Int32) ∨ hN (r482.2) (1) ≤ ((v3) + (2)).toNatClampNeg
        · rw [if_pos hg485] at hp; cases hp
        rw [if_neg hg485] at hp
        refine e_iaload f306_2001 (Or.inr (WF.x (p162_w (h) w (hI (h) (1) ((v3) + (1)).toNatClampNeg) (hI (h) (1) ((v3) + (2)).toNatClampNeg)  r482 hr483) 1 (by decide))) rfl hg485 ?_
        obtain ⟨r486, hr487, hp⟩ := bind_some hp
        try dsimp only at hp
        refine e_callV (st := [.int (r482.1)]) (o := 86) (as := [.int (hI (r482.2) (1) ((v3) + (1)).toNatClampNeg), .int (hI (r482.2) (1) ((v3) + (2)).toNatClampNeg)]) f306_2002 (by decide) rfl rfl (Nat.le_of_ble_eq_true rfl) (WF.t (p162_w (h) w (hI (h) (1) ((v3) + (1)).toNatClampNeg) (hI (h) (1) ((v3) + (2)).toNatClampNeg)  r482 hr483) 86 (by decide)) (Nat.le_of_ble_eq_true rfl) (p301_ok (d + 64) (r482.2) (p162_w (h) w (hI (h) (1) ((v3) + (1)).toNatClampNeg) (hI (h) (1) ((v3) + (2)).toNatClampNeg)  r482 hr483) (hI (r482.2) (1) ((v3) + (1)).toNatClampNeg) (hI (r482.2) (1) ((v3) + (2)).toNatClampNeg) r486 hr487) ?_
        show ex _ 306 (2005, [some (.ref (1)), some (.ref (32)), some (.ref (86)), some (.int (v3))], [.int (r486.1), .int (r482.1)], r486.2) = _
        by_cases hc488 : (r482.1) = ((r486.1) : Int32)
        · rw [if_pos hc488] at hp
          refine e_icmp_eq_t f306_2005 hc488 ?_
          refine ex_weak (ls := [some (.ref (1)), some (.ref (32)), some (.ref (86)), some (.int (v3))]) (le2_ok ⟨Or.inr rfl, Or.inr rfl, Or.inr rfl, Or.inr rfl, trivial⟩) ?_
          exact p306_j2120_ok d F ((p306_L18 F n)) (ih) (r486.2) ((p301_w (r482.2) (p162_w (h) w (hI (h) (1) ((v3) + (1)).toNatClampNeg) (hI (h) (1) ((v3) + (2)).toNatClampNeg)  r482 hr483) (hI (r482.2) (1) ((v3) + (1)).toNatClampNeg) (hI (r482.2) (1) ((v3) + (2)).toNatClampNeg)  r486 hr487)) (v3) _ hp
        · rw [if_neg hc488] at hp
          refine e_icmp_eq_f f306_2005 hc488 ?_
          refine e_iconst (v := 0) f306_2008 (by decide) ?_
          have hp := Option.some.inj hp
          subst hp
          exact e_ireturn f306_2009 (by decide)
      rw [if_neg hc479] at hp
      by_cases hc489 : ((hI (h) (1) (v3).toNatClampNeg) &&& (63)) = (49 : Int32)
      · rw [if_pos hc489] at hp
        refine e_sw (t := 2010) f306_33 (by rw [hc489]; decide) (by rw [hc489]; decide) ?_
        refine e_aload_n f306_2010 rfl ?_
        refine e_aload_n f306_2011 rfl ?_
        refine e_iload_n f306_2012 rfl ?_
        refine e_iconst (v := 1) f306_2013 (by decide) ?_
        refine e_iadd f306_2014 ?_
        by_cases hg490 : ((v3) + (1)) < (0 : Int32) ∨ hN (h) (1) ≤ ((v3) + (1)).toNatClampNeg
        · rw [if_pos hg490] at hp; cases hp
        rw [if_neg hg490] at hp
        refine e_iaload f306_2015 (Or.inr (WF.x w 1 (by decide))) rfl hg490 ?_
        refine e_aload_n f306_2016 rfl ?_
        refine e_iload_n f306_2017 rfl ?_
        refine e_iconst (v := 2) f306_2018 (by decide) ?_
        refine e_iadd f306_2019 ?_
        by_cases hg491 : ((v3) + (2)) < (0 : Int32) ∨ hN (h) (1) ≤ ((v3) + (2)).toNatClampNeg
        · rw [if_pos hg491] at hp; cases hp
        rw [if_neg hg491] at hp
        refine e_iaload f306_2020 (Or.inr (WF.x w 1 (by decide))) rfl hg491 ?_
        refine e_i2l f306_2021 ?_
        refine e_bipush (v := 32) f306_2022 (by decide) ?_
        refine e_lshl f306_2024 ?_
        refine e_aload_n f306_2025 rfl ?_
        refine e_iload_n f306_2026 rfl ?_
        refine e_iconst (v := 3) f306_2027 (by decide) ?_
        refine e_iadd f306_2028 ?_
        by_cases hg492 : ((v3) + (3)) < (0 : Int32) ∨ hN (h) (1) ≤ ((v3) + (3)).toNatClampNeg
        · rw [if_pos hg492] at hp; cases hp
        rw [if_neg hg492] at hp
        refine e_iaload f306_2029 (Or.inr (WF.x w 1 (by decide))) rfl hg492 ?_
        refine e_i2l f306_2030 ?_
        refine e_ldc2 (v := 4294967295) f306_2031 (by decide) ?_
        refine e_land f306_2034 ?_
        refine e_lor f306_2035 ?_
        obtain ⟨r493, hr494, hp⟩ := bind_some hp
        try dsimp only at hp
        refine e_callV (st := []) (o := 32) (as := [.int (hI (h) (1) ((v3) + (1)).toNatClampNeg), .long ((((hI (h) (1) ((v3) + (2)).toNatClampNeg).toInt64) <<< ((32 : Int32).toInt64 &&& 63)) ||| (((hI (h) (1) ((v3) + (3)).toNatClampNeg).toInt64) &&& ((4294967295 : Int64))))]) f306_2036 (by decide) rfl rfl (Nat.le_of_ble_eq_true rfl) (WF.t w 32 (by decide)) (Nat.le_of_ble_eq_true rfl) (p163_ok (d + 61) F (h) w (hI (h) (1) ((v3) + (1)).toNatClampNeg) ((((hI (h) (1) ((v3) + (2)).toNatClampNeg).toInt64) <<< ((32 : Int32).toInt64 &&& 63)) ||| (((hI (h) (1) ((v3) + (3)).toNatClampNeg).toInt64) &&& ((4294967295 : Int64)))) r493 hr494) ?_
        show ex _ 306 (2039, [some (.ref (1)), some (.ref (32)), some (.ref (86)), some (.int (v3))], [.long (r493.1)], r493.2) = _
        refine e_aload_n f306_2039 rfl ?_
        refine e_aload_n f306_2040 rfl ?_
        refine e_iload_n f306_2041 rfl ?_
        refine e_iconst (v := 1) f306_2042 (by decide) ?_
        refine e_iadd f306_2043 ?_
        by_cases hg495 : ((v3) + (1)) < (0 : Int32) ∨ hN (r493.2) (1) ≤ ((v3) + (1)).toNatClampNeg
        · rw [if_pos hg495] at hp; cases hp
        rw [if_neg hg495] at hp
        refine e_iaload f306_2044 (Or.inr (WF.x (p163_w F (h) w (hI (h) (1) ((v3) + (1)).toNatClampNeg) ((((hI (h) (1) ((v3) + (2)).toNatClampNeg).toInt64) <<< ((32 : Int32).toInt64 &&& 63)) ||| (((hI (h) (1) ((v3) + (3)).toNatClampNeg).toInt64) &&& ((4294967295 : Int64))))  r493 hr494) 1 (by decide))) rfl hg495 ?_
        refine e_aload_n f306_2045 rfl ?_
        refine e_iload_n f306_2046 rfl ?_
        refine e_iconst (v := 2) f306_2047 (by decide) ?_
        refine e_iadd f306_2048 ?_
        by_cases hg496 : ((v3) + (2)) < (0 : Int32) ∨ hN (r493.2) (1) ≤ ((v3) + (2)).toNatClampNeg
        · rw [if_pos hg496] at hp; cases hp
        rw [if_neg hg496] at hp
        refine e_iaload f306_2049 (Or.inr (WF.x (p163_w F (h) w (hI (h) (1) ((v3) + (1)).toNatClampNeg) ((((hI (h) (1) ((v3) + (2)).toNatClampNeg).toInt64) <<< ((32 : Int32).toInt64 &&& 63)) ||| (((hI (h) (1) ((v3) + (3)).toNatClampNeg).toInt64) &&& ((4294967295 : Int64))))  r493 hr494) 1 (by decide))) rfl hg496 ?_
        refine e_i2l f306_2050 ?_
        refine e_bipush (v := 32) f306_2051 (by decide) ?_
        refine e_lshl f306_2053 ?_
        refine e_aload_n f306_2054 rfl ?_
        refine e_iload_n f306_2055 rfl ?_
        refine e_iconst (v := 3) f306_2056 (by decide) ?_
        refine e_iadd f306_2057 ?_
        by_cases hg497 : ((v3) + (3)) < (0 : Int32) ∨ hN (r493.2) (1) ≤ ((v3) + (3)).toNatClampNeg
        · rw [if_pos hg497] at hp; cases hp
        rw [if_neg hg497] at hp
        refine e_iaload f306_2058 (Or.inr (WF.x (p163_w F (h) w (hI (h) (1) ((v3) + (1)).toNatClampNeg) ((((hI (h) (1) ((v3) + (2)).toNatClampNeg).toInt64) <<< ((32 : Int32).toInt64 &&& 63)) ||| (((hI (h) (1) ((v3) + (3)).toNatClampNeg).toInt64) &&& ((4294967295 : Int64))))  r493 hr494) 1 (by decide))) rfl hg497 ?_
        refine e_i2l f306_2059 ?_
        refine e_ldc2 (v := 4294967295) f306_2060 (by decide) ?_
        refine e_land f306_2063 ?_
        refine e_lor f306_2064 ?_
        obtain ⟨r498, hr499, hp⟩ := bind_some hp
        try dsimp only at hp
        refine e_callV (st := [.long (r493.1)]) (o := 86) (as := [.int (hI (r493.2) (1) ((v3) + (1)).toNatClampNeg), .long ((((hI (r493.2) (1) ((v3) + (2)).toNatClampNeg).toInt64) <<< ((32 : Int32).toInt64 &&& 63)) ||| (((hI (r493.2) (1) ((v3) + (3)).toNatClampNeg).toInt64) &&& ((4294967295 : Int64))))]) f306_2065 (by decide) rfl rfl (Nat.le_of_ble_eq_true rfl) (WF.t (p163_w F (h) w (hI (h) (1) ((v3) + (1)).toNatClampNeg) ((((hI (h) (1) ((v3) + (2)).toNatClampNeg).toInt64) <<< ((32 : Int32).toInt64 &&& 63)) ||| (((hI (h) (1) ((v3) + (3)).toNatClampNeg).toInt64) &&& ((4294967295 : Int64))))  r493 hr494) 86 (by decide)) (Nat.le_of_ble_eq_true rfl) (p303_ok (d + 64) F (r493.2) (p163_w F (h) w (hI (h) (1) ((v3) + (1)).toNatClampNeg) ((((hI (h) (1) ((v3) + (2)).toNatClampNeg).toInt64) <<< ((32 : Int32).toInt64 &&& 63)) ||| (((hI (h) (1) ((v3) + (3)).toNatClampNeg).toInt64) &&& ((4294967295 : Int64))))  r493 hr494) (hI (r493.2) (1) ((v3) + (1)).toNatClampNeg) ((((hI (r493.2) (1) ((v3) + (2)).toNatClampNeg).toInt64) <<< ((32 : Int32).toInt64 &&& 63)) ||| (((hI (r493.2) (1) ((v3) + (3)).toNatClampNeg).toInt64) &&& ((4294967295 : Int64)))) r498 hr499) ?_
        show ex _ 306 (2068, [some (.ref (1)), some (.ref (32)), some (.ref (86)), some (.int (v3))], [.long (r498.1), .long (r493.1)], r498.2) = _
        refine e_lcmp f306_2068 ?_
        by_cases hc500 : (lg_cmp (r493.1) (r498.1)) = (0 : Int32)
        · rw [if_pos hc500] at hp
          refine e_if_eq_t f306_2069 hc500 ?_
          refine ex_weak (ls := [some (.ref (1)), some (.ref (32)), some (.ref (86)), some (.int (v3))]) (le2_ok ⟨Or.inr rfl, Or.inr rfl, Or.inr rfl, Or.inr rfl, trivial⟩) ?_
          exact p306_j2120_ok d F ((p306_L18 F n)) (ih) (r498.2) ((p303_w F (r493.2) (p163_w F (h) w (hI (h) (1) ((v3) + (1)).toNatClampNeg) ((((hI (h) (1) ((v3) + (2)).toNatClampNeg).toInt64) <<< ((32 : Int32).toInt64 &&& 63)) ||| (((hI (h) (1) ((v3) + (3)).toNatClampNeg).toInt64) &&& ((4294967295 : Int64))))  r493 hr494) (hI (r493.2) (1) ((v3) + (1)).toNatClampNeg) ((((hI (r493.2) (1) ((v3) + (2)).toNatClampNeg).toInt64) <<< ((32 : Int32).toInt64 &&& 63)) ||| (((hI (r493.2) (1) ((v3) + (3)).toNatClampNeg).toInt64) &&& ((4294967295 : Int64))))  r498 hr499)) (v3) _ hp
        · rw [if_neg hc500] at hp
          refine e_if_eq_f f306_2069 hc500 ?_
          refine e_iconst (v := 0) f306_2072 (by decide) ?_
          have hp := Option.some.inj hp
          subst hp
          exact e_ireturn f306_2073 (by decide)
      rw [if_neg hc489] at hp
      by_cases hc501 : ((hI (h) (1) (v3).toNatClampNeg) &&& (63)) = (50 : Int32)
      · rw [if_pos hc501] at hp
        refine e_sw (t := 2074) f306_33 (by rw [hc501]; decide) (by rw [hc501]; decide) ?_
        refine e_aload_n f306_2074 rfl ?_
        refine e_aload_n f306_2075 rfl ?_
        refine e_iload_n f306_2076 rfl ?_
        refine e_iconst (v := 1) f306_2077 (by decide) ?_
        refine e_iadd f306_2078 ?_
        by_cases hg502 : ((v3) + (1)) < (0 : Int32) ∨ hN (h) (1) ≤ ((v3) + (1)).toNatClampNeg
        · rw [if_pos hg502] at hp; cases hp
        rw [if_neg hg502] at hp
        refine e_iaload f306_2079 (Or.inr (WF.x w 1 (by decide))) rfl hg502 ?_
        obtain ⟨r503, hr504, hp⟩ := bind_some hp
        try dsimp only at hp
        refine e_callV (st := []) (o := 32) (as := [.int (hI (h) (1) ((v3) + (1)).toNatClampNeg)]) f306_2080 (by decide) rfl rfl (Nat.le_of_ble_eq_true rfl) (WF.t w 32 (by decide)) (Nat.le_of_ble_eq_true rfl) (p164_ok (d + 63) (h) w (hI (h) (1) ((v3) + (1)).toNatClampNeg) r503 hr504) ?_
        show ex _ 306 (2083, [some (.ref (1)), some (.ref (32)), some (.ref (86)), some (.int (v3))], [.int (r503)], h) = _
        refine e_aload_n f306_2083 rfl ?_
        refine e_aload_n f306_2084 rfl ?_
        refine e_iload_n f306_2085 rfl ?_
        refine e_iconst (v := 1) f306_2086 (by decide) ?_
        refine e_iadd f306_2087 ?_
        by_cases hg505 : ((v3) + (1)) < (0 : Int32) ∨ hN (h) (1) ≤ ((v3) + (1)).toNatClampNeg
        · rw [if_pos hg505] at hp; cases hp
        rw [if_neg hg505] at hp
        refine e_iaload f306_2088 (Or.inr (WF.x w 1 (by decide))) rfl hg505 ?_
        obtain ⟨r506, hr507, hp⟩ := bind_some hp
        try dsimp only at hp
        refine e_callV (st := [.int (r503)]) (o := 86) (as := [.int (hI (h) (1) ((v3) + (1)).toNatClampNeg)]) f306_2089 (by decide) rfl rfl (Nat.le_of_ble_eq_true rfl) (WF.t w 86 (by decide)) (Nat.le_of_ble_eq_true rfl) (p304_ok (d + 64) (h) w (hI (h) (1) ((v3) + (1)).toNatClampNeg) r506 hr507) ?_
        show ex _ 306 (2092, [some (.ref (1)), some (.ref (32)), some (.ref (86)), some (.int (v3))], [.int (r506), .int (r503)], h) = _
        by_cases hc508 : (r503) = ((r506) : Int32)
        · rw [if_pos hc508] at hp
          refine e_icmp_eq_t f306_2092 hc508 ?_
          refine ex_weak (ls := [some (.ref (1)), some (.ref (32)), some (.ref (86)), some (.int (v3))]) (le2_ok ⟨Or.inr rfl, Or.inr rfl, Or.inr rfl, Or.inr rfl, trivial⟩) ?_
          exact p306_j2120_ok d F ((p306_L18 F n)) (ih) (h) (w) (v3) _ hp
        · rw [if_neg hc508] at hp
          refine e_icmp_eq_f f306_2092 hc508 ?_
          refine e_iconst (v := 0) f306_2095 (by decide) ?_
          have hp := Option.some.inj hp
          subst hp
          exact e_ireturn f306_2096 (by decide)
      rw [if_neg hc501] at hp
      by_cases hc509 : ((hI (h) (1) (v3).toNatClampNeg) &&& (63)) = (51 : Int32)
      · rw [if_pos hc509] at hp
        refine e_sw (t := 2097) f306_33 (by rw [hc509]; decide) (by rw [hc509]; decide) ?_
        refine e_aload_n f306_2097 rfl ?_
        refine e_aload_n f306_2098 rfl ?_
        refine e_iload_n f306_2099 rfl ?_
        refine e_iconst (v := 1) f306_2100 (by decide) ?_
        refine e_iadd f306_2101 ?_
        by_cases hg510 : ((v3) + (1)) < (0 : Int32) ∨ hN (h) (1) ≤ ((v3) + (1)).toNatClampNeg
        · rw [if_pos hg510] at hp; cases hp
        rw [if_neg hg510] at hp
        refine e_iaload f306_2102 (Or.inr (WF.x w 1 (by decide))) rfl hg510 ?_
        obtain ⟨r511, hr512, hp⟩ := bind_some hp
        try dsimp only at hp
        refine e_callV (st := []) (o := 32) (as := [.int (hI (h) (1) ((v3) + (1)).toNatClampNeg)]) f306_2103 (by decide) rfl rfl (Nat.le_of_ble_eq_true rfl) (WF.t w 32 (by decide)) (Nat.le_of_ble_eq_true rfl) (p165_ok (d + 64) F (h) w (hI (h) (1) ((v3) + (1)).toNatClampNeg) r511 hr512) ?_
        show ex _ 306 (2106, [some (.ref (1)), some (.ref (32)), some (.ref (86)), some (.int (v3))], [.int (r511)], h) = _
        refine e_aload_n f306_2106 rfl ?_
        refine e_aload_n f306_2107 rfl ?_
        refine e_iload_n f306_2108 rfl ?_
        refine e_iconst (v := 1) f306_2109 (by decide) ?_
        refine e_iadd f306_2110 ?_
        by_cases hg513 : ((v3) + (1)) < (0 : Int32) ∨ hN (h) (1) ≤ ((v3) + (1)).toNatClampNeg
        · rw [if_pos hg513] at hp; cases hp
        rw [if_neg hg513] at hp
        refine e_iaload f306_2111 (Or.inr (WF.x w 1 (by decide))) rfl hg513 ?_
        obtain ⟨r514, hr515, hp⟩ := bind_some hp
        try dsimp only at hp
        refine e_callV (st := [.int (r511)]) (o := 86) (as := [.int (hI (h) (1) ((v3) + (1)).toNatClampNeg)]) f306_2112 (by decide) rfl rfl (Nat.le_of_ble_eq_true rfl) (WF.t w 86 (by decide)) (Nat.le_of_ble_eq_true rfl) (p305_ok (d + 65) F (h) w (hI (h) (1) ((v3) + (1)).toNatClampNeg) r514 hr515) ?_
        show ex _ 306 (2115, [some (.ref (1)), some (.ref (32)), some (.ref (86)), some (.int (v3))], [.int (r514), .int (r511)], h) = _
        by_cases hc516 : (r511) = ((r514) : Int32)
        · rw [if_pos hc516] at hp
          refine e_icmp_eq_t f306_2115 hc516 ?_
          refine ex_weak (ls := [some (.ref (1)), some (.ref (32)), some (.ref (86)), some (.int (v3))]) (le2_ok ⟨Or.inr rfl, Or.inr rfl, Or.inr rfl, Or.inr rfl, trivial⟩) ?_
          exact p306_j2120_ok d F ((p306_L18 F n)) (ih) (h) (w) (v3) _ hp
        · rw [if_neg hc516] at hp
          refine e_icmp_eq_f f306_2115 hc516 ?_
          refine e_iconst (v := 0) f306_2118 (by decide) ?_
          have hp := Option.some.inj hp
          subst hp
          exact e_ireturn f306_2119 (by decide)
      rw [if_neg hc509] at hp
      have ho517 := sw_out (x := (hI (h) (1) (v3).toNatClampNeg) &&& (63)) 0 51 (fun j h1 h2 => by
        rcases (show j = 0 ∨ j = 1 ∨ j = 2 ∨ j = 3 ∨ j = 4 ∨ j = 5 ∨ j = 6 ∨ j = 7 ∨ j = 8 ∨ j = 9 ∨ j = 10 ∨ j = 11 ∨ j = 12 ∨ j = 13 ∨ j = 14 ∨ j = 15 ∨ j = 16 ∨ j = 17 ∨ j = 18 ∨ j = 19 ∨ j = 20 ∨ j = 21 ∨ j = 22 ∨ j = 23 ∨ j = 24 ∨ j = 25 ∨ j = 26 ∨ j = 27 ∨ j = 28 ∨ j = 29 ∨ j = 30 ∨ j = 31 ∨ j = 32 ∨ j = 33 ∨ j = 34 ∨ j = 35 ∨ j = 36 ∨ j = 37 ∨ j = 38 ∨ j = 39 ∨ j = 40 ∨ j = 41 ∨ j = 42 ∨ j = 43 ∨ j = 44 ∨ j = 45 ∨ j = 46 ∨ j = 47 ∨ j = 48 ∨ j = 49 ∨ j = 50 ∨ j = 51 by omega) with rfl | rfl | rfl | rfl | rfl | rfl | rfl | rfl | rfl | rfl | rfl | rfl | rfl | rfl | rfl | rfl | rfl | rfl | rfl | rfl | rfl | rfl | rfl | rfl | rfl | rfl | rfl | rfl | rfl | rfl | rfl | rfl | rfl | rfl | rfl | rfl | rfl | rfl | rfl | rfl | rfl | rfl | rfl | rfl | rfl | rfl | rfl | rfl | rfl | rfl | rfl | rfl
        · exact i32_ne hc3 (by decide)
        · exact i32_ne hc11 (by decide)
        · exact i32_ne hc19 (by decide)
        · exact i32_ne hc33 (by decide)
        · exact i32_ne hc43 (by decide)
        · exact i32_ne hc55 (by decide)
        · exact i32_ne hc67 (by decide)
        · exact i32_ne hc77 (by decide)
        · exact i32_ne hc91 (by decide)
        · exact i32_ne hc99 (by decide)
        · exact i32_ne hc105 (by decide)
        · exact i32_ne hc113 (by decide)
        · exact i32_ne hc121 (by decide)
        · exact i32_ne hc131 (by decide)
        · exact i32_ne hc139 (by decide)
        · exact i32_ne hc153 (by decide)
        · exact i32_ne hc161 (by decide)
        · exact i32_ne hc169 (by decide)
        · exact i32_ne hc189 (by decide)
        · exact i32_ne hc197 (by decide)
        · exact i32_ne hc207 (by decide)
        · exact i32_ne hc219 (by decide)
        · exact i32_ne hc231 (by decide)
        · exact i32_ne hc241 (by decide)
        · exact i32_ne hc249 (by decide)
        · exact i32_ne hc261 (by decide)
        · exact i32_ne hc271 (by decide)
        · exact i32_ne hc285 (by decide)
        · exact i32_ne hc295 (by decide)
        · exact i32_ne hc311 (by decide)
        · exact i32_ne hc319 (by decide)
        · exact i32_ne hc327 (by decide)
        · exact i32_ne hc335 (by decide)
        · exact i32_ne hc351 (by decide)
        · exact i32_ne hc355 (by decide)
        · exact i32_ne hc367 (by decide)
        · exact i32_ne hc373 (by decide)
        · exact i32_ne hc383 (by decide)
        · exact i32_ne hc391 (by decide)
        · exact i32_ne hc397 (by decide)
        · exact i32_ne hc409 (by decide)
        · exact i32_ne hc421 (by decide)
        · exact i32_ne hc431 (by decide)
        · exact i32_ne hc441 (by decide)
        · exact i32_ne hc451 (by decide)
        · exact i32_ne hc455 (by decide)
        · exact i32_ne hc463 (by decide)
        · exact i32_ne hc469 (by decide)
        · exact i32_ne hc479 (by decide)
        · exact i32_ne hc489 (by decide)
        · exact i32_ne hc501 (by decide)
        · exact i32_ne hc509 (by decide))
      refine e_sw (t := 2120) f306_33 ⟨by rw [swTo, if_pos ho517]; decide, by decide⟩ (by rw [swTo, if_pos ho517]; decide) ?_
      refine ex_weak (ls := [some (.ref (1)), some (.ref (32)), some (.ref (86)), some (.int (v3))]) (le2_ok ⟨Or.inr rfl, Or.inr rfl, Or.inr rfl, Or.inr rfl, trivial⟩) ?_
      exact p306_j2120_ok d F ((p306_L18 F n)) (ih) (h) (w) (v3) _ hp
set_option maxRecDepth 100000 in
set_option maxHeartbeats 4000000 in
theorem p306_L18_w (F : Nat) : ∀ (n : Nat) (h : HS) (w : WF h) (v3 : Int32) (r : Int32 × HS), p306_L18 F n h v3 = some r → WF r.2 := by
  intro n
  induction n with
  | zero => intro h w v3 r hp; cases hp
  | succ n ih =>
    intro h w v3 r hp
    unfold p306_L18 at hp
    by_cases hc1 : ((Int32.ofNat (hN (h) (1))) - (8)) < ((v3) : Int32)
    · rw [if_pos hc1] at hp
      have hp := Option.some.inj hp
      subst hp
      exact (w)
    · rw [if_neg hc1] at hp
      by_cases hg2 : (v3) < (0 : Int32) ∨ hN (h) (1) ≤ (v3).toNatClampNeg
      · rw [if_pos hg2] at hp; cases hp
      rw [if_neg hg2] at hp
      by_cases hc3 : ((hI (h) (1) (v3).toNatClampNeg) &&& (63)) = (0 : Int32)
      · rw [if_pos hc3] at hp
        by_cases hg4 : ((v3) + (1)) < (0 : Int32) ∨ hN (h) (1) ≤ ((v3) + (1)).toNatClampNeg
        · rw [if_pos hg4] at hp; cases hp
        rw [if_neg hg4] at hp
        obtain ⟨r5, hr6, hp⟩ := bind_some hp
        try dsimp only at hp
        by_cases hg7 : ((v3) + (1)) < (0 : Int32) ∨ hN (r5.2) (1) ≤ ((v3) + (1)).toNatClampNeg
        · rw [if_pos hg7] at hp; cases hp
        rw [if_neg hg7] at hp
        obtain ⟨r8, hr9, hp⟩ := bind_some hp
        try dsimp only at hp
        by_cases hc10 : (r5.1) = ((r8.1) : Int32)
        · rw [if_pos hc10] at hp
          exact p306_j2120_w F ((p306_L18 F n)) (ih) (r8.2) ((p190_w (r5.2) (p114_w (h) w (hI (h) (1) ((v3) + (1)).toNatClampNeg)  r5 hr6) (hI (r5.2) (1) ((v3) + (1)).toNatClampNeg)  r8 hr9)) (v3) _ hp
        · rw [if_neg hc10] at hp
          have hp := Option.some.inj hp
          subst hp
          exact ((p190_w (r5.2) (p114_w (h) w (hI (h) (1) ((v3) + (1)).toNatClampNeg)  r5 hr6) (hI (r5.2) (1) ((v3) + (1)).toNatClampNeg)  r8 hr9))
      rw [if_neg hc3] at hp
      by_cases hc11 : ((hI (h) (1) (v3).toNatClampNeg) &&& (63)) = (1 : Int32)
      · rw [if_pos hc11] at hp
        by_cases hg12 : ((v3) + (1)) < (0 : Int32) ∨ hN (h) (1) ≤ ((v3) + (1)).toNatClampNeg
        · rw [if_pos hg12] at hp; cases hp
        rw [if_neg hg12] at hp
        obtain ⟨r13, hr14, hp⟩ := bind_some hp
        try dsimp only at hp
        by_cases hg15 : ((v3) + (1)) < (0 : Int32) ∨ hN (r13.2) (1) ≤ ((v3) + (1)).toNatClampNeg
        · rw [if_pos hg15] at hp; cases hp
        rw [if_neg hg15] at hp
        obtain ⟨r16, hr17, hp⟩ := bind_some hp
        try dsimp only at hp
        by_cases hc18 : (r13.1) = ((r16.1) : Int32)
        · rw [if_pos hc18] at hp
          exact p306_j2120_w F ((p306_L18 F n)) (ih) (r16.2) ((p191_w (r13.2) (p115_w (h) w (hI (h) (1) ((v3) + (1)).toNatClampNeg)  r13 hr14) (hI (r13.2) (1) ((v3) + (1)).toNatClampNeg)  r16 hr17)) (v3) _ hp
        · rw [if_neg hc18] at hp
          have hp := Option.some.inj hp
          subst hp
          exact ((p191_w (r13.2) (p115_w (h) w (hI (h) (1) ((v3) + (1)).toNatClampNeg)  r13 hr14) (hI (r13.2) (1) ((v3) + (1)).toNatClampNeg)  r16 hr17))
      rw [if_neg hc11] at hp
      by_cases hc19 : ((hI (h) (1) (v3).toNatClampNeg) &&& (63)) = (2 : Int32)
      · rw [if_pos hc19] at hp
        by_cases hg20 : ((v3) + (1)) < (0 : Int32) ∨ hN (h) (1) ≤ ((v3) + (1)).toNatClampNeg
        · rw [if_pos hg20] at hp; cases hp
        rw [if_neg hg20] at hp
        by_cases hg21 : ((v3) + (2)) < (0 : Int32) ∨ hN (h) (1) ≤ ((v3) + (2)).toNatClampNeg
        · rw [if_pos hg21] at hp; cases hp
        rw [if_neg hg21] at hp
        by_cases hg22 : ((v3) + (3)) < (0 : Int32) ∨ hN (h) (1) ≤ ((v3) + (3)).toNatClampNeg
        · rw [if_pos hg22] at hp; cases hp
        rw [if_neg hg22] at hp
        by_cases hg23 : ((v3) + (4)) < (0 : Int32) ∨ hN (h) (1) ≤ ((v3) + (4)).toNatClampNeg
        · rw [if_pos hg23] at hp; cases hp
        rw [if_neg hg23] at hp
        obtain ⟨r24, hr25, hp⟩ := bind_some hp
        try dsimp only at hp
        by_cases hg26 : ((v3) + (1)) < (0 : Int32) ∨ hN (r24.2) (1) ≤ ((v3) + (1)).toNatClampNeg
        · rw [if_pos hg26] at hp; cases hp
        rw [if_neg hg26] at hp
        by_cases hg27 : ((v3) + (2)) < (0 : Int32) ∨ hN (r24.2) (1) ≤ ((v3) + (2)).toNatClampNeg
        · rw [if_pos hg27] at hp; cases hp
        rw [if_neg hg27] at hp
        by_cases hg28 : ((v3) + (3)) < (0 : Int32) ∨ hN (r24.2) (1) ≤ ((v3) + (3)).toNatClampNeg
        · rw [if_pos hg28] at hp; cases hp
        rw [if_neg hg28] at hp
        by_cases hg29 : ((v3) + (4)) < (0 : Int32) ∨ hN (r24.2) (1) ≤ ((v3) + (4)).toNatClampNeg
        · rw [if_pos hg29] at hp; cases hp
        rw [if_neg hg29] at hp
        obtain ⟨r30, hr31, hp⟩ := bind_some hp
        try dsimp only at hp
        by_cases hc32 : (r24.1) = ((r30.1) : Int32)
        · rw [if_pos hc32] at hp
          exact p306_j2120_w F ((p306_L18 F n)) (ih) (r30.2) ((p192_w F (r24.2) (p116_w (h) w (hI (h) (1) ((v3) + (1)).toNatClampNeg) (hI (h) (1) ((v3) + (2)).toNatClampNeg) ((((hI (h) (1) ((v3) + (3)).toNatClampNeg).toInt64) <<< ((32 : Int32).toInt64 &&& 63)) ||| (((hI (h) (1) ((v3) + (4)).toNatClampNeg).toInt64) &&& ((4294967295 : Int64))))  r24 hr25) (hI (r24.2) (1) ((v3) + (1)).toNatClampNeg) (hI (r24.2) (1) ((v3) + (2)).toNatClampNeg) ((((hI (r24.2) (1) ((v3) + (3)).toNatClampNeg).toInt64) <<< ((32 : Int32).toInt64 &&& 63)) ||| (((hI (r24.2) (1) ((v3) + (4)).toNatClampNeg).toInt64) &&& ((4294967295 : Int64))))  r30 hr31)) (v3) _ hp
        · rw [if_neg hc32] at hp
          have hp := Option.some.inj hp
          subst hp
          exact ((p192_w F (r24.2) (p116_w (h) w (hI (h) (1) ((v3) + (1)).toNatClampNeg) (hI (h) (1) ((v3) + (2)).toNatClampNeg) ((((hI (h) (1) ((v3) + (3)).toNatClampNeg).toInt64) <<< ((32 : Int32).toInt64 &&& 63)) ||| (((hI (h) (1) ((v3) + (4)).toNatClampNeg).toInt64) &&& ((4294967295 : Int64))))  r24 hr25) (hI (r24.2) (1) ((v3) + (1)).toNatClampNeg) (hI (r24.2) (1) ((v3) + (2)).toNatClampNeg) ((((hI (r24.2) (1) ((v3) + (3)).toNatClampNeg).toInt64) <<< ((32 : Int32).toInt64 &&& 63)) ||| (((hI (r24.2) (1) ((v3) + (4)).toNatClampNeg).toInt64) &&& ((4294967295 : Int64))))  r30 hr31))
      rw [if_neg hc19] at hp
      by_cases hc33 : ((hI (h) (1) (v3).toNatClampNeg) &&& (63)) = (3 : Int32)
      · rw [if_pos hc33] at hp
        by_cases hg34 : ((v3) + (1)) < (0 : Int32) ∨ hN (h) (1) ≤ ((v3) + (1)).toNatClampNeg
        · rw [if_pos hg34] at hp; cases hp
        rw [if_neg hg34] at hp
        by_cases hg35 : ((v3) + (2)) < (0 : Int32) ∨ hN (h) (1) ≤ ((v3) + (2)).toNatClampNeg
        · rw [if_pos hg35] at hp; cases hp
        rw [if_neg hg35] at hp
        obtain ⟨r36, hr37, hp⟩ := bind_some hp
        try dsimp only at hp
        by_cases hg38 : ((v3) + (1)) < (0 : Int32) ∨ hN (h) (1) ≤ ((v3) + (1)).toNatClampNeg
        · rw [if_pos hg38] at hp; cases hp
        rw [if_neg hg38] at hp
        by_cases hg39 : ((v3) + (2)) < (0 : Int32) ∨ hN (h) (1) ≤ ((v3) + (2)).toNatClampNeg
        · rw [if_pos hg39] at hp; cases hp
        rw [if_neg hg39] at hp
        obtain ⟨r40, hr41, hp⟩ := bind_some hp
        try dsimp only at hp
        by_cases hc42 : (r36) = ((r40) : Int32)
        · rw [if_pos hc42] at hp
          exact p306_j2120_w F ((p306_L18 F n)) (ih) (h) (w) (v3) _ hp
        · rw [if_neg hc42] at hp
          have hp := Option.some.inj hp
          subst hp
          exact (w)
      rw [if_neg hc33] at hp
      by_cases hc43 : ((hI (h) (1) (v3).toNatClampNeg) &&& (63)) = (4 : Int32)
      · rw [if_pos hc43] at hp
        by_cases hg44 : ((v3) + (1)) < (0 : Int32) ∨ hN (h) (1) ≤ ((v3) + (1)).toNatClampNeg
        · rw [if_pos hg44] at hp; cases hp
        rw [if_neg hg44] at hp
        by_cases hg45 : ((v3) + (2)) < (0 : Int32) ∨ hN (h) (1) ≤ ((v3) + (2)).toNatClampNeg
        · rw [if_pos hg45] at hp; cases hp
        rw [if_neg hg45] at hp
        by_cases hg46 : ((v3) + (3)) < (0 : Int32) ∨ hN (h) (1) ≤ ((v3) + (3)).toNatClampNeg
        · rw [if_pos hg46] at hp; cases hp
        rw [if_neg hg46] at hp
        obtain ⟨r47, hr48, hp⟩ := bind_some hp
        try dsimp only at hp
        by_cases hg49 : ((v3) + (1)) < (0 : Int32) ∨ hN (h) (1) ≤ ((v3) + (1)).toNatClampNeg
        · rw [if_pos hg49] at hp; cases hp
        rw [if_neg hg49] at hp
        by_cases hg50 : ((v3) + (2)) < (0 : Int32) ∨ hN (h) (1) ≤ ((v3) + (2)).toNatClampNeg
        · rw [if_pos hg50] at hp; cases hp
        rw [if_neg hg50] at hp
        by_cases hg51 : ((v3) + (3)) < (0 : Int32) ∨ hN (h) (1) ≤ ((v3) + (3)).toNatClampNeg
        · rw [if_pos hg51] at hp; cases hp
        rw [if_neg hg51] at hp
        obtain ⟨r52, hr53, hp⟩ := bind_some hp
        try dsimp only at hp
        by_cases hc54 : (r47) = ((r52) : Int32)
        · rw [if_pos hc54] at hp
          exact p306_j2120_w F ((p306_L18 F n)) (ih) (h) (w) (v3) _ hp
        · rw [if_neg hc54] at hp
          have hp := Option.some.inj hp
          subst hp
          exact (w)
      rw [if_neg hc43] at hp
      by_cases hc55 : ((hI (h) (1) (v3).toNatClampNeg) &&& (63)) = (5 : Int32)
      · rw [if_pos hc55] at hp
        by_cases hg56 : ((v3) + (1)) < (0 : Int32) ∨ hN (h) (1) ≤ ((v3) + (1)).toNatClampNeg
        · rw [if_pos hg56] at hp; cases hp
        rw [if_neg hg56] at hp
        by_cases hg57 : ((v3) + (2)) < (0 : Int32) ∨ hN (h) (1) ≤ ((v3) + (2)).toNatClampNeg
        · rw [if_pos hg57] at hp; cases hp
        rw [if_neg hg57] at hp
        by_cases hg58 : ((v3) + (3)) < (0 : Int32) ∨ hN (h) (1) ≤ ((v3) + (3)).toNatClampNeg
        · rw [if_pos hg58] at hp; cases hp
        rw [if_neg hg58] at hp
        obtain ⟨r59, hr60, hp⟩ := bind_some hp
        try dsimp only at hp
        by_cases hg61 : ((v3) + (1)) < (0 : Int32) ∨ hN (r59.2) (1) ≤ ((v3) + (1)).toNatClampNeg
        · rw [if_pos hg61] at hp; cases hp
        rw [if_neg hg61] at hp
        by_cases hg62 : ((v3) + (2)) < (0 : Int32) ∨ hN (r59.2) (1) ≤ ((v3) + (2)).toNatClampNeg
        · rw [if_pos hg62] at hp; cases hp
        rw [if_neg hg62] at hp
        by_cases hg63 : ((v3) + (3)) < (0 : Int32) ∨ hN (r59.2) (1) ≤ ((v3) + (3)).toNatClampNeg
        · rw [if_pos hg63] at hp; cases hp
        rw [if_neg hg63] at hp
        obtain ⟨r64, hr65, hp⟩ := bind_some hp
        try dsimp only at hp
        by_cases hc66 : (r59.1) = ((r64.1) : Int32)
        · rw [if_pos hc66] at hp
          exact p306_j2120_w F ((p306_L18 F n)) (ih) (r64.2) ((p201_w F (r59.2) (p119_w F (h) w (hI (h) (1) ((v3) + (1)).toNatClampNeg) (hI (h) (1) ((v3) + (2)).toNatClampNeg) (hI (h) (1) ((v3) + (3)).toNatClampNeg)  r59 hr60) (hI (r59.2) (1) ((v3) + (1)).toNatClampNeg) (hI (r59.2) (1) ((v3) + (2)).toNatClampNeg) (hI (r59.2) (1) ((v3) + (3)).toNatClampNeg)  r64 hr65)) (v3) _ hp
        · rw [if_neg hc66] at hp
          have hp := Option.some.inj hp
          subst hp
          exact ((p201_w F (r59.2) (p119_w F (h) w (hI (h) (1) ((v3) + (1)).toNatClampNeg) (hI (h) (1) ((v3) + (2)).toNatClampNeg) (hI (h) (1) ((v3) + (3)).toNatClampNeg)  r59 hr60) (hI (r59.2) (1) ((v3) + (1)).toNatClampNeg) (hI (r59.2) (1) ((v3) + (2)).toNatClampNeg) (hI (r59.2) (1) ((v3) + (3)).toNatClampNeg)  r64 hr65))
      rw [if_neg hc55] at hp
      by_cases hc67 : ((hI (h) (1) (v3).toNatClampNeg) &&& (63)) = (6 : Int32)
      · rw [if_pos hc67] at hp
        by_cases hg68 : ((v3) + (1)) < (0 : Int32) ∨ hN (h) (1) ≤ ((v3) + (1)).toNatClampNeg
        · rw [if_pos hg68] at hp; cases hp
        rw [if_neg hg68] at hp
        by_cases hg69 : ((v3) + (2)) < (0 : Int32) ∨ hN (h) (1) ≤ ((v3) + (2)).toNatClampNeg
        · rw [if_pos hg69] at hp; cases hp
        rw [if_neg hg69] at hp
        obtain ⟨r70, hr71, hp⟩ := bind_some hp
        try dsimp only at hp
        by_cases hg72 : ((v3) + (1)) < (0 : Int32) ∨ hN (h) (1) ≤ ((v3) + (1)).toNatClampNeg
        · rw [if_pos hg72] at hp; cases hp
        rw [if_neg hg72] at hp
        by_cases hg73 : ((v3) + (2)) < (0 : Int32) ∨ hN (h) (1) ≤ ((v3) + (2)).toNatClampNeg
        · rw [if_pos hg73] at hp; cases hp
        rw [if_neg hg73] at hp
        obtain ⟨r74, hr75, hp⟩ := bind_some hp
        try dsimp only at hp
        by_cases hc76 : (r70) = ((r74) : Int32)
        · rw [if_pos hc76] at hp
          exact p306_j2120_w F ((p306_L18 F n)) (ih) (h) (w) (v3) _ hp
        · rw [if_neg hc76] at hp
          have hp := Option.some.inj hp
          subst hp
          exact (w)
      rw [if_neg hc67] at hp
      by_cases hc77 : ((hI (h) (1) (v3).toNatClampNeg) &&& (63)) = (7 : Int32)
      · rw [if_pos hc77] at hp
        by_cases hg78 : ((v3) + (1)) < (0 : Int32) ∨ hN (h) (1) ≤ ((v3) + (1)).toNatClampNeg
        · rw [if_pos hg78] at hp; cases hp
        rw [if_neg hg78] at hp
        by_cases hg79 : ((v3) + (2)) < (0 : Int32) ∨ hN (h) (1) ≤ ((v3) + (2)).toNatClampNeg
        · rw [if_pos hg79] at hp; cases hp
        rw [if_neg hg79] at hp
        by_cases hg80 : ((v3) + (3)) < (0 : Int32) ∨ hN (h) (1) ≤ ((v3) + (3)).toNatClampNeg
        · rw [if_pos hg80] at hp; cases hp
        rw [if_neg hg80] at hp
        by_cases hg81 : ((v3) + (4)) < (0 : Int32) ∨ hN (h) (1) ≤ ((v3) + (4)).toNatClampNeg
        · rw [if_pos hg81] at hp; cases hp
        rw [if_neg hg81] at hp
        obtain ⟨r82, hr83, hp⟩ := bind_some hp
        try dsimp only at hp
        by_cases hg84 : ((v3) + (1)) < (0 : Int32) ∨ hN (r82.2) (1) ≤ ((v3) + (1)).toNatClampNeg
        · rw [if_pos hg84] at hp; cases hp
        rw [if_neg hg84] at hp
        by_cases hg85 : ((v3) + (2)) < (0 : Int32) ∨ hN (r82.2) (1) ≤ ((v3) + (2)).toNatClampNeg
        · rw [if_pos hg85] at hp; cases hp
        rw [if_neg hg85] at hp
        by_cases hg86 : ((v3) + (3)) < (0 : Int32) ∨ hN (r82.2) (1) ≤ ((v3) + (3)).toNatClampNeg
        · rw [if_pos hg86] at hp; cases hp
        rw [if_neg hg86] at hp
        by_cases hg87 : ((v3) + (4)) < (0 : Int32) ∨ hN (r82.2) (1) ≤ ((v3) + (4)).toNatClampNeg
        · rw [if_pos hg87] at hp; cases hp
        rw [if_neg hg87] at hp
        obtain ⟨r88, hr89, hp⟩ := bind_some hp
        try dsimp only at hp
        by_cases hc90 : (r82.1) = ((r88.1) : Int32)
        · rw [if_pos hc90] at hp
          exact p306_j2120_w F ((p306_L18 F n)) (ih) (r88.2) ((p203_w F (r82.2) (p121_w F (h) w (hI (h) (1) ((v3) + (1)).toNatClampNeg) (hI (h) (1) ((v3) + (2)).toNatClampNeg) ((((hI (h) (1) ((v3) + (3)).toNatClampNeg).toInt64) <<< ((32 : Int32).toInt64 &&& 63)) ||| (((hI (h) (1) ((v3) + (4)).toNatClampNeg).toInt64) &&& ((4294967295 : Int64))))  r82 hr83) (hI (r82.2) (1) ((v3) + (1)).toNatClampNeg) (hI (r82.2) (1) ((v3) + (2)).toNatClampNeg) ((((hI (r82.2) (1) ((v3) + (3)).toNatClampNeg).toInt64) <<< ((32 : Int32).toInt64 &&& 63)) ||| (((hI (r82.2) (1) ((v3) + (4)).toNatClampNeg).toInt64) &&& ((4294967295 : Int64))))  r88 hr89)) (v3) _ hp
        · rw [if_neg hc90] at hp
          have hp := Option.some.inj hp
          subst hp
          exact ((p203_w F (r82.2) (p121_w F (h) w (hI (h) (1) ((v3) + (1)).toNatClampNeg) (hI (h) (1) ((v3) + (2)).toNatClampNeg) ((((hI (h) (1) ((v3) + (3)).toNatClampNeg).toInt64) <<< ((32 : Int32).toInt64 &&& 63)) ||| (((hI (h) (1) ((v3) + (4)).toNatClampNeg).toInt64) &&& ((4294967295 : Int64))))  r82 hr83) (hI (r82.2) (1) ((v3) + (1)).toNatClampNeg) (hI (r82.2) (1) ((v3) + (2)).toNatClampNeg) ((((hI (r82.2) (1) ((v3) + (3)).toNatClampNeg).toInt64) <<< ((32 : Int32).toInt64 &&& 63)) ||| (((hI (r82.2) (1) ((v3) + (4)).toNatClampNeg).toInt64) &&& ((4294967295 : Int64))))  r88 hr89))
      rw [if_neg hc77] at hp
      by_cases hc91 : ((hI (h) (1) (v3).toNatClampNeg) &&& (63)) = (8 : Int32)
      · rw [if_pos hc91] at hp
        by_cases hg92 : ((v3) + (1)) < (0 : Int32) ∨ hN (h) (1) ≤ ((v3) + (1)).toNatClampNeg
        · rw [if_pos hg92] at hp; cases hp
        rw [if_neg hg92] at hp
        obtain ⟨r93, hr94, hp⟩ := bind_some hp
        try dsimp only at hp
        by_cases hg95 : ((v3) + (1)) < (0 : Int32) ∨ hN (r93.2) (1) ≤ ((v3) + (1)).toNatClampNeg
        · rw [if_pos hg95] at hp; cases hp
        rw [if_neg hg95] at hp
        obtain ⟨r96, hr97, hp⟩ := bind_some hp
        try dsimp only at hp
        by_cases hc98 : (r93.1) = ((r96.1) : Int32)
        · rw [if_pos hc98] at hp
          exact p306_j2120_w F ((p306_L18 F n)) (ih) (r96.2) ((p207_w F (r93.2) (p122_w F (h) w (hI (h) (1) ((v3) + (1)).toNatClampNeg)  r93 hr94) (hI (r93.2) (1) ((v3) + (1)).toNatClampNeg)  r96 hr97)) (v3) _ hp
        · rw [if_neg hc98] at hp
          have hp := Option.some.inj hp
          subst hp
          exact ((p207_w F (r93.2) (p122_w F (h) w (hI (h) (1) ((v3) + (1)).toNatClampNeg)  r93 hr94) (hI (r93.2) (1) ((v3) + (1)).toNatClampNeg)  r96 hr97))
      rw [if_neg hc91] at hp
      by_cases hc99 : ((hI (h) (1) (v3).toNatClampNeg) &&& (63)) = (9 : Int32)
      · rw [if_pos hc99] at hp
        obtain ⟨r100, hr101, hp⟩ := bind_some hp
        try dsimp only at hp
        obtain ⟨r102, hr103, hp⟩ := bind_some hp
        try dsimp only at hp
        by_cases hc104 : (r100.1) = ((r102.1) : Int32)
        · rw [if_pos hc104] at hp
          exact p306_j2120_w F ((p306_L18 F n)) (ih) (r102.2) ((p204_w (r100.2) (p123_w (h) w  r100 hr101)  r102 hr103)) (v3) _ hp
        · rw [if_neg hc104] at hp
          have hp := Option.some.inj hp
          subst hp
          exact ((p204_w (r100.2) (p123_w (h) w  r100 hr101)  r102 hr103))
      rw [if_neg hc99] at hp
      by_cases hc105 : ((hI (h) (1) (v3).toNatClampNeg) &&& (63)) = (10 : Int32)
      · rw [if_pos hc105] at hp
        by_cases hg106 : ((v3) + (1)) < (0 : Int32) ∨ hN (h) (1) ≤ ((v3) + (1)).toNatClampNeg
        · rw [if_pos hg106] at hp; cases hp
        rw [if_neg hg106] at hp
        obtain ⟨r107, hr108, hp⟩ := bind_some hp
        try dsimp only at hp
        by_cases hg109 : ((v3) + (1)) < (0 : Int32) ∨ hN (r107.2) (1) ≤ ((v3) + (1)).toNatClampNeg
        · rw [if_pos hg109] at hp; cases hp
        rw [if_neg hg109] at hp
        obtain ⟨r110, hr111, hp⟩ := bind_some hp
        try dsimp only at hp
        by_cases hc112 : (r107.1) = ((r110.1) : Int32)
        · rw [if_pos hc112] at hp
          exact p306_j2120_w F ((p306_L18 F n)) (ih) (r110.2) ((p208_w F (r107.2) (p124_w F (h) w (hI (h) (1) ((v3) + (1)).toNatClampNeg)  r107 hr108) (hI (r107.2) (1) ((v3) + (1)).toNatClampNeg)  r110 hr111)) (v3) _ hp
        · rw [if_neg hc112] at hp
          have hp := Option.some.inj hp
          subst hp
          exact ((p208_w F (r107.2) (p124_w F (h) w (hI (h) (1) ((v3) + (1)).toNatClampNeg)  r107 hr108) (hI (r107.2) (1) ((v3) + (1)).toNatClampNeg)  r110 hr111))
      rw [if_neg hc105] at hp
      by_cases hc113 : ((hI (h) (1) (v3).toNatClampNeg) &&& (63)) = (11 : Int32)
      · rw [if_pos hc113] at hp
        by_cases hg114 : ((v3) + (1)) < (0 : Int32) ∨ hN (h) (1) ≤ ((v3) + (1)).toNatClampNeg
        · rw [if_pos hg114] at hp; cases hp
        rw [if_neg hg114] at hp
        obtain ⟨r115, hr116, hp⟩ := bind_some hp
        try dsimp only at hp
        by_cases hg117 : ((v3) + (1)) < (0 : Int32) ∨ hN (r115.2) (1) ≤ ((v3) + (1)).toNatClampNeg
        · rw [if_pos hg117] at hp; cases hp
        rw [if_neg hg117] at hp
        obtain ⟨r118, hr119, hp⟩ := bind_some hp
        try dsimp only at hp
        by_cases hc120 : (r115.1) = ((r118.1) : Int32)
        · rw [if_pos hc120] at hp
          exact p306_j2120_w F ((p306_L18 F n)) (ih) (r118.2) ((p209_w (r115.2) (p125_w (h) w (hI (h) (1) ((v3) + (1)).toNatClampNeg)  r115 hr116) (hI (r115.2) (1) ((v3) + (1)).toNatClampNeg)  r118 hr119)) (v3) _ hp
        · rw [if_neg hc120] at hp
          have hp := Option.some.inj hp
          subst hp
          exact ((p209_w (r115.2) (p125_w (h) w (hI (h) (1) ((v3) + (1)).toNatClampNeg)  r115 hr116) (hI (r115.2) (1) ((v3) + (1)).toNatClampNeg)  r118 hr119))
      rw [if_neg hc113] at hp
      by_cases hc121 : ((hI (h) (1) (v3).toNatClampNeg) &&& (63)) = (12 : Int32)
      · rw [if_pos hc121] at hp
        by_cases hg122 : ((v3) + (1)) < (0 : Int32) ∨ hN (h) (1) ≤ ((v3) + (1)).toNatClampNeg
        · rw [if_pos hg122] at hp; cases hp
        rw [if_neg hg122] at hp
        by_cases hg123 : ((v3) + (2)) < (0 : Int32) ∨ hN (h) (1) ≤ ((v3) + (2)).toNatClampNeg
        · rw [if_pos hg123] at hp; cases hp
        rw [if_neg hg123] at hp
        obtain ⟨r124, hr125, hp⟩ := bind_some hp
        try dsimp only at hp
        by_cases hg126 : ((v3) + (1)) < (0 : Int32) ∨ hN (h) (1) ≤ ((v3) + (1)).toNatClampNeg
        · rw [if_pos hg126] at hp; cases hp
        rw [if_neg hg126] at hp
        by_cases hg127 : ((v3) + (2)) < (0 : Int32) ∨ hN (h) (1) ≤ ((v3) + (2)).toNatClampNeg
        · rw [if_pos hg127] at hp; cases hp
        rw [if_neg hg127] at hp
        obtain ⟨r128, hr129, hp⟩ := bind_some hp
        try dsimp only at hp
        by_cases hc130 : (r124) = ((r128) : Int32)
        · rw [if_pos hc130] at hp
          exact p306_j2120_w F ((p306_L18 F n)) (ih) (h) (w) (v3) _ hp
        · rw [if_neg hc130] at hp
          have hp := Option.some.inj hp
          subst hp
          exact (w)
      rw [if_neg hc121] at hp
      by_cases hc131 : ((hI (h) (1) (v3).toNatClampNeg) &&& (63)) = (13 : Int32)
      · rw [if_pos hc131] at hp
        by_cases hg132 : ((v3) + (1)) < (0 : Int32) ∨ hN (h) (1) ≤ ((v3) + (1)).toNatClampNeg
        · rw [if_pos hg132] at hp; cases hp
        rw [if_neg hg132] at hp
        obtain ⟨r133, hr134, hp⟩ := bind_some hp
        try dsimp only at hp
        by_cases hg135 : ((v3) + (1)) < (0 : Int32) ∨ hN (r133.2) (1) ≤ ((v3) + (1)).toNatClampNeg
        · rw [if_pos hg135] at hp; cases hp
        rw [if_neg hg135] at hp
        obtain ⟨r136, hr137, hp⟩ := bind_some hp
        try dsimp only at hp
        by_cases hc138 : (r133.1) = ((r136.1) : Int32)
        · rw [if_pos hc138] at hp
          exact p306_j2120_w F ((p306_L18 F n)) (ih) (r136.2) ((p212_w (r133.2) (p127_w (h) w (hI (h) (1) ((v3) + (1)).toNatClampNeg)  r133 hr134) (hI (r133.2) (1) ((v3) + (1)).toNatClampNeg)  r136 hr137)) (v3) _ hp
        · rw [if_neg hc138] at hp
          have hp := Option.some.inj hp
          subst hp
          exact ((p212_w (r133.2) (p127_w (h) w (hI (h) (1) ((v3) + (1)).toNatClampNeg)  r133 hr134) (hI (r133.2) (1) ((v3) + (1)).toNatClampNeg)  r136 hr137))
      rw [if_neg hc131] at hp
      by_cases hc139 : ((hI (h) (1) (v3).toNatClampNeg) &&& (63)) = (14 : Int32)
      · rw [if_pos hc139] at hp
        by_cases hg140 : ((v3) + (1)) < (0 : Int32) ∨ hN (h) (1) ≤ ((v3) + (1)).toNatClampNeg
        · rw [if_pos hg140] at hp; cases hp
        rw [if_neg hg140] at hp
        by_cases hg141 : ((v3) + (2)) < (0 : Int32) ∨ hN (h) (1) ≤ ((v3) + (2)).toNatClampNeg
        · rw [if_pos hg141] at hp; cases hp
        rw [if_neg hg141] at hp
        by_cases hg142 : ((v3) + (3)) < (0 : Int32) ∨ hN (h) (1) ≤ ((v3) + (3)).toNatClampNeg
        · rw [if_pos hg142] at hp; cases hp
        rw [if_neg hg142] at hp
        by_cases hg143 : ((v3) + (4)) < (0 : Int32) ∨ hN (h) (1) ≤ ((v3) + (4)).toNatClampNeg
        · rw [if_pos hg143] at hp; cases hp
        rw [if_neg hg143] at hp
        obtain ⟨r144, hr145, hp⟩ := bind_some hp
        try dsimp only at hp
        by_cases hg146 : ((v3) + (1)) < (0 : Int32) ∨ hN (r144.2) (1) ≤ ((v3) + (1)).toNatClampNeg
        · rw [if_pos hg146] at hp; cases hp
        rw [if_neg hg146] at hp
        by_cases hg147 : ((v3) + (2)) < (0 : Int32) ∨ hN (r144.2) (1) ≤ ((v3) + (2)).toNatClampNeg
        · rw [if_pos hg147] at hp; cases hp
        rw [if_neg hg147] at hp
        by_cases hg148 : ((v3) + (3)) < (0 : Int32) ∨ hN (r144.2) (1) ≤ ((v3) + (3)).toNatClampNeg
        · rw [if_pos hg148] at hp; cases hp
        rw [if_neg hg148] at hp
        by_cases hg149 : ((v3) + (4)) < (0 : Int32) ∨ hN (r144.2) (1) ≤ ((v3) + (4)).toNatClampNeg
        · rw [if_pos hg149] at hp; cases hp
        rw [if_neg hg149] at hp
        obtain ⟨r150, hr151, hp⟩ := bind_some hp
        try dsimp only at hp
        by_cases hc152 : (r144.1) = ((r150.1) : Int32)
        · rw [if_pos hc152] at hp
          exact p306_j2120_w F ((p306_L18 F n)) (ih) (r150.2) ((p214_w (r144.2) (p128_w (h) w (hI (h) (1) ((v3) + (1)).toNatClampNeg) (hI (h) (1) ((v3) + (2)).toNatClampNeg) (hI (h) (1) ((v3) + (3)).toNatClampNeg) (hI (h) (1) ((v3) + (4)).toNatClampNeg)  r144 hr145) (hI (r144.2) (1) ((v3) + (1)).toNatClampNeg) (hI (r144.2) (1) ((v3) + (2)).toNatClampNeg) (hI (r144.2) (1) ((v3) + (3)).toNatClampNeg) (hI (r144.2) (1) ((v3) + (4)).toNatClampNeg)  r150 hr151)) (v3) _ hp
        · rw [if_neg hc152] at hp
          have hp := Option.some.inj hp
          subst hp
          exact ((p214_w (r144.2) (p128_w (h) w (hI (h) (1) ((v3) + (1)).toNatClampNeg) (hI (h) (1) ((v3) + (2)).toNatClampNeg) (hI (h) (1) ((v3) + (3)).toNatClampNeg) (hI (h) (1) ((v3) + (4)).toNatClampNeg)  r144 hr145) (hI (r144.2) (1) ((v3) + (1)).toNatClampNeg) (hI (r144.2) (1) ((v3) + (2)).toNatClampNeg) (hI (r144.2) (1) ((v3) + (3)).toNatClampNeg) (hI (r144.2) (1) ((v3) + (4)).toNatClampNeg)  r150 hr151))
      rw [if_neg hc139] at hp
      by_cases hc153 : ((hI (h) (1) (v3).toNatClampNeg) &&& (63)) = (15 : Int32)
      · rw [if_pos hc153] at hp
        by_cases hg154 : ((v3) + (1)) < (0 : Int32) ∨ hN (h) (1) ≤ ((v3) + (1)).toNatClampNeg
        · rw [if_pos hg154] at hp; cases hp
        rw [if_neg hg154] at hp
        obtain ⟨r155, hr156, hp⟩ := bind_some hp
        try dsimp only at hp
        by_cases hg157 : ((v3) + (1)) < (0 : Int32) ∨ hN (r155.2) (1) ≤ ((v3) + (1)).toNatClampNeg
        · rw [if_pos hg157] at hp; cases hp
        rw [if_neg hg157] at hp
        obtain ⟨r158, hr159, hp⟩ := bind_some hp
        try dsimp only at hp
        by_cases hc160 : (r155.1) = ((r158.1) : Int32)
        · rw [if_pos hc160] at hp
          exact p306_j2120_w F ((p306_L18 F n)) (ih) (r158.2) ((p215_w (r155.2) (p129_w (h) w (hI (h) (1) ((v3) + (1)).toNatClampNeg)  r155 hr156) (hI (r155.2) (1) ((v3) + (1)).toNatClampNeg)  r158 hr159)) (v3) _ hp
        · rw [if_neg hc160] at hp
          have hp := Option.some.inj hp
          subst hp
          exact ((p215_w (r155.2) (p129_w (h) w (hI (h) (1) ((v3) + (1)).toNatClampNeg)  r155 hr156) (hI (r155.2) (1) ((v3) + (1)).toNatClampNeg)  r158 hr159))
      rw [if_neg hc153] at hp
      by_cases hc161 : ((hI (h) (1) (v3).toNatClampNeg) &&& (63)) = (16 : Int32)
      · rw [if_pos hc161] at hp
        by_cases hg162 : ((v3) + (1)) < (0 : Int32) ∨ hN (h) (1) ≤ ((v3) + (1)).toNatClampNeg
        · rw [if_pos hg162] at hp; cases hp
        rw [if_neg hg162] at hp
        obtain ⟨r163, hr164, hp⟩ := bind_some hp
        try dsimp only at hp
        by_cases hg165 : ((v3) + (1)) < (0 : Int32) ∨ hN (r163.2) (1) ≤ ((v3) + (1)).toNatClampNeg
        · rw [if_pos hg165] at hp; cases hp
        rw [if_neg hg165] at hp
        obtain ⟨r166, hr167, hp⟩ := bind_some hp
        try dsimp only at hp
        by_cases hc168 : (r163.1) = ((r166.1) : Int32)
        · rw [if_pos hc168] at hp
          exact p306_j2120_w F ((p306_L18 F n)) (ih) (r166.2) ((p217_w (r163.2) (p130_w (h) w (hI (h) (1) ((v3) + (1)).toNatClampNeg)  r163 hr164) (hI (r163.2) (1) ((v3) + (1)).toNatClampNeg)  r166 hr167)) (v3) _ hp
        · rw [if_neg hc168] at hp
          have hp := Option.some.inj hp
          subst hp
          exact ((p217_w (r163.2) (p130_w (h) w (hI (h) (1) ((v3) + (1)).toNatClampNeg)  r163 hr164) (hI (r163.2) (1) ((v3) + (1)).toNatClampNeg)  r166 hr167))
      rw [if_neg hc161] at hp
      by_cases hc169 : ((hI (h) (1) (v3).toNatClampNeg) &&& (63)) = (17 : Int32)
      · rw [if_pos hc169] at hp
        by_cases hg170 : ((v3) + (1)) < (0 : Int32) ∨ hN (h) (1) ≤ ((v3) + (1)).toNatClampNeg
        · rw [if_pos hg170] at hp; cases hp
        rw [if_neg hg170] at hp
        by_cases hg171 : ((v3) + (2)) < (0 : Int32) ∨ hN (h) (1) ≤ ((v3) + (2)).toNatClampNeg
        · rw [if_pos hg171] at hp; cases hp
        rw [if_neg hg171] at hp
        by_cases hg172 : ((v3) + (3)) < (0 : Int32) ∨ hN (h) (1) ≤ ((v3) + (3)).toNatClampNeg
        · rw [if_pos hg172] at hp; cases hp
        rw [if_neg hg172] at hp
        by_cases hg173 : ((v3) + (4)) < (0 : Int32) ∨ hN (h) (1) ≤ ((v3) + (4)).toNatClampNeg
        · rw [if_pos hg173] at hp; cases hp
        rw [if_neg hg173] at hp
        by_cases hg174 : ((v3) + (5)) < (0 : Int32) ∨ hN (h) (1) ≤ ((v3) + (5)).toNatClampNeg
        · rw [if_pos hg174] at hp; cases hp
        rw [if_neg hg174] at hp
        by_cases hg175 : ((v3) + (6)) < (0 : Int32) ∨ hN (h) (1) ≤ ((v3) + (6)).toNatClampNeg
        · rw [if_pos hg175] at hp; cases hp
        rw [if_neg hg175] at hp
        by_cases hg176 : ((v3) + (7)) < (0 : Int32) ∨ hN (h) (1) ≤ ((v3) + (7)).toNatClampNeg
        · rw [if_pos hg176] at hp; cases hp
        rw [if_neg hg176] at hp
        obtain ⟨r177, hr178, hp⟩ := bind_some hp
        try dsimp only at hp
        by_cases hg179 : ((v3) + (1)) < (0 : Int32) ∨ hN (r177.2) (1) ≤ ((v3) + (1)).toNatClampNeg
        · rw [if_pos hg179] at hp; cases hp
        rw [if_neg hg179] at hp
        by_cases hg180 : ((v3) + (2)) < (0 : Int32) ∨ hN (r177.2) (1) ≤ ((v3) + (2)).toNatClampNeg
        · rw [if_pos hg180] at hp; cases hp
        rw [if_neg hg180] at hp
        by_cases hg181 : ((v3) + (3)) < (0 : Int32) ∨ hN (r177.2) (1) ≤ ((v3) + (3)).toNatClampNeg
        · rw [if_pos hg181] at hp; cases hp
        rw [if_neg hg181] at hp
        by_cases hg182 : ((v3) + (4)) < (0 : Int32) ∨ hN (r177.2) (1) ≤ ((v3) + (4)).toNatClampNeg
        · rw [if_pos hg182] at hp; cases hp
        rw [if_neg hg182] at hp
        by_cases hg183 : ((v3) + (5)) < (0 : Int32) ∨ hN (r177.2) (1) ≤ ((v3) + (5)).toNatClampNeg
        · rw [if_pos hg183] at hp; cases hp
        rw [if_neg hg183] at hp
        by_cases hg184 : ((v3) + (6)) < (0 : Int32) ∨ hN (r177.2) (1) ≤ ((v3) + (6)).toNatClampNeg
        · rw [if_pos hg184] at hp; cases hp
        rw [if_neg hg184] at hp
        by_cases hg185 : ((v3) + (7)) < (0 : Int32) ∨ hN (r177.2) (1) ≤ ((v3) + (7)).toNatClampNeg
        · rw [if_pos hg185] at hp; cases hp
        rw [if_neg hg185] at hp
        obtain ⟨r186, hr187, hp⟩ := bind_some hp
        try dsimp only at hp
        by_cases hc188 : (r177.1) = ((r186.1) : Int32)
        · rw [if_pos hc188] at hp
          exact p306_j2120_w F ((p306_L18 F n)) (ih) (r186.2) ((p219_w (r177.2) (p131_w (h) w (hI (h) (1) ((v3) + (1)).toNatClampNeg) (hI (h) (1) ((v3) + (2)).toNatClampNeg) (hI (h) (1) ((v3) + (3)).toNatClampNeg) (hI (h) (1) ((v3) + (4)).toNatClampNeg) (hI (h) (1) ((v3) + (5)).toNatClampNeg) (hI (h) (1) ((v3) + (6)).toNatClampNeg) (hI (h) (1) ((v3) + (7)).toNatClampNeg)  r177 hr178) (hI (r177.2) (1) ((v3) + (1)).toNatClampNeg) (hI (r177.2) (1) ((v3) + (2)).toNatClampNeg) (hI (r177.2) (1) ((v3) + (3)).toNatClampNeg) (hI (r177.2) (1) ((v3) + (4)).toNatClampNeg) (hI (r177.2) (1) ((v3) + (5)).toNatClampNeg) (hI (r177.2) (1) ((v3) + (6)).toNatClampNeg) (hI (r177.2) (1) ((v3) + (7)).toNatClampNeg)  r186 hr187)) (v3) _ hp
        · rw [if_neg hc188] at hp
          have hp := Option.some.inj hp
          subst hp
          exact ((p219_w (r177.2) (p131_w (h) w (hI (h) (1) ((v3) + (1)).toNatClampNeg) (hI (h) (1) ((v3) + (2)).toNatClampNeg) (hI (h) (1) ((v3) + (3)).toNatClampNeg) (hI (h) (1) ((v3) + (4)).toNatClampNeg) (hI (h) (1) ((v3) + (5)).toNatClampNeg) (hI (h) (1) ((v3) + (6)).toNatClampNeg) (hI (h) (1) ((v3) + (7)).toNatClampNeg)  r177 hr178) (hI (r177.2) (1) ((v3) + (1)).toNatClampNeg) (hI (r177.2) (1) ((v3) + (2)).toNatClampNeg) (hI (r177.2) (1) ((v3) + (3)).toNatClampNeg) (hI (r177.2) (1) ((v3) + (4)).toNatClampNeg) (hI (r177.2) (1) ((v3) + (5)).toNatClampNeg) (hI (r177.2) (1) ((v3) + (6)).toNatClampNeg) (hI (r177.2) (1) ((v3) + (7)).toNatClampNeg)  r186 hr187))
      rw [if_neg hc169] at hp
      by_cases hc189 : ((hI (h) (1) (v3).toNatClampNeg) &&& (63)) = (18 : Int32)
      · rw [if_pos hc189] at hp
        by_cases hg190 : ((v3) + (1)) < (0 : Int32) ∨ hN (h) (1) ≤ ((v3) + (1)).toNatClampNeg
        · rw [if_pos hg190] at hp; cases hp
        rw [if_neg hg190] at hp
        obtain ⟨r191, hr192, hp⟩ := bind_some hp
        try dsimp only at hp
        by_cases hg193 : ((v3) + (1)) < (0 : Int32) ∨ hN (r191.2) (1) ≤ ((v3) + (1)).toNatClampNeg
        · rw [if_pos hg193] at hp; cases hp
        rw [if_neg hg193] at hp
        obtain ⟨r194, hr195, hp⟩ := bind_some hp
        try dsimp only at hp
        by_cases hc196 : (r191.1) = ((r194.1) : Int32)
        · rw [if_pos hc196] at hp
          exact p306_j2120_w F ((p306_L18 F n)) (ih) (r194.2) ((p221_w (r191.2) (p132_w (h) w (hI (h) (1) ((v3) + (1)).toNatClampNeg)  r191 hr192) (hI (r191.2) (1) ((v3) + (1)).toNatClampNeg)  r194 hr195)) (v3) _ hp
        · rw [if_neg hc196] at hp
          have hp := Option.some.inj hp
          subst hp
          exact ((p221_w (r191.2) (p132_w (h) w (hI (h) (1) ((v3) + (1)).toNatClampNeg)  r191 hr192) (hI (r191.2) (1) ((v3) + (1)).toNatClampNeg)  r194 hr195))
      rw [if_neg hc189] at hp
      by_cases hc197 : ((hI (h) (1) (v3).toNatClampNeg) &&& (63)) = (19 : Int32)
      · rw [if_pos hc197] at hp
        by_cases hg198 : ((v3) + (1)) < (0 : Int32) ∨ hN (h) (1) ≤ ((v3) + (1)).toNatClampNeg
        · rw [if_pos hg198] at hp; cases hp
        rw [if_neg hg198] at hp
        by_cases hg199 : ((v3) + (2)) < (0 : Int32) ∨ hN (h) (1) ≤ ((v3) + (2)).toNatClampNeg
        · rw [if_pos hg199] at hp; cases hp
        rw [if_neg hg199] at hp
        obtain ⟨r200, hr201, hp⟩ := bind_some hp
        try dsimp only at hp
        by_cases hg202 : ((v3) + (1)) < (0 : Int32) ∨ hN (h) (1) ≤ ((v3) + (1)).toNatClampNeg
        · rw [if_pos hg202] at hp; cases hp
        rw [if_neg hg202] at hp
        by_cases hg203 : ((v3) + (2)) < (0 : Int32) ∨ hN (h) (1) ≤ ((v3) + (2)).toNatClampNeg
        · rw [if_pos hg203] at hp; cases hp
        rw [if_neg hg203] at hp
        obtain ⟨r204, hr205, hp⟩ := bind_some hp
        try dsimp only at hp
        by_cases hc206 : (r200) = ((r204) : Int32)
        · rw [if_pos hc206] at hp
          exact p306_j2120_w F ((p306_L18 F n)) (ih) (h) (w) (v3) _ hp
        · rw [if_neg hc206] at hp
          have hp := Option.some.inj hp
          subst hp
          exact (w)
      rw [if_neg hc197] at hp
      by_cases hc207 : ((hI (h) (1) (v3).toNatClampNeg) &&& (63)) = (20 : Int32)
      · rw [if_pos hc207] at hp
        by_cases hg208 : ((v3) + (1)) < (0 : Int32) ∨ hN (h) (1) ≤ ((v3) + (1)).toNatClampNeg
        · rw [if_pos hg208] at hp; cases hp
        rw [if_neg hg208] at hp
        by_cases hg209 : ((v3) + (2)) < (0 : Int32) ∨ hN (h) (1) ≤ ((v3) + (2)).toNatClampNeg
        · rw [if_pos hg209] at hp; cases hp
        rw [if_neg hg209] at hp
        by_cases hg210 : ((v3) + (3)) < (0 : Int32) ∨ hN (h) (1) ≤ ((v3) + (3)).toNatClampNeg
        · rw [if_pos hg210] at hp; cases hp
        rw [if_neg hg210] at hp
        obtain ⟨r211, hr212, hp⟩ := bind_some hp
        try dsimp only at hp
        by_cases hg213 : ((v3) + (1)) < (0 : Int32) ∨ hN (h) (1) ≤ ((v3) + (1)).toNatClampNeg
        · rw [if_pos hg213] at hp; cases hp
        rw [if_neg hg213] at hp
        by_cases hg214 : ((v3) + (2)) < (0 : Int32) ∨ hN (h) (1) ≤ ((v3) + (2)).toNatClampNeg
        · rw [if_pos hg214] at hp; cases hp
        rw [if_neg hg214] at hp
        by_cases hg215 : ((v3) + (3)) < (0 : Int32) ∨ hN (h) (1) ≤ ((v3) + (3)).toNatClampNeg
        · rw [if_pos hg215] at hp; cases hp
        rw [if_neg hg215] at hp
        obtain ⟨r216, hr217, hp⟩ := bind_some hp
        try dsimp only at hp
        by_cases hc218 : (r211) = ((r216) : Int32)
        · rw [if_pos hc218] at hp
          exact p306_j2120_w F ((p306_L18 F n)) (ih) (h) (w) (v3) _ hp
        · rw [if_neg hc218] at hp
          have hp := Option.some.inj hp
          subst hp
          exact (w)
      rw [if_neg hc207] at hp
      by_cases hc219 : ((hI (h) (1) (v3).toNatClampNeg) &&& (63)) = (21 : Int32)
      · rw [if_pos hc219] at hp
        by_cases hg220 : ((v3) + (1)) < (0 : Int32) ∨ hN (h) (1) ≤ ((v3) + (1)).toNatClampNeg
        · rw [if_pos hg220] at hp; cases hp
        rw [if_neg hg220] at hp
        by_cases hg221 : ((v3) + (2)) < (0 : Int32) ∨ hN (h) (1) ≤ ((v3) + (2)).toNatClampNeg
        · rw [if_pos hg221] at hp; cases hp
        rw [if_neg hg221] at hp
        by_cases hg222 : ((v3) + (3)) < (0 : Int32) ∨ hN (h) (1) ≤ ((v3) + (3)).toNatClampNeg
        · rw [if_pos hg222] at hp; cases hp
        rw [if_neg hg222] at hp
        obtain ⟨r223, hr224, hp⟩ := bind_some hp
        try dsimp only at hp
        by_cases hg225 : ((v3) + (1)) < (0 : Int32) ∨ hN (h) (1) ≤ ((v3) + (1)).toNatClampNeg
        · rw [if_pos hg225] at hp; cases hp
        rw [if_neg hg225] at hp
        by_cases hg226 : ((v3) + (2)) < (0 : Int32) ∨ hN (h) (1) ≤ ((v3) + (2)).toNatClampNeg
        · rw [if_pos hg226] at hp; cases hp
        rw [if_neg hg226] at hp
        by_cases hg227 : ((v3) + (3)) < (0 : Int32) ∨ hN (h) (1) ≤ ((v3) + (3)).toNatClampNeg
        · rw [if_pos hg227] at hp; cases hp
        rw [if_neg hg227] at hp
        obtain ⟨r228, hr229, hp⟩ := bind_some hp
        try dsimp only at hp
        by_cases hc230 : (r223) = ((r228) : Int32)
        · rw [if_pos hc230] at hp
          exact p306_j2120_w F ((p306_L18 F n)) (ih) (h) (w) (v3) _ hp
        · rw [if_neg hc230] at hp
          have hp := Option.some.inj hp
          subst hp
          exact (w)
      rw [if_neg hc219] at hp
      by_cases hc231 : ((hI (h) (1) (v3).toNatClampNeg) &&& (63)) = (22 : Int32)
      · rw [if_pos hc231] at hp
        by_cases hg232 : ((v3) + (1)) < (0 : Int32) ∨ hN (h) (1) ≤ ((v3) + (1)).toNatClampNeg
        · rw [if_pos hg232] at hp; cases hp
        rw [if_neg hg232] at hp
        by_cases hg233 : ((v3) + (2)) < (0 : Int32) ∨ hN (h) (1) ≤ ((v3) + (2)).toNatClampNeg
        · rw [if_pos hg233] at hp; cases hp
        rw [if_neg hg233] at hp
        obtain ⟨r234, hr235, hp⟩ := bind_some hp
        try dsimp only at hp
        by_cases hg236 : ((v3) + (1)) < (0 : Int32) ∨ hN (h) (1) ≤ ((v3) + (1)).toNatClampNeg
        · rw [if_pos hg236] at hp; cases hp
        rw [if_neg hg236] at hp
        by_cases hg237 : ((v3) + (2)) < (0 : Int32) ∨ hN (h) (1) ≤ ((v3) + (2)).toNatClampNeg
        · rw [if_pos hg237] at hp; cases hp
        rw [if_neg hg237] at hp
        obtain ⟨r238, hr239, hp⟩ := bind_some hp
        try dsimp only at hp
        by_cases hc240 : (r234) = ((r238) : Int32)
        · rw [if_pos hc240] at hp
          exact p306_j2120_w F ((p306_L18 F n)) (ih) (h) (w) (v3) _ hp
        · rw [if_neg hc240] at hp
          have hp := Option.some.inj hp
          subst hp
          exact (w)
      rw [if_neg hc231] at hp
      by_cases hc241 : ((hI (h) (1) (v3).toNatClampNeg) &&& (63)) = (23 : Int32)
      · rw [if_pos hc241] at hp
        by_cases hg242 : ((v3) + (1)) < (0 : Int32) ∨ hN (h) (1) ≤ ((v3) + (1)).toNatClampNeg
        · rw [if_pos hg242] at hp; cases hp
        rw [if_neg hg242] at hp
        obtain ⟨r243, hr244, hp⟩ := bind_some hp
        try dsimp only at hp
        by_cases hg245 : ((v3) + (1)) < (0 : Int32) ∨ hN (r243.2) (1) ≤ ((v3) + (1)).toNatClampNeg
        · rw [if_pos hg245] at hp; cases hp
        rw [if_neg hg245] at hp
        obtain ⟨r246, hr247, hp⟩ := bind_some hp
        try dsimp only at hp
        by_cases hc248 : (r243.1) = ((r246.1) : Int32)
        · rw [if_pos hc248] at hp
          exact p306_j2120_w F ((p306_L18 F n)) (ih) (r246.2) ((p234_w F (r243.2) (p137_w F (h) w (hI (h) (1) ((v3) + (1)).toNatClampNeg)  r243 hr244) (hI (r243.2) (1) ((v3) + (1)).toNatClampNeg)  r246 hr247)) (v3) _ hp
        · rw [if_neg hc248] at hp
          have hp := Option.some.inj hp
          subst hp
          exact ((p234_w F (r243.2) (p137_w F (h) w (hI (h) (1) ((v3) + (1)).toNatClampNeg)  r243 hr244) (hI (r243.2) (1) ((v3) + (1)).toNatClampNeg)  r246 hr247))
      rw [if_neg hc241] at hp
      by_cases hc249 : ((hI (h) (1) (v3).toNatClampNeg) &&& (63)) = (24 : Int32)
      · rw [if_pos hc249] at hp
        by_cases hg250 : ((v3) + (1)) < (0 : Int32) ∨ hN (h) (1) ≤ ((v3) + (1)).toNatClampNeg
        · rw [if_pos hg250] at hp; cases hp
        rw [if_neg hg250] at hp
        by_cases hg251 : ((v3) + (2)) < (0 : Int32) ∨ hN (h) (1) ≤ ((v3) + (2)).toNatClampNeg
        · rw [if_pos hg251] at hp; cases hp
        rw [if_neg hg251] at hp
        by_cases hg252 : ((v3) + (3)) < (0 : Int32) ∨ hN (h) (1) ≤ ((v3) + (3)).toNatClampNeg
        · rw [if_pos hg252] at hp; cases hp
        rw [if_neg hg252] at hp
        obtain ⟨r253, hr254, hp⟩ := bind_some hp
        try dsimp only at hp
        by_cases hg255 : ((v3) + (1)) < (0 : Int32) ∨ hN (h) (1) ≤ ((v3) + (1)).toNatClampNeg
        · rw [if_pos hg255] at hp; cases hp
        rw [if_neg hg255] at hp
        by_cases hg256 : ((v3) + (2)) < (0 : Int32) ∨ hN (h) (1) ≤ ((v3) + (2)).toNatClampNeg
        · rw [if_pos hg256] at hp; cases hp
        rw [if_neg hg256] at hp
        by_cases hg257 : ((v3) + (3)) < (0 : Int32) ∨ hN (h) (1) ≤ ((v3) + (3)).toNatClampNeg
        · rw [if_pos hg257] at hp; cases hp
        rw [if_neg hg257] at hp
        obtain ⟨r258, hr259, hp⟩ := bind_some hp
        try dsimp only at hp
        by_cases hc260 : (r253) = ((r258) : Int32)
        · rw [if_pos hc260] at hp
          exact p306_j2120_w F ((p306_L18 F n)) (ih) (h) (w) (v3) _ hp
        · rw [if_neg hc260] at hp
          have hp := Option.some.inj hp
          subst hp
          exact (w)
      rw [if_neg hc249] at hp
      by_cases hc261 : ((hI (h) (1) (v3).toNatClampNeg) &&& (63)) = (25 : Int32)
      · rw [if_pos hc261] at hp
        by_cases hg262 : ((v3) + (1)) < (0 : Int32) ∨ hN (h) (1) ≤ ((v3) + (1)).toNatClampNeg
        · rw [if_pos hg262] at hp; cases hp
        rw [if_neg hg262] at hp
        by_cases hg263 : ((v3) + (2)) < (0 : Int32) ∨ hN (h) (1) ≤ ((v3) + (2)).toNatClampNeg
        · rw [if_pos hg263] at hp; cases hp
        rw [if_neg hg263] at hp
        obtain ⟨r264, hr265, hp⟩ := bind_some hp
        try dsimp only at hp
        by_cases hg266 : ((v3) + (1)) < (0 : Int32) ∨ hN (r264.2) (1) ≤ ((v3) + (1)).toNatClampNeg
        · rw [if_pos hg266] at hp; cases hp
        rw [if_neg hg266] at hp
        by_cases hg267 : ((v3) + (2)) < (0 : Int32) ∨ hN (r264.2) (1) ≤ ((v3) + (2)).toNatClampNeg
        · rw [if_pos hg267] at hp; cases hp
        rw [if_neg hg267] at hp
        obtain ⟨r268, hr269, hp⟩ := bind_some hp
        try dsimp only at hp
        by_cases hc270 : (r264.1) = ((r268.1) : Int32)
        · rw [if_pos hc270] at hp
          exact p306_j2120_w F ((p306_L18 F n)) (ih) (r268.2) ((p238_w (r264.2) (p139_w (h) w (hI (h) (1) ((v3) + (1)).toNatClampNeg) (hI (h) (1) ((v3) + (2)).toNatClampNeg)  r264 hr265) (hI (r264.2) (1) ((v3) + (1)).toNatClampNeg) (hI (r264.2) (1) ((v3) + (2)).toNatClampNeg)  r268 hr269)) (v3) _ hp
        · rw [if_neg hc270] at hp
          have hp := Option.some.inj hp
          subst hp
          exact ((p238_w (r264.2) (p139_w (h) w (hI (h) (1) ((v3) + (1)).toNatClampNeg) (hI (h) (1) ((v3) + (2)).toNatClampNeg)  r264 hr265) (hI (r264.2) (1) ((v3) + (1)).toNatClampNeg) (hI (r264.2) (1) ((v3) + (2)).toNatClampNeg)  r268 hr269))
      rw [if_neg hc261] at hp
      by_cases hc271 : ((hI (h) (1) (v3).toNatClampNeg) &&& (63)) = (26 : Int32)
      · rw [if_pos hc271] at hp
        by_cases hg272 : ((v3) + (1)) < (0 : Int32) ∨ hN (h) (1) ≤ ((v3) + (1)).toNatClampNeg
        · rw [if_pos hg272] at hp; cases hp
        rw [if_neg hg272] at hp
        by_cases hg273 : ((v3) + (2)) < (0 : Int32) ∨ hN (h) (1) ≤ ((v3) + (2)).toNatClampNeg
        · rw [if_pos hg273] at hp; cases hp
        rw [if_neg hg273] at hp
        by_cases hg274 : ((v3) + (3)) < (0 : Int32) ∨ hN (h) (1) ≤ ((v3) + (3)).toNatClampNeg
        · rw [if_pos hg274] at hp; cases hp
        rw [if_neg hg274] at hp
        by_cases hg275 : ((v3) + (4)) < (0 : Int32) ∨ hN (h) (1) ≤ ((v3) + (4)).toNatClampNeg
        · rw [if_pos hg275] at hp; cases hp
        rw [if_neg hg275] at hp
        obtain ⟨r276, hr277, hp⟩ := bind_some hp
        try dsimp only at hp
        by_cases hg278 : ((v3) + (1)) < (0 : Int32) ∨ hN (r276.2) (1) ≤ ((v3) + (1)).toNatClampNeg
        · rw [if_pos hg278] at hp; cases hp
        rw [if_neg hg278] at hp
        by_cases hg279 : ((v3) + (2)) < (0 : Int32) ∨ hN (r276.2) (1) ≤ ((v3) + (2)).toNatClampNeg
        · rw [if_pos hg279] at hp; cases hp
        rw [if_neg hg279] at hp
        by_cases hg280 : ((v3) + (3)) < (0 : Int32) ∨ hN (r276.2) (1) ≤ ((v3) + (3)).toNatClampNeg
        · rw [if_pos hg280] at hp; cases hp
        rw [if_neg hg280] at hp
        by_cases hg281 : ((v3) + (4)) < (0 : Int32) ∨ hN (r276.2) (1) ≤ ((v3) + (4)).toNatClampNeg
        · rw [if_pos hg281] at hp; cases hp
        rw [if_neg hg281] at hp
        obtain ⟨r282, hr283, hp⟩ := bind_some hp
        try dsimp only at hp
        by_cases hc284 : (r276.1) = ((r282.1) : Int32)
        · rw [if_pos hc284] at hp
          exact p306_j2120_w F ((p306_L18 F n)) (ih) (r282.2) ((p239_w (r276.2) (p140_w (h) w (hI (h) (1) ((v3) + (1)).toNatClampNeg) (hI (h) (1) ((v3) + (2)).toNatClampNeg) (hI (h) (1) ((v3) + (3)).toNatClampNeg) (hI (h) (1) ((v3) + (4)).toNatClampNeg)  r276 hr277) (hI (r276.2) (1) ((v3) + (1)).toNatClampNeg) (hI (r276.2) (1) ((v3) + (2)).toNatClampNeg) (hI (r276.2) (1) ((v3) + (3)).toNatClampNeg) (hI (r276.2) (1) ((v3) + (4)).toNatClampNeg)  r282 hr283)) (v3) _ hp
        · rw [if_neg hc284] at hp
          have hp := Option.some.inj hp
          subst hp
          exact ((p239_w (r276.2) (p140_w (h) w (hI (h) (1) ((v3) + (1)).toNatClampNeg) (hI (h) (1) ((v3) + (2)).toNatClampNeg) (hI (h) (1) ((v3) + (3)).toNatClampNeg) (hI (h) (1) ((v3) + (4)).toNatClampNeg)  r276 hr277) (hI (r276.2) (1) ((v3) + (1)).toNatClampNeg) (hI (r276.2) (1) ((v3) + (2)).toNatClampNeg) (hI (r276.2) (1) ((v3) + (3)).toNatClampNeg) (hI (r276.2) (1) ((v3) + (4)).toNatClampNeg)  r282 hr283))
      rw [if_neg hc271] at hp
      by_cases hc285 : ((hI (h) (1) (v3).toNatClampNeg) &&& (63)) = (27 : Int32)
      · rw [if_pos hc285] at hp
        by_cases hg286 : ((v3) + (1)) < (0 : Int32) ∨ hN (h) (1) ≤ ((v3) + (1)).toNatClampNeg
        · rw [if_pos hg286] at hp; cases hp
        rw [if_neg hg286] at hp
        by_cases hg287 : ((v3) + (2)) < (0 : Int32) ∨ hN (h) (1) ≤ ((v3) + (2)).toNatClampNeg
        · rw [if_pos hg287] at hp; cases hp
        rw [if_neg hg287] at hp
        obtain ⟨r288, hr289, hp⟩ := bind_some hp
        try dsimp only at hp
        by_cases hg290 : ((v3) + (1)) < (0 : Int32) ∨ hN (h) (1) ≤ ((v3) + (1)).toNatClampNeg
        · rw [if_pos hg290] at hp; cases hp
        rw [if_neg hg290] at hp
        by_cases hg291 : ((v3) + (2)) < (0 : Int32) ∨ hN (h) (1) ≤ ((v3) + (2)).toNatClampNeg
        · rw [if_pos hg291] at hp; cases hp
        rw [if_neg hg291] at hp
        obtain ⟨r292, hr293, hp⟩ := bind_some hp
        try dsimp only at hp
        by_cases hc294 : (r288) = ((r292) : Int32)
        · rw [if_pos hc294] at hp
          exact p306_j2120_w F ((p306_L18 F n)) (ih) (h) (w) (v3) _ hp
        · rw [if_neg hc294] at hp
          have hp := Option.some.inj hp
          subst hp
          exact (w)
      rw [if_neg hc285] at hp
      by_cases hc295 : ((hI (h) (1) (v3).toNatClampNeg) &&& (63)) = (28 : Int32)
      · rw [if_pos hc295] at hp
        by_cases hg296 : ((v3) + (1)) < (0 : Int32) ∨ hN (h) (1) ≤ ((v3) + (1)).toNatClampNeg
        · rw [if_pos hg296] at hp; cases hp
        rw [if_neg hg296] at hp
        by_cases hg297 : ((v3) + (2)) < (0 : Int32) ∨ hN (h) (1) ≤ ((v3) + (2)).toNatClampNeg
        · rw [if_pos hg297] at hp; cases hp
        rw [if_neg hg297] at hp
        by_cases hg298 : ((v3) + (3)) < (0 : Int32) ∨ hN (h) (1) ≤ ((v3) + (3)).toNatClampNeg
        · rw [if_pos hg298] at hp; cases hp
        rw [if_neg hg298] at hp
        by_cases hg299 : ((v3) + (4)) < (0 : Int32) ∨ hN (h) (1) ≤ ((v3) + (4)).toNatClampNeg
        · rw [if_pos hg299] at hp; cases hp
        rw [if_neg hg299] at hp
        by_cases hg300 : ((v3) + (5)) < (0 : Int32) ∨ hN (h) (1) ≤ ((v3) + (5)).toNatClampNeg
        · rw [if_pos hg300] at hp; cases hp
        rw [if_neg hg300] at hp
        obtain ⟨r301, hr302, hp⟩ := bind_some hp
        try dsimp only at hp
        by_cases hg303 : ((v3) + (1)) < (0 : Int32) ∨ hN (r301.2) (1) ≤ ((v3) + (1)).toNatClampNeg
        · rw [if_pos hg303] at hp; cases hp
        rw [if_neg hg303] at hp
        by_cases hg304 : ((v3) + (2)) < (0 : Int32) ∨ hN (r301.2) (1) ≤ ((v3) + (2)).toNatClampNeg
        · rw [if_pos hg304] at hp; cases hp
        rw [if_neg hg304] at hp
        by_cases hg305 : ((v3) + (3)) < (0 : Int32) ∨ hN (r301.2) (1) ≤ ((v3) + (3)).toNatClampNeg
        · rw [if_pos hg305] at hp; cases hp
        rw [if_neg hg305] at hp
        by_cases hg306 : ((v3) + (4)) < (0 : Int32) ∨ hN (r301.2) (1) ≤ ((v3) + (4)).toNatClampNeg
        · rw [if_pos hg306] at hp; cases hp
        rw [if_neg hg306] at hp
        by_cases hg307 : ((v3) + (5)) < (0 : Int32) ∨ hN (r301.2) (1) ≤ ((v3) + (5)).toNatClampNeg
        · rw [if_pos hg307] at hp; cases hp
        rw [if_neg hg307] at hp
        obtain ⟨r308, hr309, hp⟩ := bind_some hp
        try dsimp only at hp
        by_cases hc310 : (r301.1) = ((r308.1) : Int32)
        · rw [if_pos hc310] at hp
          exact p306_j2120_w F ((p306_L18 F n)) (ih) (r308.2) ((p241_w F (r301.2) (p142_w F (h) w (hI (h) (1) ((v3) + (1)).toNatClampNeg) (hI (h) (1) ((v3) + (2)).toNatClampNeg) (hI (h) (1) ((v3) + (3)).toNatClampNeg) (hI (h) (1) ((v3) + (4)).toNatClampNeg) (hI (h) (1) ((v3) + (5)).toNatClampNeg)  r301 hr302) (hI (r301.2) (1) ((v3) + (1)).toNatClampNeg) (hI (r301.2) (1) ((v3) + (2)).toNatClampNeg) (hI (r301.2) (1) ((v3) + (3)).toNatClampNeg) (hI (r301.2) (1) ((v3) + (4)).toNatClampNeg) (hI (r301.2) (1) ((v3) + (5)).toNatClampNeg)  r308 hr309)) (v3) _ hp
        · rw [if_neg hc310] at hp
          have hp := Option.some.inj hp
          subst hp
          exact ((p241_w F (r301.2) (p142_w F (h) w (hI (h) (1) ((v3) + (1)).toNatClampNeg) (hI (h) (1) ((v3) + (2)).toNatClampNeg) (hI (h) (1) ((v3) + (3)).toNatClampNeg) (hI (h) (1) ((v3) + (4)).toNatClampNeg) (hI (h) (1) ((v3) + (5)).toNatClampNeg)  r301 hr302) (hI (r301.2) (1) ((v3) + (1)).toNatClampNeg) (hI (r301.2) (1) ((v3) + (2)).toNatClampNeg) (hI (r301.2) (1) ((v3) + (3)).toNatClampNeg) (hI (r301.2) (1) ((v3) + (4)).toNatClampNeg) (hI (r301.2) (1) ((v3) + (5)).toNatClampNeg)  r308 hr309))
      rw [if_neg hc295] at hp
      by_cases hc311 : ((hI (h) (1) (v3).toNatClampNeg) &&& (63)) = (29 : Int32)
      · rw [if_pos hc311] at hp
        by_cases hg312 : ((v3) + (1)) < (0 : Int32) ∨ hN (h) (1) ≤ ((v3) + (1)).toNatClampNeg
        · rw [if_pos hg312] at hp; cases hp
        rw [if_neg hg312] at hp
        obtain ⟨r313, hr314, hp⟩ := bind_some hp
        try dsimp only at hp
        by_cases hg315 : ((v3) + (1)) < (0 : Int32) ∨ hN (r313.2) (1) ≤ ((v3) + (1)).toNatClampNeg
        · rw [if_pos hg315] at hp; cases hp
        rw [if_neg hg315] at hp
        obtain ⟨r316, hr317, hp⟩ := bind_some hp
        try dsimp only at hp
        by_cases hc318 : (r313.1) = ((r316.1) : Int32)
        · rw [if_pos hc318] at hp
          exact p306_j2120_w F ((p306_L18 F n)) (ih) (r316.2) ((p243_w (r313.2) (p143_w (h) w (hI (h) (1) ((v3) + (1)).toNatClampNeg)  r313 hr314) (hI (r313.2) (1) ((v3) + (1)).toNatClampNeg)  r316 hr317)) (v3) _ hp
        · rw [if_neg hc318] at hp
          have hp := Option.some.inj hp
          subst hp
          exact ((p243_w (r313.2) (p143_w (h) w (hI (h) (1) ((v3) + (1)).toNatClampNeg)  r313 hr314) (hI (r313.2) (1) ((v3) + (1)).toNatClampNeg)  r316 hr317))
      rw [if_neg hc311] at hp
      by_cases hc319 : ((hI (h) (1) (v3).toNatClampNeg) &&& (63)) = (30 : Int32)
      · rw [if_pos hc319] at hp
        by_cases hg320 : ((v3) + (1)) < (0 : Int32) ∨ hN (h) (1) ≤ ((v3) + (1)).toNatClampNeg
        · rw [if_pos hg320] at hp; cases hp
        rw [if_neg hg320] at hp
        obtain ⟨r321, hr322, hp⟩ := bind_some hp
        try dsimp only at hp
        by_cases hg323 : ((v3) + (1)) < (0 : Int32) ∨ hN (r321.2) (1) ≤ ((v3) + (1)).toNatClampNeg
        · rw [if_pos hg323] at hp; cases hp
        rw [if_neg hg323] at hp
        obtain ⟨r324, hr325, hp⟩ := bind_some hp
        try dsimp only at hp
        by_cases hc326 : (r321.1) = ((r324.1) : Int32)
        · rw [if_pos hc326] at hp
          exact p306_j2120_w F ((p306_L18 F n)) (ih) (r324.2) ((p267_w F (r321.2) (p144_w F (h) w (hI (h) (1) ((v3) + (1)).toNatClampNeg)  r321 hr322) (hI (r321.2) (1) ((v3) + (1)).toNatClampNeg)  r324 hr325)) (v3) _ hp
        · rw [if_neg hc326] at hp
          have hp := Option.some.inj hp
          subst hp
          exact ((p267_w F (r321.2) (p144_w F (h) w (hI (h) (1) ((v3) + (1)).toNatClampNeg)  r321 hr322) (hI (r321.2) (1) ((v3) + (1)).toNatClampNeg)  r324 hr325))
      rw [if_neg hc319] at hp
      by_cases hc327 : ((hI (h) (1) (v3).toNatClampNeg) &&& (63)) = (31 : Int32)
      · rw [if_pos hc327] at hp
        by_cases hg328 : ((v3) + (1)) < (0 : Int32) ∨ hN (h) (1) ≤ ((v3) + (1)).toNatClampNeg
        · rw [if_pos hg328] at hp; cases hp
        rw [if_neg hg328] at hp
        obtain ⟨r329, hr330, hp⟩ := bind_some hp
        try dsimp only at hp
        by_cases hg331 : ((v3) + (1)) < (0 : Int32) ∨ hN (h) (1) ≤ ((v3) + (1)).toNatClampNeg
        · rw [if_pos hg331] at hp; cases hp
        rw [if_neg hg331] at hp
        obtain ⟨r332, hr333, hp⟩ := bind_some hp
        try dsimp only at hp
        by_cases hc334 : (r329) = ((r332) : Int32)
        · rw [if_pos hc334] at hp
          exact p306_j2120_w F ((p306_L18 F n)) (ih) (h) (w) (v3) _ hp
        · rw [if_neg hc334] at hp
          have hp := Option.some.inj hp
          subst hp
          exact (w)
      rw [if_neg hc327] at hp
      by_cases hc335 : ((hI (h) (1) (v3).toNatClampNeg) &&& (63)) = (32 : Int32)
      · rw [if_pos hc335] at hp
        by_cases hg336 : ((v3) + (1)) < (0 : Int32) ∨ hN (h) (1) ≤ ((v3) + (1)).toNatClampNeg
        · rw [if_pos hg336] at hp; cases hp
        rw [if_neg hg336] at hp
        by_cases hg337 : ((v3) + (2)) < (0 : Int32) ∨ hN (h) (1) ≤ ((v3) + (2)).toNatClampNeg
        · rw [if_pos hg337] at hp; cases hp
        rw [if_neg hg337] at hp
        by_cases hg338 : ((v3) + (3)) < (0 : Int32) ∨ hN (h) (1) ≤ ((v3) + (3)).toNatClampNeg
        · rw [if_pos hg338] at hp; cases hp
        rw [if_neg hg338] at hp
        by_cases hg339 : ((v3) + (4)) < (0 : Int32) ∨ hN (h) (1) ≤ ((v3) + (4)).toNatClampNeg
        · rw [if_pos hg339] at hp; cases hp
        rw [if_neg hg339] at hp
        by_cases hg340 : ((v3) + (5)) < (0 : Int32) ∨ hN (h) (1) ≤ ((v3) + (5)).toNatClampNeg
        · rw [if_pos hg340] at hp; cases hp
        rw [if_neg hg340] at hp
        obtain ⟨r341, hr342, hp⟩ := bind_some hp
        try dsimp only at hp
        by_cases hg343 : ((v3) + (1)) < (0 : Int32) ∨ hN (r341.2) (1) ≤ ((v3) + (1)).toNatClampNeg
        · rw [if_pos hg343] at hp; cases hp
        rw [if_neg hg343] at hp
        by_cases hg344 : ((v3) + (2)) < (0 : Int32) ∨ hN (r341.2) (1) ≤ ((v3) + (2)).toNatClampNeg
        · rw [if_pos hg344] at hp; cases hp
        rw [if_neg hg344] at hp
        by_cases hg345 : ((v3) + (3)) < (0 : Int32) ∨ hN (r341.2) (1) ≤ ((v3) + (3)).toNatClampNeg
        · rw [if_pos hg345] at hp; cases hp
        rw [if_neg hg345] at hp
        by_cases hg346 : ((v3) + (4)) < (0 : Int32) ∨ hN (r341.2) (1) ≤ ((v3) + (4)).toNatClampNeg
        · rw [if_pos hg346] at hp; cases hp
        rw [if_neg hg346] at hp
        by_cases hg347 : ((v3) + (5)) < (0 : Int32) ∨ hN (r341.2) (1) ≤ ((v3) + (5)).toNatClampNeg
        · rw [if_pos hg347] at hp; cases hp
        rw [if_neg hg347] at hp
        obtain ⟨r348, hr349, hp⟩ := bind_some hp
        try dsimp only at hp
        by_cases hc350 : (r341.1) = ((r348.1) : Int32)
        · rw [if_pos hc350] at hp
          exact p306_j2120_w F ((p306_L18 F n)) (ih) (r348.2) ((p275_w (r341.2) (p146_w (h) w (hI (h) (1) ((v3) + (1)).toNatClampNeg) ((((hI (h) (1) ((v3) + (2)).toNatClampNeg).toInt64) <<< ((32 : Int32).toInt64 &&& 63)) ||| (((hI (h) (1) ((v3) + (3)).toNatClampNeg).toInt64) &&& ((4294967295 : Int64)))) (hI (h) (1) ((v3) + (4)).toNatClampNeg) (hI (h) (1) ((v3) + (5)).toNatClampNeg)  r341 hr342) (hI (r341.2) (1) ((v3) + (1)).toNatClampNeg) ((((hI (r341.2) (1) ((v3) + (2)).toNatClampNeg).toInt64) <<< ((32 : Int32).toInt64 &&& 63)) ||| (((hI (r341.2) (1) ((v3) + (3)).toNatClampNeg).toInt64) &&& ((4294967295 : Int64)))) (hI (r341.2) (1) ((v3) + (4)).toNatClampNeg) (hI (r341.2) (1) ((v3) + (5)).toNatClampNeg)  r348 hr349)) (v3) _ hp
        · rw [if_neg hc350] at hp
          have hp := Option.some.inj hp
          subst hp
          exact ((p275_w (r341.2) (p146_w (h) w (hI (h) (1) ((v3) + (1)).toNatClampNeg) ((((hI (h) (1) ((v3) + (2)).toNatClampNeg).toInt64) <<< ((32 : Int32).toInt64 &&& 63)) ||| (((hI (h) (1) ((v3) + (3)).toNatClampNeg).toInt64) &&& ((4294967295 : Int64)))) (hI (h) (1) ((v3) + (4)).toNatClampNeg) (hI (h) (1) ((v3) + (5)).toNatClampNeg)  r341 hr342) (hI (r341.2) (1) ((v3) + (1)).toNatClampNeg) ((((hI (r341.2) (1) ((v3) + (2)).toNatClampNeg).toInt64) <<< ((32 : Int32).toInt64 &&& 63)) ||| (((hI (r341.2) (1) ((v3) + (3)).toNatClampNeg).toInt64) &&& ((4294967295 : Int64)))) (hI (r341.2) (1) ((v3) + (4)).toNatClampNeg) (hI (r341.2) (1) ((v3) + (5)).toNatClampNeg)  r348 hr349))
      rw [if_neg hc335] at hp
      by_cases hc351 : ((hI (h) (1) (v3).toNatClampNeg) &&& (63)) = (33 : Int32)
      · rw [if_pos hc351] at hp
        by_cases hg352 : ((v3) + (1)) < (0 : Int32) ∨ hN (h) (1) ≤ ((v3) + (1)).toNatClampNeg
        · rw [if_pos hg352] at hp; cases hp
        rw [if_neg hg352] at hp
        by_cases hg353 : ((v3) + (2)) < (0 : Int32) ∨ hN (h) (1) ≤ ((v3) + (2)).toNatClampNeg
        · rw [if_pos hg353] at hp; cases hp
        rw [if_neg hg353] at hp
        by_cases hc354 : (hI (h) (1) ((v3) + (2)).toNatClampNeg) = (0 : Int32)
        · rw [if_pos hc354] at hp
          exact p306_j1518_w F ((p306_L18 F n)) (ih) (h) (w) (v3) (0) (hI (h) (1) ((v3) + (1)).toNatClampNeg) _ hp
        · rw [if_neg hc354] at hp
          exact p306_j1518_w F ((p306_L18 F n)) (ih) (h) (w) (v3) (1) (hI (h) (1) ((v3) + (1)).toNatClampNeg) _ hp
      rw [if_neg hc351] at hp
      by_cases hc355 : ((hI (h) (1) (v3).toNatClampNeg) &&& (63)) = (34 : Int32)
      · rw [if_pos hc355] at hp
        by_cases hg356 : ((v3) + (1)) < (0 : Int32) ∨ hN (h) (1) ≤ ((v3) + (1)).toNatClampNeg
        · rw [if_pos hg356] at hp; cases hp
        rw [if_neg hg356] at hp
        by_cases hg357 : ((v3) + (2)) < (0 : Int32) ∨ hN (h) (1) ≤ ((v3) + (2)).toNatClampNeg
        · rw [if_pos hg357] at hp; cases hp
        rw [if_neg hg357] at hp
        by_cases hg358 : ((v3) + (3)) < (0 : Int32) ∨ hN (h) (1) ≤ ((v3) + (3)).toNatClampNeg
        · rw [if_pos hg358] at hp; cases hp
        rw [if_neg hg358] at hp
        obtain ⟨r359, hr360, hp⟩ := bind_some hp
        try dsimp only at hp
        by_cases hg361 : ((v3) + (1)) < (0 : Int32) ∨ hN (r359.2) (1) ≤ ((v3) + (1)).toNatClampNeg
        · rw [if_pos hg361] at hp; cases hp
        rw [if_neg hg361] at hp
        by_cases hg362 : ((v3) + (2)) < (0 : Int32) ∨ hN (r359.2) (1) ≤ ((v3) + (2)).toNatClampNeg
        · rw [if_pos hg362] at hp; cases hp
        rw [if_neg hg362] at hp
        by_cases hg363 : ((v3) + (3)) < (0 : Int32) ∨ hN (r359.2) (1) ≤ ((v3) + (3)).toNatClampNeg
        · rw [if_pos hg363] at hp; cases hp
        rw [if_neg hg363] at hp
        obtain ⟨r364, hr365, hp⟩ := bind_some hp
        try dsimp only at hp
        by_cases hc366 : (r359.1) = ((r364.1) : Int32)
        · rw [if_pos hc366] at hp
          exact p306_j2120_w F ((p306_L18 F n)) (ih) (r364.2) ((p283_w F (r359.2) (p148_w F (h) w (hI (h) (1) ((v3) + (1)).toNatClampNeg) (hI (h) (1) ((v3) + (2)).toNatClampNeg) (hI (h) (1) ((v3) + (3)).toNatClampNeg)  r359 hr360) (hI (r359.2) (1) ((v3) + (1)).toNatClampNeg) (hI (r359.2) (1) ((v3) + (2)).toNatClampNeg) (hI (r359.2) (1) ((v3) + (3)).toNatClampNeg)  r364 hr365)) (v3) _ hp
        · rw [if_neg hc366] at hp
          have hp := Option.some.inj hp
          subst hp
          exact ((p283_w F (r359.2) (p148_w F (h) w (hI (h) (1) ((v3) + (1)).toNatClampNeg) (hI (h) (1) ((v3) + (2)).toNatClampNeg) (hI (h) (1) ((v3) + (3)).toNatClampNeg)  r359 hr360) (hI (r359.2) (1) ((v3) + (1)).toNatClampNeg) (hI (r359.2) (1) ((v3) + (2)).toNatClampNeg) (hI (r359.2) (1) ((v3) + (3)).toNatClampNeg)  r364 hr365))
      rw [if_neg hc355] at hp
      by_cases hc367 : ((hI (h) (1) (v3).toNatClampNeg) &&& (63)) = (35 : Int32)
      · rw [if_pos hc367] at hp
        obtain ⟨r368, hr369, hp⟩ := bind_some hp
        try dsimp only at hp
        obtain ⟨r370, hr371, hp⟩ := bind_some hp
        try dsimp only at hp
        by_cases hc372 : (r368) = ((r370) : Int32)
        · rw [if_pos hc372] at hp
          exact p306_j2120_w F ((p306_L18 F n)) (ih) (h) (w) (v3) _ hp
        · rw [if_neg hc372] at hp
          have hp := Option.some.inj hp
          subst hp
          exact (w)
      rw [if_neg hc367] at hp
      by_cases hc373 : ((hI (h) (1) (v3).toNatClampNeg) &&& (63)) = (36 : Int32)
      · rw [if_pos hc373] at hp
        by_cases hg374 : ((v3) + (1)) < (0 : Int32) ∨ hN (h) (1) ≤ ((v3) + (1)).toNatClampNeg
        · rw [if_pos hg374] at hp; cases hp
        rw [if_neg hg374] at hp
        by_cases hg375 : ((v3) + (2)) < (0 : Int32) ∨ hN (h) (1) ≤ ((v3) + (2)).toNatClampNeg
        · rw [if_pos hg375] at hp; cases hp
        rw [if_neg hg375] at hp
        obtain ⟨r376, hr377, hp⟩ := bind_some hp
        try dsimp only at hp
        by_cases hg378 : ((v3) + (1)) < (0 : Int32) ∨ hN (r376.2) (1) ≤ ((v3) + (1)).toNatClampNeg
        · rw [if_pos hg378] at hp; cases hp
        rw [if_neg hg378] at hp
        by_cases hg379 : ((v3) + (2)) < (0 : Int32) ∨ hN (r376.2) (1) ≤ ((v3) + (2)).toNatClampNeg
        · rw [if_pos hg379] at hp; cases hp
        rw [if_neg hg379] at hp
        obtain ⟨r380, hr381, hp⟩ := bind_some hp
        try dsimp only at hp
        by_cases hc382 : (r376.1) = ((r380.1) : Int32)
        · rw [if_pos hc382] at hp
          exact p306_j2120_w F ((p306_L18 F n)) (ih) (r380.2) ((p285_w (r376.2) (p150_w (h) w (hI (h) (1) ((v3) + (1)).toNatClampNeg) (hI (h) (1) ((v3) + (2)).toNatClampNeg)  r376 hr377) (hI (r376.2) (1) ((v3) + (1)).toNatClampNeg) (hI (r376.2) (1) ((v3) + (2)).toNatClampNeg)  r380 hr381)) (v3) _ hp
        · rw [if_neg hc382] at hp
          have hp := Option.some.inj hp
          subst hp
          exact ((p285_w (r376.2) (p150_w (h) w (hI (h) (1) ((v3) + (1)).toNatClampNeg) (hI (h) (1) ((v3) + (2)).toNatClampNeg)  r376 hr377) (hI (r376.2) (1) ((v3) + (1)).toNatClampNeg) (hI (r376.2) (1) ((v3) + (2)).toNatClampNeg)  r380 hr381))
      rw [if_neg hc373] at hp
      by_cases hc383 : ((hI (h) (1) (v3).toNatClampNeg) &&& (63)) = (37 : Int32)
      · rw [if_pos hc383] at hp
        by_cases hg384 : ((v3) + (1)) < (0 : Int32) ∨ hN (h) (1) ≤ ((v3) + (1)).toNatClampNeg
        · rw [if_pos hg384] at hp; cases hp
        rw [if_neg hg384] at hp
        obtain ⟨r385, hr386, hp⟩ := bind_some hp
        try dsimp only at hp
        by_cases hg387 : ((v3) + (1)) < (0 : Int32) ∨ hN (r385.2) (1) ≤ ((v3) + (1)).toNatClampNeg
        · rw [if_pos hg387] at hp; cases hp
        rw [if_neg hg387] at hp
        obtain ⟨r388, hr389, hp⟩ := bind_some hp
        try dsimp only at hp
        by_cases hc390 : (lg_cmp (r385.1) (r388.1)) = (0 : Int32)
        · rw [if_pos hc390] at hp
          exact p306_j2120_w F ((p306_L18 F n)) (ih) (r388.2) ((p287_w F (r385.2) (p151_w F (h) w (hI (h) (1) ((v3) + (1)).toNatClampNeg)  r385 hr386) (hI (r385.2) (1) ((v3) + (1)).toNatClampNeg)  r388 hr389)) (v3) _ hp
        · rw [if_neg hc390] at hp
          have hp := Option.some.inj hp
          subst hp
          exact ((p287_w F (r385.2) (p151_w F (h) w (hI (h) (1) ((v3) + (1)).toNatClampNeg)  r385 hr386) (hI (r385.2) (1) ((v3) + (1)).toNatClampNeg)  r388 hr389))
      rw [if_neg hc383] at hp
      by_cases hc391 : ((hI (h) (1) (v3).toNatClampNeg) &&& (63)) = (38 : Int32)
      · rw [if_pos hc391] at hp
        obtain ⟨r392, hr393, hp⟩ := bind_some hp
        try dsimp only at hp
        obtain ⟨r394, hr395, hp⟩ := bind_some hp
        try dsimp only at hp
        by_cases hc396 : (r392.1) = ((r394.1) : Int32)
        · rw [if_pos hc396] at hp
          exact p306_j2120_w F ((p306_L18 F n)) (ih) (r394.2) ((p288_w F (r392.2) (p152_w F (h) w  r392 hr393)  r394 hr395)) (v3) _ hp
        · rw [if_neg hc396] at hp
          have hp := Option.some.inj hp
          subst hp
          exact ((p288_w F (r392.2) (p152_w F (h) w  r392 hr393)  r394 hr395))
      rw [if_neg hc391] at hp
      by_cases hc397 : ((hI (h) (1) (v3).toNatClampNeg) &&& (63)) = (39 : Int32)
      · rw [if_pos hc397] at hp
        by_cases hg398 : ((v3) + (1)) < (0 : Int32) ∨ hN (h) (1) ≤ ((v3) + (1)).toNatClampNeg
        · rw [if_pos hg398] at hp; cases hp
        rw [if_neg hg398] at hp
        by_cases hg399 : ((v3) + (2)) < (0 : Int32) ∨ hN (h) (1) ≤ ((v3) + (2)).toNatClampNeg
        · rw [if_pos hg399] at hp; cases hp
        rw [if_neg hg399] at hp
        by_cases hg400 : ((v3) + (3)) < (0 : Int32) ∨ hN (h) (1) ≤ ((v3) + (3)).toNatClampNeg
        · rw [if_pos hg400] at hp; cases hp
        rw [if_neg hg400] at hp
        obtain ⟨r401, hr402, hp⟩ := bind_some hp
        try dsimp only at hp
        by_cases hg403 : ((v3) + (1)) < (0 : Int32) ∨ hN (h) (1) ≤ ((v3) + (1)).toNatClampNeg
        · rw [if_pos hg403] at hp; cases hp
        rw [if_neg hg403] at hp
        by_cases hg404 : ((v3) + (2)) < (0 : Int32) ∨ hN (h) (1) ≤ ((v3) + (2)).toNatClampNeg
        · rw [if_pos hg404] at hp; cases hp
        rw [if_neg hg404] at hp
        by_cases hg405 : ((v3) + (3)) < (0 : Int32) ∨ hN (h) (1) ≤ ((v3) + (3)).toNatClampNeg
        · rw [if_pos hg405] at hp; cases hp
        rw [if_neg hg405] at hp
        obtain ⟨r406, hr407, hp⟩ := bind_some hp
        try dsimp only at hp
        by_cases hc408 : (r401) = ((r406) : Int32)
        · rw [if_pos hc408] at hp
          exact p306_j2120_w F ((p306_L18 F n)) (ih) (h) (w) (v3) _ hp
        · rw [if_neg hc408] at hp
          have hp := Option.some.inj hp
          subst hp
          exact (w)
      rw [if_neg hc397] at hp
      by_cases hc409 : ((hI (h) (1) (v3).toNatClampNeg) &&& (63)) = (40 : Int32)
      · rw [if_pos hc409] at hp
        by_cases hg410 : ((v3) + (1)) < (0 : Int32) ∨ hN (h) (1) ≤ ((v3) + (1)).toNatClampNeg
        · rw [if_pos hg410] at hp; cases hp
        rw [if_neg hg410] at hp
        by_cases hg411 : ((v3) + (2)) < (0 : Int32) ∨ hN (h) (1) ≤ ((v3) + (2)).toNatClampNeg
        · rw [if_pos hg411] at hp; cases hp
        rw [if_neg hg411] at hp
        by_cases hg412 : ((v3) + (3)) < (0 : Int32) ∨ hN (h) (1) ≤ ((v3) + (3)).toNatClampNeg
        · rw [if_pos hg412] at hp; cases hp
        rw [if_neg hg412] at hp
        obtain ⟨r413, hr414, hp⟩ := bind_some hp
        try dsimp only at hp
        by_cases hg415 : ((v3) + (1)) < (0 : Int32) ∨ hN (h) (1) ≤ ((v3) + (1)).toNatClampNeg
        · rw [if_pos hg415] at hp; cases hp
        rw [if_neg hg415] at hp
        by_cases hg416 : ((v3) + (2)) < (0 : Int32) ∨ hN (h) (1) ≤ ((v3) + (2)).toNatClampNeg
        · rw [if_pos hg416] at hp; cases hp
        rw [if_neg hg416] at hp
        by_cases hg417 : ((v3) + (3)) < (0 : Int32) ∨ hN (h) (1) ≤ ((v3) + (3)).toNatClampNeg
        · rw [if_pos hg417] at hp; cases hp
        rw [if_neg hg417] at hp
        obtain ⟨r418, hr419, hp⟩ := bind_some hp
        try dsimp only at hp
        by_cases hc420 : (r413) = ((r418.1) : Int32)
        · rw [if_pos hc420] at hp
          exact p306_j2120_w F ((p306_L18 F n)) (ih) (r418.2) ((p291_w F (h) w (hI (h) (1) ((v3) + (1)).toNatClampNeg) (hI (h) (1) ((v3) + (2)).toNatClampNeg) (hI (h) (1) ((v3) + (3)).toNatClampNeg)  r418 hr419)) (v3) _ hp
        · rw [if_neg hc420] at hp
          have hp := Option.some.inj hp
          subst hp
          exact ((p291_w F (h) w (hI (h) (1) ((v3) + (1)).toNatClampNeg) (hI (h) (1) ((v3) + (2)).toNatClampNeg) (hI (h) (1) ((v3) + (3)).toNatClampNeg)  r418 hr419))
      rw [if_neg hc409] at hp
      by_cases hc421 : ((hI (h) (1) (v3).toNatClampNeg) &&& (63)) = (41 : Int32)
      · rw [if_pos hc421] at hp
        by_cases hg422 : ((v3) + (1)) < (0 : Int32) ∨ hN (h) (1) ≤ ((v3) + (1)).toNatClampNeg
        · rw [if_pos hg422] at hp; cases hp
        rw [if_neg hg422] at hp
        by_cases hg423 : ((v3) + (2)) < (0 : Int32) ∨ hN (h) (1) ≤ ((v3) + (2)).toNatClampNeg
        · rw [if_pos hg423] at hp; cases hp
        rw [if_neg hg423] at hp
        obtain ⟨r424, hr425, hp⟩ := bind_some hp
        try dsimp only at hp
        by_cases hg426 : ((v3) + (1)) < (0 : Int32) ∨ hN (r424.2) (1) ≤ ((v3) + (1)).toNatClampNeg
        · rw [if_pos hg426] at hp; cases hp
        rw [if_neg hg426] at hp
        by_cases hg427 : ((v3) + (2)) < (0 : Int32) ∨ hN (r424.2) (1) ≤ ((v3) + (2)).toNatClampNeg
        · rw [if_pos hg427] at hp; cases hp
        rw [if_neg hg427] at hp
        obtain ⟨r428, hr429, hp⟩ := bind_some hp
        try dsimp only at hp
        by_cases hc430 : (r424.1) = ((r428.1) : Int32)
        · rw [if_pos hc430] at hp
          exact p306_j2120_w F ((p306_L18 F n)) (ih) (r428.2) ((p292_w (r424.2) (p155_w (h) w (hI (h) (1) ((v3) + (1)).toNatClampNeg) (hI (h) (1) ((v3) + (2)).toNatClampNeg)  r424 hr425) (hI (r424.2) (1) ((v3) + (1)).toNatClampNeg) (hI (r424.2) (1) ((v3) + (2)).toNatClampNeg)  r428 hr429)) (v3) _ hp
        · rw [if_neg hc430] at hp
          have hp := Option.some.inj hp
          subst hp
          exact ((p292_w (r424.2) (p155_w (h) w (hI (h) (1) ((v3) + (1)).toNatClampNeg) (hI (h) (1) ((v3) + (2)).toNatClampNeg)  r424 hr425) (hI (r424.2) (1) ((v3) + (1)).toNatClampNeg) (hI (r424.2) (1) ((v3) + (2)).toNatClampNeg)  r428 hr429))
      rw [if_neg hc421] at hp
      by_cases hc431 : ((hI (h) (1) (v3).toNatClampNeg) &&& (63)) = (42 : Int32)
      · rw [if_pos hc431] at hp
        by_cases hg432 : ((v3) + (1)) < (0 : Int32) ∨ hN (h) (1) ≤ ((v3) + (1)).toNatClampNeg
        · rw [if_pos hg432] at hp; cases hp
        rw [if_neg hg432] at hp
        by_cases hg433 : ((v3) + (2)) < (0 : Int32) ∨ hN (h) (1) ≤ ((v3) + (2)).toNatClampNeg
        · rw [if_pos hg433] at hp; cases hp
        rw [if_neg hg433] at hp
        obtain ⟨r434, hr435, hp⟩ := bind_some hp
        try dsimp only at hp
        by_cases hg436 : ((v3) + (1)) < (0 : Int32) ∨ hN (r434.2) (1) ≤ ((v3) + (1)).toNatClampNeg
        · rw [if_pos hg436] at hp; cases hp
        rw [if_neg hg436] at hp
        by_cases hg437 : ((v3) + (2)) < (0 : Int32) ∨ hN (r434.2) (1) ≤ ((v3) + (2)).toNatClampNeg
        · rw [if_pos hg437] at hp; cases hp
        rw [if_neg hg437] at hp
        obtain ⟨r438, hr439, hp⟩ := bind_some hp
        try dsimp only at hp
        by_cases hc440 : (r434.1) = ((r438.1) : Int32)
        · rw [if_pos hc440] at hp
          exact p306_j2120_w F ((p306_L18 F n)) (ih) (r438.2) ((p296_w F (r434.2) (p156_w F (h) w (hI (h) (1) ((v3) + (1)).toNatClampNeg) (hI (h) (1) ((v3) + (2)).toNatClampNeg)  r434 hr435) (hI (r434.2) (1) ((v3) + (1)).toNatClampNeg) (hI (r434.2) (1) ((v3) + (2)).toNatClampNeg)  r438 hr439)) (v3) _ hp
        · rw [if_neg hc440] at hp
          have hp := Option.some.inj hp
          subst hp
          exact ((p296_w F (r434.2) (p156_w F (h) w (hI (h) (1) ((v3) + (1)).toNatClampNeg) (hI (h) (1) ((v3) + (2)).toNatClampNeg)  r434 hr435) (hI (r434.2) (1) ((v3) + (1)).toNatClampNeg) (hI (r434.2) (1) ((v3) + (2)).toNatClampNeg)  r438 hr439))
      rw [if_neg hc431] at hp
      by_cases hc441 : ((hI (h) (1) (v3).toNatClampNeg) &&& (63)) = (43 : Int32)
      · rw [if_pos hc441] at hp
        by_cases hg442 : ((v3) + (1)) < (0 : Int32) ∨ hN (h) (1) ≤ ((v3) + (1)).toNatClampNeg
        · rw [if_pos hg442] at hp; cases hp
        rw [if_neg hg442] at hp
        by_cases hg443 : ((v3) + (2)) < (0 : Int32) ∨ hN (h) (1) ≤ ((v3) + (2)).toNatClampNeg
        · rw [if_pos hg443] at hp; cases hp
        rw [if_neg hg443] at hp
        obtain ⟨r444, hr445, hp⟩ := bind_some hp
        try dsimp only at hp
        by_cases hg446 : ((v3) + (1)) < (0 : Int32) ∨ hN (r444.2) (1) ≤ ((v3) + (1)).toNatClampNeg
        · rw [if_pos hg446] at hp; cases hp
        rw [if_neg hg446] at hp
        by_cases hg447 : ((v3) + (2)) < (0 : Int32) ∨ hN (r444.2) (1) ≤ ((v3) + (2)).toNatClampNeg
        · rw [if_pos hg447] at hp; cases hp
        rw [if_neg hg447] at hp
        obtain ⟨r448, hr449, hp⟩ := bind_some hp
        try dsimp only at hp
        by_cases hc450 : (r444.1) = ((r448.1) : Int32)
        · rw [if_pos hc450] at hp
          exact p306_j2120_w F ((p306_L18 F n)) (ih) (r448.2) ((p294_w F (r444.2) (p157_w F (h) w (hI (h) (1) ((v3) + (1)).toNatClampNeg) (hI (h) (1) ((v3) + (2)).toNatClampNeg)  r444 hr445) (hI (r444.2) (1) ((v3) + (1)).toNatClampNeg) (hI (r444.2) (1) ((v3) + (2)).toNatClampNeg)  r448 hr449)) (v3) _ hp
        · rw [if_neg hc450] at hp
          have hp := Option.some.inj hp
          subst hp
          exact ((p294_w F (r444.2) (p157_w F (h) w (hI (h) (1) ((v3) + (1)).toNatClampNeg) (hI (h) (1) ((v3) + (2)).toNatClampNeg)  r444 hr445) (hI (r444.2) (1) ((v3) + (1)).toNatClampNeg) (hI (r444.2) (1) ((v3) + (2)).toNatClampNeg)  r448 hr449))
      rw [if_neg hc441] at hp
      by_cases hc451 : ((hI (h) (1) (v3).toNatClampNeg) &&& (63)) = (44 : Int32)
      · rw [if_pos hc451] at hp
        by_cases hg452 : ((v3) + (1)) < (0 : Int32) ∨ hN (h) (1) ≤ ((v3) + (1)).toNatClampNeg
        · rw [if_pos hg452] at hp; cases hp
        rw [if_neg hg452] at hp
        by_cases hg453 : ((v3) + (2)) < (0 : Int32) ∨ hN (h) (1) ≤ ((v3) + (2)).toNatClampNeg
        · rw [if_pos hg453] at hp; cases hp
        rw [if_neg hg453] at hp
        by_cases hc454 : (hI (h) (1) ((v3) + (2)).toNatClampNeg) = (0 : Int32)
        · rw [if_pos hc454] at hp
          exact p306_j1878_w F ((p306_L18 F n)) (ih) (h) (w) (v3) (0) (hI (h) (1) ((v3) + (1)).toNatClampNeg) _ hp
        · rw [if_neg hc454] at hp
          exact p306_j1878_w F ((p306_L18 F n)) (ih) (h) (w) (v3) (1) (hI (h) (1) ((v3) + (1)).toNatClampNeg) _ hp
      rw [if_neg hc451] at hp
      by_cases hc455 : ((hI (h) (1) (v3).toNatClampNeg) &&& (63)) = (45 : Int32)
      · rw [if_pos hc455] at hp
        by_cases hg456 : ((v3) + (1)) < (0 : Int32) ∨ hN (h) (1) ≤ ((v3) + (1)).toNatClampNeg
        · rw [if_pos hg456] at hp; cases hp
        rw [if_neg hg456] at hp
        obtain ⟨r457, hr458, hp⟩ := bind_some hp
        try dsimp only at hp
        by_cases hg459 : ((v3) + (1)) < (0 : Int32) ∨ hN (r457.2) (1) ≤ ((v3) + (1)).toNatClampNeg
        · rw [if_pos hg459] at hp; cases hp
        rw [if_neg hg459] at hp
        obtain ⟨r460, hr461, hp⟩ := bind_some hp
        try dsimp only at hp
        by_cases hc462 : (r457.1) = ((r460.1) : Int32)
        · rw [if_pos hc462] at hp
          exact p306_j2120_w F ((p306_L18 F n)) (ih) (r460.2) ((p298_w F (r457.2) (p159_w F (h) w (hI (h) (1) ((v3) + (1)).toNatClampNeg)  r457 hr458) (hI (r457.2) (1) ((v3) + (1)).toNatClampNeg)  r460 hr461)) (v3) _ hp
        · rw [if_neg hc462] at hp
          have hp := Option.some.inj hp
          subst hp
          exact ((p298_w F (r457.2) (p159_w F (h) w (hI (h) (1) ((v3) + (1)).toNatClampNeg)  r457 hr458) (hI (r457.2) (1) ((v3) + (1)).toNatClampNeg)  r460 hr461))
      rw [if_neg hc455] at hp
      by_cases hc463 : ((hI (h) (1) (v3).toNatClampNeg) &&& (63)) = (46 : Int32)
      · rw [if_pos hc463] at hp
        obtain ⟨r464, hr465, hp⟩ := bind_some hp
        try dsimp only at hp
        obtain ⟨r466, hr467, hp⟩ := bind_some hp
        try dsimp only at hp
        by_cases hc468 : (r464.1) = ((r466.1) : Int32)
        · rw [if_pos hc468] at hp
          exact p306_j2120_w F ((p306_L18 F n)) (ih) (r466.2) ((p299_w F (r464.2) (p160_w F (h) w  r464 hr465)  r466 hr467)) (v3) _ hp
        · rw [if_neg hc468] at hp
          have hp := Option.some.inj hp
          subst hp
          exact ((p299_w F (r464.2) (p160_w F (h) w  r464 hr465)  r466 hr467))
      rw [if_neg hc463] at hp
      by_cases hc469 : ((hI (h) (1) (v3).toNatClampNeg) &&& (63)) = (47 : Int32)
      · rw [if_pos hc469] at hp
        by_cases hg470 : ((v3) + (1)) < (0 : Int32) ∨ hN (h) (1) ≤ ((v3) + (1)).toNatClampNeg
        · rw [if_pos hg470] at hp; cases hp
        rw [if_neg hg470] at hp
        by_cases hg471 : ((v3) + (2)) < (0 : Int32) ∨ hN (h) (1) ≤ ((v3) + (2)).toNatClampNeg
        · rw [if_pos hg471] at hp; cases hp
        rw [if_neg hg471] at hp
        obtain ⟨r472, hr473, hp⟩ := bind_some hp
        try dsimp only at hp
        by_cases hg474 : ((v3) + (1)) < (0 : Int32) ∨ hN (h) (1) ≤ ((v3) + (1)).toNatClampNeg
        · rw [if_pos hg474] at hp; cases hp
        rw [if_neg hg474] at hp
        by_cases hg475 : ((v3) + (2)) < (0 : Int32) ∨ hN (h) (1) ≤ ((v3) + (2)).toNatClampNeg
        · rw [if_pos hg475] at hp; cases hp
        rw [if_neg hg475] at hp
        obtain ⟨r476, hr477, hp⟩ := bind_some hp
        try dsimp only at hp
        by_cases hc478 : (r472) = ((r476) : Int32)
        · rw [if_pos hc478] at hp
          exact p306_j2120_w F ((p306_L18 F n)) (ih) (h) (w) (v3) _ hp
        · rw [if_neg hc478] at hp
          have hp := Option.some.inj hp
          subst hp
          exact (w)
      rw [if_neg hc469] at hp
      by_cases hc479 : ((hI (h) (1) (v3).toNatClampNeg) &&& (63)) = (48 : Int32)
      · rw [if_pos hc479] at hp
        by_cases hg480 : ((v3) + (1)) < (0 : Int32) ∨ hN (h) (1) ≤ ((v3) + (1)).toNatClampNeg
        · rw [if_pos hg480] at hp; cases hp
        rw [if_neg hg480] at hp
        by_cases hg481 : ((v3) + (2)) < (0 : Int32) ∨ hN (h) (1) ≤ ((v3) + (2)).toNatClampNeg
        · rw [if_pos hg481] at hp; cases hp
        rw [if_neg hg481] at hp
        obtain ⟨r482, hr483, hp⟩ := bind_some hp
        try dsimp only at hp
        by_cases hg484 : ((v3) + (1)) < (0 : Int32) ∨ hN (r482.2) (1) ≤ ((v3) + (1)).toNatClampNeg
        · rw [if_pos hg484] at hp; cases hp
        rw [if_neg hg484] at hp
        by_cases hg485 : ((v3) + (2)) < (0 : Int32) ∨ hN (r482.2) (1) ≤ ((v3) + (2)).toNatClampNeg
        · rw [if_pos hg485] at hp; cases hp
        rw [if_neg hg485] at hp
        obtain ⟨r486, hr487, hp⟩ := bind_some hp
        try dsimp only at hp
        by_cases hc488 : (r482.1) = ((r486.1) : Int32)
        · rw [if_pos hc488] at hp
          exact p306_j2120_w F ((p306_L18 F n)) (ih) (r486.2) ((p301_w (r482.2) (p162_w (h) w (hI (h) (1) ((v3) + (1)).toNatClampNeg) (hI (h) (1) ((v3) + (2)).toNatClampNeg)  r482 hr483) (hI (r482.2) (1) ((v3) + (1)).toNatClampNeg) (hI (r482.2) (1) ((v3) + (2)).toNatClampNeg)  r486 hr487)) (v3) _ hp
        · rw [if_neg hc488] at hp
          have hp := Option.some.inj hp
          subst hp
          exact ((p301_w (r482.2) (p162_w (h) w (hI (h) (1) ((v3) + (1)).toNatClampNeg) (hI (h) (1) ((v3) + (2)).toNatClampNeg)  r482 hr483) (hI (r482.2) (1) ((v3) + (1)).toNatClampNeg) (hI (r482.2) (1) ((v3) + (2)).toNatClampNeg)  r486 hr487))
      rw [if_neg hc479] at hp
      by_cases hc489 : ((hI (h) (1) (v3).toNatClampNeg) &&& (63)) = (49 : Int32)
      · rw [if_pos hc489] at hp
        by_cases hg490 : ((v3) + (1)) < (0 : Int32) ∨ hN (h) (1) ≤ ((v3) + (1)).toNatClampNeg
        · rw [if_pos hg490] at hp; cases hp
        rw [if_neg hg490] at hp
        by_cases hg491 : ((v3) + (2)) < (0 : Int32) ∨ hN (h) (1) ≤ ((v3) + (2)).toNatClampNeg
        · rw [if_pos hg491] at hp; cases hp
        rw [if_neg hg491] at hp
        by_cases hg492 : ((v3) + (3)) < (0 : Int32) ∨ hN (h) (1) ≤ ((v3) + (3)).toNatClampNeg
        · rw [if_pos hg492] at hp; cases hp
        rw [if_neg hg492] at hp
        obtain ⟨r493, hr494, hp⟩ := bind_some hp
        try dsimp only at hp
        by_cases hg495 : ((v3) + (1)) < (0 : Int32) ∨ hN (r493.2) (1) ≤ ((v3) + (1)).toNatClampNeg
        · rw [if_pos hg495] at hp; cases hp
        rw [if_neg hg495] at hp
        by_cases hg496 : ((v3) + (2)) < (0 : Int32) ∨ hN (r493.2) (1) ≤ ((v3) + (2)).toNatClampNeg
        · rw [if_pos hg496] at hp; cases hp
        rw [if_neg hg496] at hp
        by_cases hg497 : ((v3) + (3)) < (0 : Int32) ∨ hN (r493.2) (1) ≤ ((v3) + (3)).toNatClampNeg
        · rw [if_pos hg497] at hp; cases hp
        rw [if_neg hg497] at hp
        obtain ⟨r498, hr499, hp⟩ := bind_some hp
        try dsimp only at hp
        by_cases hc500 : (lg_cmp (r493.1) (r498.1)) = (0 : Int32)
        · rw [if_pos hc500] at hp
          exact p306_j2120_w F ((p306_L18 F n)) (ih) (r498.2) ((p303_w F (r493.2) (p163_w F (h) w (hI (h) (1) ((v3) + (1)).toNatClampNeg) ((((hI (h) (1) ((v3) + (2)).toNatClampNeg).toInt64) <<< ((32 : Int32).toInt64 &&& 63)) ||| (((hI (h) (1) ((v3) + (3)).toNatClampNeg).toInt64) &&& ((4294967295 : Int64))))  r493 hr494) (hI (r493.2) (1) ((v3) + (1)).toNatClampNeg) ((((hI (r493.2) (1) ((v3) + (2)).toNatClampNeg).toInt64) <<< ((32 : Int32).toInt64 &&& 63)) ||| (((hI (r493.2) (1) ((v3) + (3)).toNatClampNeg).toInt64) &&& ((4294967295 : Int64))))  r498 hr499)) (v3) _ hp
        · rw [if_neg hc500] at hp
          have hp := Option.some.inj hp
          subst hp
          exact ((p303_w F (r493.2) (p163_w F (h) w (hI (h) (1) ((v3) + (1)).toNatClampNeg) ((((hI (h) (1) ((v3) + (2)).toNatClampNeg).toInt64) <<< ((32 : Int32).toInt64 &&& 63)) ||| (((hI (h) (1) ((v3) + (3)).toNatClampNeg).toInt64) &&& ((4294967295 : Int64))))  r493 hr494) (hI (r493.2) (1) ((v3) + (1)).toNatClampNeg) ((((hI (r493.2) (1) ((v3) + (2)).toNatClampNeg).toInt64) <<< ((32 : Int32).toInt64 &&& 63)) ||| (((hI (r493.2) (1) ((v3) + (3)).toNatClampNeg).toInt64) &&& ((4294967295 : Int64))))  r498 hr499))
      rw [if_neg hc489] at hp
      by_cases hc501 : ((hI (h) (1) (v3).toNatClampNeg) &&& (63)) = (50 : Int32)
      · rw [if_pos hc501] at hp
        by_cases hg502 : ((v3) + (1)) < (0 : Int32) ∨ hN (h) (1) ≤ ((v3) + (1)).toNatClampNeg
        · rw [if_pos hg502] at hp; cases hp
        rw [if_neg hg502] at hp
        obtain ⟨r503, hr504, hp⟩ := bind_some hp
        try dsimp only at hp
        by_cases hg505 : ((v3) + (1)) < (0 : Int32) ∨ hN (h) (1) ≤ ((v3) + (1)).toNatClampNeg
        · rw [if_pos hg505] at hp; cases hp
        rw [if_neg hg505] at hp
        obtain ⟨r506, hr507, hp⟩ := bind_some hp
        try dsimp only at hp
        by_cases hc508 : (r503) = ((r506) : Int32)
        · rw [if_pos hc508] at hp
          exact p306_j2120_w F ((p306_L18 F n)) (ih) (h) (w) (v3) _ hp
        · rw [if_neg hc508] at hp
          have hp := Option.some.inj hp
          subst hp
          exact (w)
      rw [if_neg hc501] at hp
      by_cases hc509 : ((hI (h) (1) (v3).toNatClampNeg) &&& (63)) = (51 : Int32)
      · rw [if_pos hc509] at hp
        by_cases hg510 : ((v3) + (1)) < (0 : Int32) ∨ hN (h) (1) ≤ ((v3) + (1)).toNatClampNeg
        · rw [if_pos hg510] at hp; cases hp
        rw [if_neg hg510] at hp
        obtain ⟨r511, hr512, hp⟩ := bind_some hp
        try dsimp only at hp
        by_cases hg513 : ((v3) + (1)) < (0 : Int32) ∨ hN (h) (1) ≤ ((v3) + (1)).toNatClampNeg
        · rw [if_pos hg513] at hp; cases hp
        rw [if_neg hg513] at hp
        obtain ⟨r514, hr515, hp⟩ := bind_some hp
        try dsimp only at hp
        by_cases hc516 : (r511) = ((r514) : Int32)
        · rw [if_pos hc516] at hp
          exact p306_j2120_w F ((p306_L18 F n)) (ih) (h) (w) (v3) _ hp
        · rw [if_neg hc516] at hp
          have hp := Option.some.inj hp
          subst hp
          exact (w)
      rw [if_neg hc509] at hp
      exact p306_j2120_w F ((p306_L18 F n)) (ih) (h) (w) (v3) _ hp
set_option maxRecDepth 100000 in
set_option maxHeartbeats 4000000 in
theorem p306_ok (d : Nat) (F : Nat) (h : HS) (w : WF h) (r : Int32 × HS) (hp : p306 F h = some r) : ex (d + 66) 306 (ent 306 [.ref (1)] h) = some (some (.int (r.1)), r.2) := by
  rw [show ent 306 [.ref (1)] h = (0, [some (.ref (1)), some (.ref (32)), some (.ref (86)), some (.int (v3))], [], h) from by  rfl]
  refine ex_weak (ls := [some (.ref (1)), none, none, none]) (le2_ok ⟨Or.inr rfl, Or.inl rfl, Or.inl rfl, Or.inl rfl, trivial⟩) ?_
  unfold p306 at hp
  refine ex_weak (ls := [some (.ref (1)), some (.ref (32)), some (.ref (86)), some (.int (v3))]) (le2_ok ⟨Or.inr rfl, Or.inr rfl, Or.inr rfl, Or.inr rfl, trivial⟩) ?_
  exact p306_L18_ok d F F (h) (w) (v3) _ hp
set_option maxRecDepth 100000 in
set_option maxHeartbeats 4000000 in
theorem p306_w (F : Nat) (h : HS) (w : WF h) (r : Int32 × HS) (hp : p306 F h = some r) : WF r.2 := by
  unfold p306 at hp
  exact p306_L18_w F F (h) (w) (v3) _ hp
