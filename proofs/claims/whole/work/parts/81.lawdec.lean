theorem d_law0_332 : decode code 332 = .ok (.iadd, 1) := by decide +kernel
theorem d_law0_333 : decode code 333 = .ok (.iaload, 1) := by decide +kernel
theorem d_law0_334 : decode code 334 = .ok (.invokevirtual 28, 3) := by decide +kernel
theorem d_law0_337 : decode code 337 = .ok (.aload_n 2, 1) := by decide +kernel
theorem d_law0_338 : decode code 338 = .ok (.aload_n 0, 1) := by decide +kernel
theorem d_law0_339 : decode code 339 = .ok (.iload_n 3, 1) := by decide +kernel
theorem d_law0_340 : decode code 340 = .ok (.iconst 1, 1) := by decide +kernel
theorem d_law0_341 : decode code 341 = .ok (.iadd, 1) := by decide +kernel
theorem d_law0_342 : decode code 342 = .ok (.iaload, 1) := by decide +kernel
theorem d_law0_343 : decode code 343 = .ok (.aload_n 0, 1) := by decide +kernel
theorem d_law0_344 : decode code 344 = .ok (.iload_n 3, 1) := by decide +kernel
theorem d_law0_345 : decode code 345 = .ok (.iconst 2, 1) := by decide +kernel
theorem d_law0_346 : decode code 346 = .ok (.iadd, 1) := by decide +kernel
theorem d_law0_347 : decode code 347 = .ok (.iaload, 1) := by decide +kernel
theorem d_law0_348 : decode code 348 = .ok (.invokevirtual 31, 3) := by decide +kernel
theorem d_law0_351 : decode code 351 = .ok (.if_icmp .eq 933, 3) := by decide +kernel
theorem d_law0_354 : decode code 354 = .ok (.iconst 0, 1) := by decide +kernel
theorem d_law0_355 : decode code 355 = .ok (.ireturn, 1) := by decide +kernel
theorem d_law0_356 : decode code 356 = .ok (.aload_n 1, 1) := by decide +kernel
theorem d_law0_357 : decode code 357 = .ok (.aload_n 0, 1) := by decide +kernel
theorem d_law0_358 : decode code 358 = .ok (.iload_n 3, 1) := by decide +kernel
theorem d_law0_359 : decode code 359 = .ok (.iconst 1, 1) := by decide +kernel
theorem d_law0_360 : decode code 360 = .ok (.iadd, 1) := by decide +kernel
theorem d_law0_361 : decode code 361 = .ok (.iaload, 1) := by decide +kernel
theorem d_law0_362 : decode code 362 = .ok (.aload_n 0, 1) := by decide +kernel
theorem d_law0_363 : decode code 363 = .ok (.iload_n 3, 1) := by decide +kernel
theorem d_law0_364 : decode code 364 = .ok (.iconst 2, 1) := by decide +kernel
theorem d_law0_365 : decode code 365 = .ok (.iadd, 1) := by decide +kernel
theorem d_law0_366 : decode code 366 = .ok (.iaload, 1) := by decide +kernel
theorem d_law0_367 : decode code 367 = .ok (.aload_n 0, 1) := by decide +kernel
theorem d_law0_368 : decode code 368 = .ok (.iload_n 3, 1) := by decide +kernel
theorem d_law0_369 : decode code 369 = .ok (.iconst 3, 1) := by decide +kernel
theorem d_law0_370 : decode code 370 = .ok (.iadd, 1) := by decide +kernel
theorem d_law0_371 : decode code 371 = .ok (.iaload, 1) := by decide +kernel
theorem d_law0_372 : decode code 372 = .ok (.aload_n 0, 1) := by decide +kernel
theorem d_law0_373 : decode code 373 = .ok (.iload_n 3, 1) := by decide +kernel
theorem d_law0_374 : decode code 374 = .ok (.iconst 4, 1) := by decide +kernel
theorem d_law0_375 : decode code 375 = .ok (.iadd, 1) := by decide +kernel
theorem d_law0_376 : decode code 376 = .ok (.iaload, 1) := by decide +kernel
theorem d_law0_377 : decode code 377 = .ok (.invokevirtual 32, 3) := by decide +kernel
theorem d_law0_380 : decode code 380 = .ok (.aload_n 2, 1) := by decide +kernel
theorem d_law0_381 : decode code 381 = .ok (.aload_n 0, 1) := by decide +kernel
theorem d_law0_382 : decode code 382 = .ok (.iload_n 3, 1) := by decide +kernel
theorem d_law0_383 : decode code 383 = .ok (.iconst 1, 1) := by decide +kernel
theorem d_law0_384 : decode code 384 = .ok (.iadd, 1) := by decide +kernel
theorem d_law0_385 : decode code 385 = .ok (.iaload, 1) := by decide +kernel
theorem d_law0_386 : decode code 386 = .ok (.aload_n 0, 1) := by decide +kernel
theorem d_law0_387 : decode code 387 = .ok (.iload_n 3, 1) := by decide +kernel
theorem d_law0_388 : decode code 388 = .ok (.iconst 2, 1) := by decide +kernel
theorem d_law0_389 : decode code 389 = .ok (.iadd, 1) := by decide +kernel
theorem d_law0_390 : decode code 390 = .ok (.iaload, 1) := by decide +kernel
theorem d_law0_391 : decode code 391 = .ok (.aload_n 0, 1) := by decide +kernel
theorem d_law0_392 : decode code 392 = .ok (.iload_n 3, 1) := by decide +kernel
theorem d_law0_393 : decode code 393 = .ok (.iconst 3, 1) := by decide +kernel
theorem d_law0_394 : decode code 394 = .ok (.iadd, 1) := by decide +kernel
theorem d_law0_395 : decode code 395 = .ok (.iaload, 1) := by decide +kernel
theorem d_law0_396 : decode code 396 = .ok (.aload_n 0, 1) := by decide +kernel
theorem d_law0_397 : decode code 397 = .ok (.iload_n 3, 1) := by decide +kernel
theorem d_law0_398 : decode code 398 = .ok (.iconst 4, 1) := by decide +kernel
theorem d_law0_399 : decode code 399 = .ok (.iadd, 1) := by decide +kernel
theorem d_law0_400 : decode code 400 = .ok (.iaload, 1) := by decide +kernel
theorem d_law0_401 : decode code 401 = .ok (.invokevirtual 36, 3) := by decide +kernel
theorem d_law0_404 : decode code 404 = .ok (.if_icmp .eq 880, 3) := by decide +kernel
theorem d_law0_407 : decode code 407 = .ok (.iconst 0, 1) := by decide +kernel
theorem d_law0_408 : decode code 408 = .ok (.ireturn, 1) := by decide +kernel
theorem d_law0_409 : decode code 409 = .ok (.aload_n 1, 1) := by decide +kernel
theorem d_law0_410 : decode code 410 = .ok (.aload_n 0, 1) := by decide +kernel
theorem d_law0_411 : decode code 411 = .ok (.iload_n 3, 1) := by decide +kernel
theorem d_law0_412 : decode code 412 = .ok (.iconst 1, 1) := by decide +kernel
theorem d_law0_413 : decode code 413 = .ok (.iadd, 1) := by decide +kernel
theorem d_law0_414 : decode code 414 = .ok (.iaload, 1) := by decide +kernel
theorem d_law0_415 : decode code 415 = .ok (.aload_n 0, 1) := by decide +kernel
theorem d_law0_416 : decode code 416 = .ok (.iload_n 3, 1) := by decide +kernel
theorem d_law0_417 : decode code 417 = .ok (.iconst 2, 1) := by decide +kernel
theorem d_law0_418 : decode code 418 = .ok (.iadd, 1) := by decide +kernel
theorem d_law0_419 : decode code 419 = .ok (.iaload, 1) := by decide +kernel
theorem d_law0_420 : decode code 420 = .ok (.aload_n 0, 1) := by decide +kernel
theorem d_law0_421 : decode code 421 = .ok (.iload_n 3, 1) := by decide +kernel
theorem d_law0_422 : decode code 422 = .ok (.iconst 3, 1) := by decide +kernel
theorem d_law0_423 : decode code 423 = .ok (.iadd, 1) := by decide +kernel
theorem d_law0_424 : decode code 424 = .ok (.iaload, 1) := by decide +kernel
theorem d_law0_425 : decode code 425 = .ok (.invokevirtual 37, 3) := by decide +kernel
theorem d_law0_428 : decode code 428 = .ok (.aload_n 2, 1) := by decide +kernel
theorem d_law0_429 : decode code 429 = .ok (.aload_n 0, 1) := by decide +kernel
theorem d_law0_430 : decode code 430 = .ok (.iload_n 3, 1) := by decide +kernel
theorem d_law0_431 : decode code 431 = .ok (.iconst 1, 1) := by decide +kernel
theorem d_law0_432 : decode code 432 = .ok (.iadd, 1) := by decide +kernel
theorem d_law0_433 : decode code 433 = .ok (.iaload, 1) := by decide +kernel
theorem d_law0_434 : decode code 434 = .ok (.aload_n 0, 1) := by decide +kernel
theorem d_law0_435 : decode code 435 = .ok (.iload_n 3, 1) := by decide +kernel
theorem d_law0_436 : decode code 436 = .ok (.iconst 2, 1) := by decide +kernel
theorem d_law0_437 : decode code 437 = .ok (.iadd, 1) := by decide +kernel
theorem d_law0_438 : decode code 438 = .ok (.iaload, 1) := by decide +kernel
theorem d_law0_439 : decode code 439 = .ok (.aload_n 0, 1) := by decide +kernel
theorem d_law0_440 : decode code 440 = .ok (.iload_n 3, 1) := by decide +kernel
theorem d_law0_441 : decode code 441 = .ok (.iconst 3, 1) := by decide +kernel
theorem d_law0_442 : decode code 442 = .ok (.iadd, 1) := by decide +kernel
theorem d_law0_443 : decode code 443 = .ok (.iaload, 1) := by decide +kernel
theorem d_law0_444 : decode code 444 = .ok (.invokevirtual 40, 3) := by decide +kernel
theorem d_law0_447 : decode code 447 = .ok (.if_icmp .eq 837, 3) := by decide +kernel
theorem d_law0_450 : decode code 450 = .ok (.iconst 0, 1) := by decide +kernel
theorem d_law0_451 : decode code 451 = .ok (.ireturn, 1) := by decide +kernel
theorem d_law0_452 : decode code 452 = .ok (.aload_n 1, 1) := by decide +kernel
theorem d_law0_453 : decode code 453 = .ok (.aload_n 0, 1) := by decide +kernel
theorem d_law0_454 : decode code 454 = .ok (.iload_n 3, 1) := by decide +kernel
theorem d_law0_455 : decode code 455 = .ok (.iconst 1, 1) := by decide +kernel
theorem d_law0_456 : decode code 456 = .ok (.iadd, 1) := by decide +kernel
theorem d_law0_457 : decode code 457 = .ok (.iaload, 1) := by decide +kernel
theorem d_law0_458 : decode code 458 = .ok (.aload_n 0, 1) := by decide +kernel
theorem d_law0_459 : decode code 459 = .ok (.iload_n 3, 1) := by decide +kernel
theorem d_law0_460 : decode code 460 = .ok (.iconst 2, 1) := by decide +kernel
theorem d_law0_461 : decode code 461 = .ok (.iadd, 1) := by decide +kernel
theorem d_law0_462 : decode code 462 = .ok (.iaload, 1) := by decide +kernel
theorem d_law0_463 : decode code 463 = .ok (.aload_n 0, 1) := by decide +kernel
theorem d_law0_464 : decode code 464 = .ok (.iload_n 3, 1) := by decide +kernel
theorem d_law0_465 : decode code 465 = .ok (.iconst 3, 1) := by decide +kernel
theorem d_law0_466 : decode code 466 = .ok (.iadd, 1) := by decide +kernel
theorem d_law0_467 : decode code 467 = .ok (.iaload, 1) := by decide +kernel
theorem d_law0_468 : decode code 468 = .ok (.aload_n 0, 1) := by decide +kernel
theorem d_law0_469 : decode code 469 = .ok (.iload_n 3, 1) := by decide +kernel
theorem d_law0_470 : decode code 470 = .ok (.iconst 4, 1) := by decide +kernel
theorem d_law0_471 : decode code 471 = .ok (.iadd, 1) := by decide +kernel
theorem d_law0_472 : decode code 472 = .ok (.iaload, 1) := by decide +kernel
theorem d_law0_473 : decode code 473 = .ok (.aload_n 0, 1) := by decide +kernel
theorem d_law0_474 : decode code 474 = .ok (.iload_n 3, 1) := by decide +kernel
theorem d_law0_475 : decode code 475 = .ok (.iconst 5, 1) := by decide +kernel
theorem d_law0_476 : decode code 476 = .ok (.iadd, 1) := by decide +kernel
theorem d_law0_477 : decode code 477 = .ok (.iaload, 1) := by decide +kernel
theorem d_law0_478 : decode code 478 = .ok (.invokevirtual 41, 3) := by decide +kernel
theorem d_law0_481 : decode code 481 = .ok (.aload_n 2, 1) := by decide +kernel
theorem d_law0_482 : decode code 482 = .ok (.aload_n 0, 1) := by decide +kernel
theorem d_law0_483 : decode code 483 = .ok (.iload_n 3, 1) := by decide +kernel
theorem d_law0_484 : decode code 484 = .ok (.iconst 1, 1) := by decide +kernel
theorem d_law0_485 : decode code 485 = .ok (.iadd, 1) := by decide +kernel
theorem d_law0_486 : decode code 486 = .ok (.iaload, 1) := by decide +kernel
theorem d_law0_487 : decode code 487 = .ok (.aload_n 0, 1) := by decide +kernel
theorem d_law0_488 : decode code 488 = .ok (.iload_n 3, 1) := by decide +kernel
theorem d_law0_489 : decode code 489 = .ok (.iconst 2, 1) := by decide +kernel
theorem d_law0_490 : decode code 490 = .ok (.iadd, 1) := by decide +kernel
theorem d_law0_491 : decode code 491 = .ok (.iaload, 1) := by decide +kernel
theorem d_law0_492 : decode code 492 = .ok (.aload_n 0, 1) := by decide +kernel
theorem d_law0_493 : decode code 493 = .ok (.iload_n 3, 1) := by decide +kernel
theorem d_law0_494 : decode code 494 = .ok (.iconst 3, 1) := by decide +kernel
theorem d_law0_495 : decode code 495 = .ok (.iadd, 1) := by decide +kernel
theorem d_law0_496 : decode code 496 = .ok (.iaload, 1) := by decide +kernel
theorem d_law0_497 : decode code 497 = .ok (.aload_n 0, 1) := by decide +kernel
theorem d_law0_498 : decode code 498 = .ok (.iload_n 3, 1) := by decide +kernel
theorem d_law0_499 : decode code 499 = .ok (.iconst 4, 1) := by decide +kernel
theorem d_law0_500 : decode code 500 = .ok (.iadd, 1) := by decide +kernel
theorem d_law0_501 : decode code 501 = .ok (.iaload, 1) := by decide +kernel
theorem d_law0_502 : decode code 502 = .ok (.aload_n 0, 1) := by decide +kernel
theorem d_law0_503 : decode code 503 = .ok (.iload_n 3, 1) := by decide +kernel
theorem d_law0_504 : decode code 504 = .ok (.iconst 5, 1) := by decide +kernel
theorem d_law0_505 : decode code 505 = .ok (.iadd, 1) := by decide +kernel
theorem d_law0_506 : decode code 506 = .ok (.iaload, 1) := by decide +kernel
theorem d_law0_507 : decode code 507 = .ok (.invokevirtual 45, 3) := by decide +kernel
theorem d_law0_510 : decode code 510 = .ok (.if_icmp .eq 774, 3) := by decide +kernel
theorem d_law0_513 : decode code 513 = .ok (.iconst 0, 1) := by decide +kernel
theorem d_law0_514 : decode code 514 = .ok (.ireturn, 1) := by decide +kernel
theorem d_law0_515 : decode code 515 = .ok (.aload_n 1, 1) := by decide +kernel
