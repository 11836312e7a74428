theorem d_W_281 : decode code 281 = .ok (.iaload, 1) := by decide +kernel
theorem d_W_282 : decode code 282 = .ok (.aload_n 0, 1) := by decide +kernel
theorem d_W_283 : decode code 283 = .ok (.iload 4, 2) := by decide +kernel
theorem d_W_285 : decode code 285 = .ok (.iconst 3, 1) := by decide +kernel
theorem d_W_286 : decode code 286 = .ok (.iadd, 1) := by decide +kernel
theorem d_W_287 : decode code 287 = .ok (.iaload, 1) := by decide +kernel
theorem d_W_288 : decode code 288 = .ok (.invokevirtual 79, 3) := by decide +kernel
theorem d_W_291 : decode code 291 = .ok (.istore 6, 2) := by decide +kernel
theorem d_W_293 : decode code 293 = .ok (.aload_n 2, 1) := by decide +kernel
theorem d_W_294 : decode code 294 = .ok (.invokevirtual 70, 3) := by decide +kernel
theorem d_W_297 : decode code 297 = .ok (.iload 5, 2) := by decide +kernel
theorem d_W_299 : decode code 299 = .ok (.if_icmp .eq 5, 3) := by decide +kernel
theorem d_W_302 : decode code 302 = .ok (.iconst 0, 1) := by decide +kernel
theorem d_W_303 : decode code 303 = .ok (.ireturn, 1) := by decide +kernel
theorem d_W_304 : decode code 304 = .ok (.iload 5, 2) := by decide +kernel
theorem d_W_306 : decode code 306 = .ok (.ifCond .ne 15, 3) := by decide +kernel
theorem d_W_309 : decode code 309 = .ok (.aload_n 3, 1) := by decide +kernel
theorem d_W_310 : decode code 310 = .ok (.iconst 0, 1) := by decide +kernel
theorem d_W_311 : decode code 311 = .ok (.laload, 1) := by decide +kernel
theorem d_W_312 : decode code 312 = .ok (.iload 6, 2) := by decide +kernel
theorem d_W_314 : decode code 314 = .ok (.i2l, 1) := by decide +kernel
theorem d_W_315 : decode code 315 = .ok (.lcmp, 1) := by decide +kernel
theorem d_W_316 : decode code 316 = .ok (.ifCond .eq 5, 3) := by decide +kernel
theorem d_W_319 : decode code 319 = .ok (.iconst 0, 1) := by decide +kernel
theorem d_W_320 : decode code 320 = .ok (.ireturn, 1) := by decide +kernel
theorem d_W_321 : decode code 321 = .ok (.goto 550, 3) := by decide +kernel
theorem d_W_324 : decode code 324 = .ok (.aload_n 1, 1) := by decide +kernel
theorem d_W_325 : decode code 325 = .ok (.aload_n 0, 1) := by decide +kernel
theorem d_W_326 : decode code 326 = .ok (.iload 4, 2) := by decide +kernel
theorem d_W_328 : decode code 328 = .ok (.iconst 1, 1) := by decide +kernel
theorem d_W_329 : decode code 329 = .ok (.iadd, 1) := by decide +kernel
theorem d_W_330 : decode code 330 = .ok (.iaload, 1) := by decide +kernel
theorem d_W_331 : decode code 331 = .ok (.aload_n 3, 1) := by decide +kernel
theorem d_W_332 : decode code 332 = .ok (.invokestatic 80, 3) := by decide +kernel
theorem d_W_335 : decode code 335 = .ok (.istore 5, 2) := by decide +kernel
theorem d_W_337 : decode code 337 = .ok (.aload_n 2, 1) := by decide +kernel
theorem d_W_338 : decode code 338 = .ok (.aload_n 0, 1) := by decide +kernel
theorem d_W_339 : decode code 339 = .ok (.iload 4, 2) := by decide +kernel
theorem d_W_341 : decode code 341 = .ok (.iconst 1, 1) := by decide +kernel
theorem d_W_342 : decode code 342 = .ok (.iadd, 1) := by decide +kernel
theorem d_W_343 : decode code 343 = .ok (.iaload, 1) := by decide +kernel
theorem d_W_344 : decode code 344 = .ok (.invokevirtual 83, 3) := by decide +kernel
theorem d_W_347 : decode code 347 = .ok (.istore 6, 2) := by decide +kernel
theorem d_W_349 : decode code 349 = .ok (.aload_n 2, 1) := by decide +kernel
theorem d_W_350 : decode code 350 = .ok (.invokevirtual 70, 3) := by decide +kernel
theorem d_W_353 : decode code 353 = .ok (.iload 5, 2) := by decide +kernel
theorem d_W_355 : decode code 355 = .ok (.if_icmp .eq 5, 3) := by decide +kernel
theorem d_W_358 : decode code 358 = .ok (.iconst 0, 1) := by decide +kernel
theorem d_W_359 : decode code 359 = .ok (.ireturn, 1) := by decide +kernel
theorem d_W_360 : decode code 360 = .ok (.iload 5, 2) := by decide +kernel
theorem d_W_362 : decode code 362 = .ok (.ifCond .ne 15, 3) := by decide +kernel
theorem d_W_365 : decode code 365 = .ok (.aload_n 3, 1) := by decide +kernel
theorem d_W_366 : decode code 366 = .ok (.iconst 0, 1) := by decide +kernel
theorem d_W_367 : decode code 367 = .ok (.laload, 1) := by decide +kernel
theorem d_W_368 : decode code 368 = .ok (.iload 6, 2) := by decide +kernel
theorem d_W_370 : decode code 370 = .ok (.i2l, 1) := by decide +kernel
theorem d_W_371 : decode code 371 = .ok (.lcmp, 1) := by decide +kernel
theorem d_W_372 : decode code 372 = .ok (.ifCond .eq 5, 3) := by decide +kernel
theorem d_W_375 : decode code 375 = .ok (.iconst 0, 1) := by decide +kernel
theorem d_W_376 : decode code 376 = .ok (.ireturn, 1) := by decide +kernel
theorem d_W_377 : decode code 377 = .ok (.goto 494, 3) := by decide +kernel
theorem d_W_380 : decode code 380 = .ok (.aload_n 1, 1) := by decide +kernel
theorem d_W_381 : decode code 381 = .ok (.aload_n 0, 1) := by decide +kernel
theorem d_W_382 : decode code 382 = .ok (.iload 4, 2) := by decide +kernel
theorem d_W_384 : decode code 384 = .ok (.iconst 1, 1) := by decide +kernel
theorem d_W_385 : decode code 385 = .ok (.iadd, 1) := by decide +kernel
theorem d_W_386 : decode code 386 = .ok (.iaload, 1) := by decide +kernel
theorem d_W_387 : decode code 387 = .ok (.aload_n 3, 1) := by decide +kernel
theorem d_W_388 : decode code 388 = .ok (.invokestatic 84, 3) := by decide +kernel
theorem d_W_391 : decode code 391 = .ok (.istore 5, 2) := by decide +kernel
theorem d_W_393 : decode code 393 = .ok (.aload_n 2, 1) := by decide +kernel
theorem d_W_394 : decode code 394 = .ok (.aload_n 0, 1) := by decide +kernel
theorem d_W_395 : decode code 395 = .ok (.iload 4, 2) := by decide +kernel
theorem d_W_397 : decode code 397 = .ok (.iconst 1, 1) := by decide +kernel
theorem d_W_398 : decode code 398 = .ok (.iadd, 1) := by decide +kernel
theorem d_W_399 : decode code 399 = .ok (.iaload, 1) := by decide +kernel
theorem d_W_400 : decode code 400 = .ok (.invokevirtual 86, 3) := by decide +kernel
theorem d_W_403 : decode code 403 = .ok (.istore 6, 2) := by decide +kernel
theorem d_W_405 : decode code 405 = .ok (.aload_n 2, 1) := by decide +kernel
theorem d_W_406 : decode code 406 = .ok (.invokevirtual 70, 3) := by decide +kernel
theorem d_W_409 : decode code 409 = .ok (.iload 5, 2) := by decide +kernel
theorem d_W_411 : decode code 411 = .ok (.if_icmp .eq 5, 3) := by decide +kernel
theorem d_W_414 : decode code 414 = .ok (.iconst 0, 1) := by decide +kernel
theorem d_W_415 : decode code 415 = .ok (.ireturn, 1) := by decide +kernel
theorem d_W_416 : decode code 416 = .ok (.iload 5, 2) := by decide +kernel
theorem d_W_418 : decode code 418 = .ok (.ifCond .ne 15, 3) := by decide +kernel
theorem d_W_421 : decode code 421 = .ok (.aload_n 3, 1) := by decide +kernel
theorem d_W_422 : decode code 422 = .ok (.iconst 0, 1) := by decide +kernel
theorem d_W_423 : decode code 423 = .ok (.laload, 1) := by decide +kernel
theorem d_W_424 : decode code 424 = .ok (.iload 6, 2) := by decide +kernel
theorem d_W_426 : decode code 426 = .ok (.i2l, 1) := by decide +kernel
theorem d_W_427 : decode code 427 = .ok (.lcmp, 1) := by decide +kernel
theorem d_W_428 : decode code 428 = .ok (.ifCond .eq 5, 3) := by decide +kernel
theorem d_W_431 : decode code 431 = .ok (.iconst 0, 1) := by decide +kernel
theorem d_W_432 : decode code 432 = .ok (.ireturn, 1) := by decide +kernel
theorem d_W_433 : decode code 433 = .ok (.goto 438, 3) := by decide +kernel
theorem d_W_436 : decode code 436 = .ok (.aload_n 1, 1) := by decide +kernel
theorem d_W_437 : decode code 437 = .ok (.aload_n 0, 1) := by decide +kernel
theorem d_W_438 : decode code 438 = .ok (.iload 4, 2) := by decide +kernel
theorem d_W_440 : decode code 440 = .ok (.iconst 1, 1) := by decide +kernel
theorem d_W_441 : decode code 441 = .ok (.iadd, 1) := by decide +kernel
theorem d_W_442 : decode code 442 = .ok (.iaload, 1) := by decide +kernel
theorem d_W_443 : decode code 443 = .ok (.aload_n 0, 1) := by decide +kernel
theorem d_W_444 : decode code 444 = .ok (.iload 4, 2) := by decide +kernel
theorem d_W_446 : decode code 446 = .ok (.iconst 2, 1) := by decide +kernel
theorem d_W_447 : decode code 447 = .ok (.iadd, 1) := by decide +kernel
theorem d_W_448 : decode code 448 = .ok (.iaload, 1) := by decide +kernel
theorem d_W_449 : decode code 449 = .ok (.aload_n 0, 1) := by decide +kernel
theorem d_W_450 : decode code 450 = .ok (.iload 4, 2) := by decide +kernel
theorem d_W_452 : decode code 452 = .ok (.iconst 3, 1) := by decide +kernel
theorem d_W_453 : decode code 453 = .ok (.iadd, 1) := by decide +kernel
theorem d_W_454 : decode code 454 = .ok (.iaload, 1) := by decide +kernel
theorem d_W_455 : decode code 455 = .ok (.aload_n 3, 1) := by decide +kernel
theorem d_W_456 : decode code 456 = .ok (.invokestatic 87, 3) := by decide +kernel
theorem d_W_459 : decode code 459 = .ok (.istore 5, 2) := by decide +kernel
theorem d_W_461 : decode code 461 = .ok (.aload_n 2, 1) := by decide +kernel
theorem d_W_462 : decode code 462 = .ok (.aload_n 0, 1) := by decide +kernel
theorem d_W_463 : decode code 463 = .ok (.iload 4, 2) := by decide +kernel
theorem d_W_465 : decode code 465 = .ok (.iconst 1, 1) := by decide +kernel
theorem d_W_466 : decode code 466 = .ok (.iadd, 1) := by decide +kernel
theorem d_W_467 : decode code 467 = .ok (.iaload, 1) := by decide +kernel
theorem d_W_468 : decode code 468 = .ok (.aload_n 0, 1) := by decide +kernel
theorem d_W_469 : decode code 469 = .ok (.iload 4, 2) := by decide +kernel
theorem d_W_471 : decode code 471 = .ok (.iconst 2, 1) := by decide +kernel
theorem d_W_472 : decode code 472 = .ok (.iadd, 1) := by decide +kernel
theorem d_W_473 : decode code 473 = .ok (.iaload, 1) := by decide +kernel
theorem d_W_474 : decode code 474 = .ok (.aload_n 0, 1) := by decide +kernel
theorem d_W_475 : decode code 475 = .ok (.iload 4, 2) := by decide +kernel
theorem d_W_477 : decode code 477 = .ok (.iconst 3, 1) := by decide +kernel
theorem d_W_478 : decode code 478 = .ok (.iadd, 1) := by decide +kernel
theorem d_W_479 : decode code 479 = .ok (.iaload, 1) := by decide +kernel
theorem d_W_480 : decode code 480 = .ok (.invokevirtual 89, 3) := by decide +kernel
theorem d_W_483 : decode code 483 = .ok (.istore 6, 2) := by decide +kernel
theorem d_W_485 : decode code 485 = .ok (.aload_n 2, 1) := by decide +kernel
theorem d_W_486 : decode code 486 = .ok (.invokevirtual 70, 3) := by decide +kernel
theorem d_W_489 : decode code 489 = .ok (.iload 5, 2) := by decide +kernel
theorem d_W_491 : decode code 491 = .ok (.if_icmp .eq 5, 3) := by decide +kernel
theorem d_W_494 : decode code 494 = .ok (.iconst 0, 1) := by decide +kernel
theorem d_W_495 : decode code 495 = .ok (.ireturn, 1) := by decide +kernel
theorem d_W_496 : decode code 496 = .ok (.iload 5, 2) := by decide +kernel
