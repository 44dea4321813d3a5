theorem zd_L_law_280 : decode zb_L_law 280 = .ok (.invokevirtual 40, 3) := by decide +kernel
theorem zd_L_law_283 : decode zb_L_law 283 = .ok (.if_icmp .eq 354, 3) := by decide +kernel
theorem zd_L_law_286 : decode zb_L_law 286 = .ok (.iconst 0, 1) := by decide +kernel
theorem zd_L_law_287 : decode zb_L_law 287 = .ok (.ireturn, 1) := by decide +kernel
theorem zd_L_law_288 : decode zb_L_law 288 = .ok (.aload_n 1, 1) := by decide +kernel
theorem zd_L_law_289 : decode zb_L_law 289 = .ok (.invokevirtual 41, 3) := by decide +kernel
theorem zd_L_law_292 : decode zb_L_law 292 = .ok (.aload_n 2, 1) := by decide +kernel
theorem zd_L_law_293 : decode zb_L_law 293 = .ok (.invokevirtual 45, 3) := by decide +kernel
theorem zd_L_law_296 : decode zb_L_law 296 = .ok (.if_icmp .eq 341, 3) := by decide +kernel
theorem zd_L_law_299 : decode zb_L_law 299 = .ok (.iconst 0, 1) := by decide +kernel
theorem zd_L_law_300 : decode zb_L_law 300 = .ok (.ireturn, 1) := by decide +kernel
theorem zd_L_law_301 : decode zb_L_law 301 = .ok (.aload_n 1, 1) := by decide +kernel
theorem zd_L_law_302 : decode zb_L_law 302 = .ok (.aload_n 0, 1) := by decide +kernel
theorem zd_L_law_303 : decode zb_L_law 303 = .ok (.iload_n 3, 1) := by decide +kernel
theorem zd_L_law_304 : decode zb_L_law 304 = .ok (.iconst 1, 1) := by decide +kernel
theorem zd_L_law_305 : decode zb_L_law 305 = .ok (.iadd, 1) := by decide +kernel
theorem zd_L_law_306 : decode zb_L_law 306 = .ok (.iaload, 1) := by decide +kernel
theorem zd_L_law_307 : decode zb_L_law 307 = .ok (.invokevirtual 46, 3) := by decide +kernel
theorem zd_L_law_310 : decode zb_L_law 310 = .ok (.aload_n 2, 1) := by decide +kernel
theorem zd_L_law_311 : decode zb_L_law 311 = .ok (.aload_n 0, 1) := by decide +kernel
theorem zd_L_law_312 : decode zb_L_law 312 = .ok (.iload_n 3, 1) := by decide +kernel
theorem zd_L_law_313 : decode zb_L_law 313 = .ok (.iconst 1, 1) := by decide +kernel
theorem zd_L_law_314 : decode zb_L_law 314 = .ok (.iadd, 1) := by decide +kernel
theorem zd_L_law_315 : decode zb_L_law 315 = .ok (.iaload, 1) := by decide +kernel
theorem zd_L_law_316 : decode zb_L_law 316 = .ok (.invokevirtual 49, 3) := by decide +kernel
theorem zd_L_law_319 : decode zb_L_law 319 = .ok (.if_icmp .eq 318, 3) := by decide +kernel
theorem zd_L_law_322 : decode zb_L_law 322 = .ok (.iconst 0, 1) := by decide +kernel
theorem zd_L_law_323 : decode zb_L_law 323 = .ok (.ireturn, 1) := by decide +kernel
theorem zd_L_law_324 : decode zb_L_law 324 = .ok (.aload_n 1, 1) := by decide +kernel
theorem zd_L_law_325 : decode zb_L_law 325 = .ok (.aload_n 0, 1) := by decide +kernel
theorem zd_L_law_326 : decode zb_L_law 326 = .ok (.iload_n 3, 1) := by decide +kernel
theorem zd_L_law_327 : decode zb_L_law 327 = .ok (.iconst 1, 1) := by decide +kernel
theorem zd_L_law_328 : decode zb_L_law 328 = .ok (.iadd, 1) := by decide +kernel
theorem zd_L_law_329 : decode zb_L_law 329 = .ok (.iaload, 1) := by decide +kernel
theorem zd_L_law_330 : decode zb_L_law 330 = .ok (.invokevirtual 50, 3) := by decide +kernel
theorem zd_L_law_333 : decode zb_L_law 333 = .ok (.aload_n 2, 1) := by decide +kernel
theorem zd_L_law_334 : decode zb_L_law 334 = .ok (.aload_n 0, 1) := by decide +kernel
theorem zd_L_law_335 : decode zb_L_law 335 = .ok (.iload_n 3, 1) := by decide +kernel
theorem zd_L_law_336 : decode zb_L_law 336 = .ok (.iconst 1, 1) := by decide +kernel
theorem zd_L_law_337 : decode zb_L_law 337 = .ok (.iadd, 1) := by decide +kernel
theorem zd_L_law_338 : decode zb_L_law 338 = .ok (.iaload, 1) := by decide +kernel
theorem zd_L_law_339 : decode zb_L_law 339 = .ok (.invokevirtual 53, 3) := by decide +kernel
theorem zd_L_law_342 : decode zb_L_law 342 = .ok (.if_icmp .eq 295, 3) := by decide +kernel
theorem zd_L_law_345 : decode zb_L_law 345 = .ok (.iconst 0, 1) := by decide +kernel
theorem zd_L_law_346 : decode zb_L_law 346 = .ok (.ireturn, 1) := by decide +kernel
theorem zd_L_law_347 : decode zb_L_law 347 = .ok (.aload_n 1, 1) := by decide +kernel
theorem zd_L_law_348 : decode zb_L_law 348 = .ok (.aload_n 0, 1) := by decide +kernel
theorem zd_L_law_349 : decode zb_L_law 349 = .ok (.iload_n 3, 1) := by decide +kernel
theorem zd_L_law_350 : decode zb_L_law 350 = .ok (.iconst 1, 1) := by decide +kernel
theorem zd_L_law_351 : decode zb_L_law 351 = .ok (.iadd, 1) := by decide +kernel
theorem zd_L_law_352 : decode zb_L_law 352 = .ok (.iaload, 1) := by decide +kernel
theorem zd_L_law_353 : decode zb_L_law 353 = .ok (.invokevirtual 54, 3) := by decide +kernel
theorem zd_L_law_356 : decode zb_L_law 356 = .ok (.aload_n 2, 1) := by decide +kernel
theorem zd_L_law_357 : decode zb_L_law 357 = .ok (.aload_n 0, 1) := by decide +kernel
theorem zd_L_law_358 : decode zb_L_law 358 = .ok (.iload_n 3, 1) := by decide +kernel
theorem zd_L_law_359 : decode zb_L_law 359 = .ok (.iconst 1, 1) := by decide +kernel
theorem zd_L_law_360 : decode zb_L_law 360 = .ok (.iadd, 1) := by decide +kernel
theorem zd_L_law_361 : decode zb_L_law 361 = .ok (.iaload, 1) := by decide +kernel
theorem zd_L_law_362 : decode zb_L_law 362 = .ok (.invokevirtual 58, 3) := by decide +kernel
theorem zd_L_law_365 : decode zb_L_law 365 = .ok (.if_icmp .eq 272, 3) := by decide +kernel
theorem zd_L_law_368 : decode zb_L_law 368 = .ok (.iconst 0, 1) := by decide +kernel
theorem zd_L_law_369 : decode zb_L_law 369 = .ok (.ireturn, 1) := by decide +kernel
theorem zd_L_law_370 : decode zb_L_law 370 = .ok (.aload_n 1, 1) := by decide +kernel
theorem zd_L_law_371 : decode zb_L_law 371 = .ok (.aload_n 0, 1) := by decide +kernel
theorem zd_L_law_372 : decode zb_L_law 372 = .ok (.iload_n 3, 1) := by decide +kernel
theorem zd_L_law_373 : decode zb_L_law 373 = .ok (.iconst 1, 1) := by decide +kernel
theorem zd_L_law_374 : decode zb_L_law 374 = .ok (.iadd, 1) := by decide +kernel
theorem zd_L_law_375 : decode zb_L_law 375 = .ok (.iaload, 1) := by decide +kernel
theorem zd_L_law_376 : decode zb_L_law 376 = .ok (.aload_n 0, 1) := by decide +kernel
theorem zd_L_law_377 : decode zb_L_law 377 = .ok (.iload_n 3, 1) := by decide +kernel
theorem zd_L_law_378 : decode zb_L_law 378 = .ok (.iconst 2, 1) := by decide +kernel
theorem zd_L_law_379 : decode zb_L_law 379 = .ok (.iadd, 1) := by decide +kernel
theorem zd_L_law_380 : decode zb_L_law 380 = .ok (.iaload, 1) := by decide +kernel
theorem zd_L_law_381 : decode zb_L_law 381 = .ok (.aload_n 0, 1) := by decide +kernel
theorem zd_L_law_382 : decode zb_L_law 382 = .ok (.iload_n 3, 1) := by decide +kernel
theorem zd_L_law_383 : decode zb_L_law 383 = .ok (.iconst 3, 1) := by decide +kernel
theorem zd_L_law_384 : decode zb_L_law 384 = .ok (.iadd, 1) := by decide +kernel
theorem zd_L_law_385 : decode zb_L_law 385 = .ok (.iaload, 1) := by decide +kernel
theorem zd_L_law_386 : decode zb_L_law 386 = .ok (.invokevirtual 59, 3) := by decide +kernel
theorem zd_L_law_389 : decode zb_L_law 389 = .ok (.aload_n 2, 1) := by decide +kernel
theorem zd_L_law_390 : decode zb_L_law 390 = .ok (.aload_n 0, 1) := by decide +kernel
theorem zd_L_law_391 : decode zb_L_law 391 = .ok (.iload_n 3, 1) := by decide +kernel
theorem zd_L_law_392 : decode zb_L_law 392 = .ok (.iconst 1, 1) := by decide +kernel
theorem zd_L_law_393 : decode zb_L_law 393 = .ok (.iadd, 1) := by decide +kernel
theorem zd_L_law_394 : decode zb_L_law 394 = .ok (.iaload, 1) := by decide +kernel
theorem zd_L_law_395 : decode zb_L_law 395 = .ok (.aload_n 0, 1) := by decide +kernel
theorem zd_L_law_396 : decode zb_L_law 396 = .ok (.iload_n 3, 1) := by decide +kernel
theorem zd_L_law_397 : decode zb_L_law 397 = .ok (.iconst 2, 1) := by decide +kernel
theorem zd_L_law_398 : decode zb_L_law 398 = .ok (.iadd, 1) := by decide +kernel
theorem zd_L_law_399 : decode zb_L_law 399 = .ok (.iaload, 1) := by decide +kernel
theorem zd_L_law_400 : decode zb_L_law 400 = .ok (.aload_n 0, 1) := by decide +kernel
theorem zd_L_law_401 : decode zb_L_law 401 = .ok (.iload_n 3, 1) := by decide +kernel
theorem zd_L_law_402 : decode zb_L_law 402 = .ok (.iconst 3, 1) := by decide +kernel
theorem zd_L_law_403 : decode zb_L_law 403 = .ok (.iadd, 1) := by decide +kernel
theorem zd_L_law_404 : decode zb_L_law 404 = .ok (.iaload, 1) := by decide +kernel
theorem zd_L_law_405 : decode zb_L_law 405 = .ok (.invokevirtual 62, 3) := by decide +kernel
theorem zd_L_law_408 : decode zb_L_law 408 = .ok (.if_icmp .eq 229, 3) := by decide +kernel
theorem zd_L_law_411 : decode zb_L_law 411 = .ok (.iconst 0, 1) := by decide +kernel
theorem zd_L_law_412 : decode zb_L_law 412 = .ok (.ireturn, 1) := by decide +kernel
theorem zd_L_law_413 : decode zb_L_law 413 = .ok (.aload_n 1, 1) := by decide +kernel
theorem zd_L_law_414 : decode zb_L_law 414 = .ok (.aload_n 0, 1) := by decide +kernel
theorem zd_L_law_415 : decode zb_L_law 415 = .ok (.iload_n 3, 1) := by decide +kernel
theorem zd_L_law_416 : decode zb_L_law 416 = .ok (.iconst 1, 1) := by decide +kernel
theorem zd_L_law_417 : decode zb_L_law 417 = .ok (.iadd, 1) := by decide +kernel
theorem zd_L_law_418 : decode zb_L_law 418 = .ok (.iaload, 1) := by decide +kernel
theorem zd_L_law_419 : decode zb_L_law 419 = .ok (.aload_n 0, 1) := by decide +kernel
theorem zd_L_law_420 : decode zb_L_law 420 = .ok (.iload_n 3, 1) := by decide +kernel
theorem zd_L_law_421 : decode zb_L_law 421 = .ok (.iconst 2, 1) := by decide +kernel
theorem zd_L_law_422 : decode zb_L_law 422 = .ok (.iadd, 1) := by decide +kernel
theorem zd_L_law_423 : decode zb_L_law 423 = .ok (.iaload, 1) := by decide +kernel
theorem zd_L_law_424 : decode zb_L_law 424 = .ok (.aload_n 0, 1) := by decide +kernel
theorem zd_L_law_425 : decode zb_L_law 425 = .ok (.iload_n 3, 1) := by decide +kernel
theorem zd_L_law_426 : decode zb_L_law 426 = .ok (.iconst 3, 1) := by decide +kernel
theorem zd_L_law_427 : decode zb_L_law 427 = .ok (.iadd, 1) := by decide +kernel
theorem zd_L_law_428 : decode zb_L_law 428 = .ok (.iaload, 1) := by decide +kernel
theorem zd_L_law_429 : decode zb_L_law 429 = .ok (.invokevirtual 63, 3) := by decide +kernel
theorem zd_L_law_432 : decode zb_L_law 432 = .ok (.aload_n 2, 1) := by decide +kernel
theorem zd_L_law_433 : decode zb_L_law 433 = .ok (.aload_n 0, 1) := by decide +kernel
theorem zd_L_law_434 : decode zb_L_law 434 = .ok (.iload_n 3, 1) := by decide +kernel
theorem zd_L_law_435 : decode zb_L_law 435 = .ok (.iconst 1, 1) := by decide +kernel
theorem zd_L_law_436 : decode zb_L_law 436 = .ok (.iadd, 1) := by decide +kernel
theorem zd_L_law_437 : decode zb_L_law 437 = .ok (.iaload, 1) := by decide +kernel
theorem zd_L_law_438 : decode zb_L_law 438 = .ok (.aload_n 0, 1) := by decide +kernel
theorem zd_L_law_439 : decode zb_L_law 439 = .ok (.iload_n 3, 1) := by decide +kernel
theorem zd_L_law_440 : decode zb_L_law 440 = .ok (.iconst 2, 1) := by decide +kernel
theorem zd_L_law_441 : decode zb_L_law 441 = .ok (.iadd, 1) := by decide +kernel
theorem zd_L_law_442 : decode zb_L_law 442 = .ok (.iaload, 1) := by decide +kernel
theorem zd_L_law_443 : decode zb_L_law 443 = .ok (.aload_n 0, 1) := by decide +kernel
theorem zd_L_law_444 : decode zb_L_law 444 = .ok (.iload_n 3, 1) := by decide +kernel
theorem zd_L_law_445 : decode zb_L_law 445 = .ok (.iconst 3, 1) := by decide +kernel
theorem zd_L_law_446 : decode zb_L_law 446 = .ok (.iadd, 1) := by decide +kernel
theorem zd_L_law_447 : decode zb_L_law 447 = .ok (.iaload, 1) := by decide +kernel
theorem zd_L_law_448 : decode zb_L_law 448 = .ok (.invokevirtual 66, 3) := by decide +kernel
theorem zd_L_law_451 : decode zb_L_law 451 = .ok (.if_icmp .eq 186, 3) := by decide +kernel
theorem zd_L_law_454 : decode zb_L_law 454 = .ok (.iconst 0, 1) := by decide +kernel
theorem zd_L_law_455 : decode zb_L_law 455 = .ok (.ireturn, 1) := by decide +kernel
theorem zd_L_law_456 : decode zb_L_law 456 = .ok (.aload_n 1, 1) := by decide +kernel
theorem zd_L_law_457 : decode zb_L_law 457 = .ok (.aload_n 0, 1) := by decide +kernel
theorem zd_L_law_458 : decode zb_L_law 458 = .ok (.iload_n 3, 1) := by decide +kernel
theorem zd_L_law_459 : decode zb_L_law 459 = .ok (.iconst 1, 1) := by decide +kernel
theorem zd_L_law_460 : decode zb_L_law 460 = .ok (.iadd, 1) := by decide +kernel
theorem zd_L_law_461 : decode zb_L_law 461 = .ok (.iaload, 1) := by decide +kernel
theorem zd_L_law_462 : decode zb_L_law 462 = .ok (.aload_n 0, 1) := by decide +kernel
theorem zd_L_law_463 : decode zb_L_law 463 = .ok (.iload_n 3, 1) := by decide +kernel
theorem zd_L_law_464 : decode zb_L_law 464 = .ok (.iconst 2, 1) := by decide +kernel
theorem zd_L_law_465 : decode zb_L_law 465 = .ok (.iadd, 1) := by decide +kernel
theorem zd_L_law_466 : decode zb_L_law 466 = .ok (.iaload, 1) := by decide +kernel
theorem zd_L_law_467 : decode zb_L_law 467 = .ok (.invokevirtual 67, 3) := by decide +kernel
theorem zd_L_law_470 : decode zb_L_law 470 = .ok (.aload_n 2, 1) := by decide +kernel
theorem zd_L_law_471 : decode zb_L_law 471 = .ok (.aload_n 0, 1) := by decide +kernel
