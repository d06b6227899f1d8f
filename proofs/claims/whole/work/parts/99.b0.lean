/-! the law: names, rows -/
theorem d_W_0 : decode code 0 = .ok (.new 7, 3) := by decide +kernel
theorem d_W_3 : decode code 3 = .ok (.dup, 1) := by decide +kernel
theorem d_W_4 : decode code 4 = .ok (.invokespecial 9, 3) := by decide +kernel
theorem d_W_7 : decode code 7 = .ok (.astore_n 1, 1) := by decide +kernel
theorem d_W_8 : decode code 8 = .ok (.new 10, 3) := by decide +kernel
theorem d_W_11 : decode code 11 = .ok (.dup, 1) := by decide +kernel
theorem d_W_12 : decode code 12 = .ok (.invokespecial 12, 3) := by decide +kernel
theorem d_W_15 : decode code 15 = .ok (.astore_n 2, 1) := by decide +kernel
theorem d_W_16 : decode code 16 = .ok (.iconst 0, 1) := by decide +kernel
theorem d_W_17 : decode code 17 = .ok (.istore_n 3, 1) := by decide +kernel
theorem d_W_18 : decode code 18 = .ok (.iload_n 3, 1) := by decide +kernel
theorem d_W_19 : decode code 19 = .ok (.aload_n 0, 1) := by decide +kernel
theorem d_W_20 : decode code 20 = .ok (.arraylength, 1) := by decide +kernel
theorem d_W_21 : decode code 21 = .ok (.bipush 6, 2) := by decide +kernel
theorem d_W_23 : decode code 23 = .ok (.isub, 1) := by decide +kernel
theorem d_W_24 : decode code 24 = .ok (.if_icmp .gt 1463, 3) := by decide +kernel
theorem d_W_27 : decode code 27 = .ok (.aload_n 0, 1) := by decide +kernel
theorem d_W_28 : decode code 28 = .ok (.iload_n 3, 1) := by decide +kernel
theorem d_W_29 : decode code 29 = .ok (.iaload, 1) := by decide +kernel
theorem d_W_30 : decode code 30 = .ok (.bipush 63, 2) := by decide +kernel
theorem d_W_32 : decode code 32 = .ok (.iand, 1) := by decide +kernel
theorem d_W_33 : decode code 33 = .ok (.tableswitch 1448 0 42 #[187, 210, 223, 256, 289, 332, 375, 408, 441, 474, 497, 510, 553, 586, 619, 652, 665, 708, 751, 794, 837, 860, 893, 906, 939, 972, 1005, 1048, 1112, 1145, 1168, 1191, 1214, 1238, 1271, 1294, 1307, 1330, 1343, 1356, 1399, 1412, 1425], 187) := by decide +kernel
theorem d_W_220 : decode code 220 = .ok (.aload_n 1, 1) := by decide +kernel
theorem d_W_221 : decode code 221 = .ok (.aload_n 0, 1) := by decide +kernel
theorem d_W_222 : decode code 222 = .ok (.iload_n 3, 1) := by decide +kernel
theorem d_W_223 : decode code 223 = .ok (.iconst 1, 1) := by decide +kernel
theorem d_W_224 : decode code 224 = .ok (.iadd, 1) := by decide +kernel
theorem d_W_225 : decode code 225 = .ok (.iaload, 1) := by decide +kernel
theorem d_W_226 : decode code 226 = .ok (.invokevirtual 13, 3) := by decide +kernel
theorem d_W_229 : decode code 229 = .ok (.aload_n 2, 1) := by decide +kernel
theorem d_W_230 : decode code 230 = .ok (.aload_n 0, 1) := by decide +kernel
theorem d_W_231 : decode code 231 = .ok (.iload_n 3, 1) := by decide +kernel
theorem d_W_232 : decode code 232 = .ok (.iconst 1, 1) := by decide +kernel
theorem d_W_233 : decode code 233 = .ok (.iadd, 1) := by decide +kernel
theorem d_W_234 : decode code 234 = .ok (.iaload, 1) := by decide +kernel
theorem d_W_235 : decode code 235 = .ok (.invokevirtual 17, 3) := by decide +kernel
theorem d_W_238 : decode code 238 = .ok (.if_icmp .eq 1243, 3) := by decide +kernel
theorem d_W_241 : decode code 241 = .ok (.iconst 0, 1) := by decide +kernel
theorem d_W_242 : decode code 242 = .ok (.ireturn, 1) := by decide +kernel
theorem d_W_243 : decode code 243 = .ok (.aload_n 1, 1) := by decide +kernel
theorem d_W_244 : decode code 244 = .ok (.invokevirtual 18, 3) := by decide +kernel
theorem d_W_247 : decode code 247 = .ok (.aload_n 2, 1) := by decide +kernel
theorem d_W_248 : decode code 248 = .ok (.invokevirtual 22, 3) := by decide +kernel
theorem d_W_251 : decode code 251 = .ok (.if_icmp .eq 1230, 3) := by decide +kernel
theorem d_W_254 : decode code 254 = .ok (.iconst 0, 1) := by decide +kernel
theorem d_W_255 : decode code 255 = .ok (.ireturn, 1) := by decide +kernel
theorem d_W_256 : decode code 256 = .ok (.aload_n 1, 1) := by decide +kernel
theorem d_W_257 : decode code 257 = .ok (.aload_n 0, 1) := by decide +kernel
theorem d_W_258 : decode code 258 = .ok (.iload_n 3, 1) := by decide +kernel
theorem d_W_259 : decode code 259 = .ok (.iconst 1, 1) := by decide +kernel
theorem d_W_260 : decode code 260 = .ok (.iadd, 1) := by decide +kernel
theorem d_W_261 : decode code 261 = .ok (.iaload, 1) := by decide +kernel
theorem d_W_262 : decode code 262 = .ok (.aload_n 0, 1) := by decide +kernel
theorem d_W_263 : decode code 263 = .ok (.iload_n 3, 1) := by decide +kernel
theorem d_W_264 : decode code 264 = .ok (.iconst 2, 1) := by decide +kernel
theorem d_W_265 : decode code 265 = .ok (.iadd, 1) := by decide +kernel
theorem d_W_266 : decode code 266 = .ok (.iaload, 1) := by decide +kernel
theorem d_W_267 : decode code 267 = .ok (.invokevirtual 23, 3) := by decide +kernel
theorem d_W_270 : decode code 270 = .ok (.aload_n 2, 1) := by decide +kernel
theorem d_W_271 : decode code 271 = .ok (.aload_n 0, 1) := by decide +kernel
theorem d_W_272 : decode code 272 = .ok (.iload_n 3, 1) := by decide +kernel
theorem d_W_273 : decode code 273 = .ok (.iconst 1, 1) := by decide +kernel
theorem d_W_274 : decode code 274 = .ok (.iadd, 1) := by decide +kernel
theorem d_W_275 : decode code 275 = .ok (.iaload, 1) := by decide +kernel
theorem d_W_276 : decode code 276 = .ok (.aload_n 0, 1) := by decide +kernel
theorem d_W_277 : decode code 277 = .ok (.iload_n 3, 1) := by decide +kernel
theorem d_W_278 : decode code 278 = .ok (.iconst 2, 1) := by decide +kernel
theorem d_W_279 : decode code 279 = .ok (.iadd, 1) := by decide +kernel
theorem d_W_280 : decode code 280 = .ok (.iaload, 1) := by decide +kernel
theorem d_W_281 : decode code 281 = .ok (.invokevirtual 27, 3) := by decide +kernel
theorem d_W_284 : decode code 284 = .ok (.if_icmp .eq 1197, 3) := by decide +kernel
theorem d_W_287 : decode code 287 = .ok (.iconst 0, 1) := by decide +kernel
theorem d_W_288 : decode code 288 = .ok (.ireturn, 1) := by decide +kernel
theorem d_W_289 : decode code 289 = .ok (.aload_n 1, 1) := by decide +kernel
theorem d_W_290 : decode code 290 = .ok (.aload_n 0, 1) := by decide +kernel
theorem d_W_291 : decode code 291 = .ok (.iload_n 3, 1) := by decide +kernel
theorem d_W_292 : decode code 292 = .ok (.iconst 1, 1) := by decide +kernel
theorem d_W_293 : decode code 293 = .ok (.iadd, 1) := by decide +kernel
theorem d_W_294 : decode code 294 = .ok (.iaload, 1) := by decide +kernel
theorem d_W_295 : decode code 295 = .ok (.aload_n 0, 1) := by decide +kernel
theorem d_W_296 : decode code 296 = .ok (.iload_n 3, 1) := by decide +kernel
theorem d_W_297 : decode code 297 = .ok (.iconst 2, 1) := by decide +kernel
theorem d_W_298 : decode code 298 = .ok (.iadd, 1) := by decide +kernel
theorem d_W_299 : decode code 299 = .ok (.iaload, 1) := by decide +kernel
theorem d_W_300 : decode code 300 = .ok (.invokevirtual 28, 3) := by decide +kernel
theorem d_W_303 : decode code 303 = .ok (.aload_n 2, 1) := by decide +kernel
theorem d_W_304 : decode code 304 = .ok (.aload_n 0, 1) := by decide +kernel
theorem d_W_305 : decode code 305 = .ok (.iload_n 3, 1) := by decide +kernel
theorem d_W_306 : decode code 306 = .ok (.iconst 1, 1) := by decide +kernel
theorem d_W_307 : decode code 307 = .ok (.iadd, 1) := by decide +kernel
theorem d_W_308 : decode code 308 = .ok (.iaload, 1) := by decide +kernel
theorem d_W_309 : decode code 309 = .ok (.aload_n 0, 1) := by decide +kernel
theorem d_W_310 : decode code 310 = .ok (.iload_n 3, 1) := by decide +kernel
theorem d_W_311 : decode code 311 = .ok (.iconst 2, 1) := by decide +kernel
theorem d_W_312 : decode code 312 = .ok (.iadd, 1) := by decide +kernel
theorem d_W_313 : decode code 313 = .ok (.iaload, 1) := by decide +kernel
theorem d_W_314 : decode code 314 = .ok (.invokevirtual 31, 3) := by decide +kernel
theorem d_W_317 : decode code 317 = .ok (.if_icmp .eq 1164, 3) := by decide +kernel
theorem d_W_320 : decode code 320 = .ok (.iconst 0, 1) := by decide +kernel
theorem d_W_321 : decode code 321 = .ok (.ireturn, 1) := by decide +kernel
theorem d_W_322 : decode code 322 = .ok (.aload_n 1, 1) := by decide +kernel
theorem d_W_323 : decode code 323 = .ok (.aload_n 0, 1) := by decide +kernel
theorem d_W_324 : decode code 324 = .ok (.iload_n 3, 1) := by decide +kernel
theorem d_W_325 : decode code 325 = .ok (.iconst 1, 1) := by decide +kernel
theorem d_W_326 : decode code 326 = .ok (.iadd, 1) := by decide +kernel
theorem d_W_327 : decode code 327 = .ok (.iaload, 1) := by decide +kernel
theorem d_W_328 : decode code 328 = .ok (.aload_n 0, 1) := by decide +kernel
theorem d_W_329 : decode code 329 = .ok (.iload_n 3, 1) := by decide +kernel
theorem d_W_330 : decode code 330 = .ok (.iconst 2, 1) := by decide +kernel
theorem d_W_331 : decode code 331 = .ok (.iadd, 1) := by decide +kernel
theorem d_W_332 : decode code 332 = .ok (.iaload, 1) := by decide +kernel
theorem d_W_333 : decode code 333 = .ok (.aload_n 0, 1) := by decide +kernel
theorem d_W_334 : decode code 334 = .ok (.iload_n 3, 1) := by decide +kernel
theorem d_W_335 : decode code 335 = .ok (.iconst 3, 1) := by decide +kernel
theorem d_W_336 : decode code 336 = .ok (.iadd, 1) := by decide +kernel
theorem d_W_337 : decode code 337 = .ok (.iaload, 1) := by decide +kernel
theorem d_W_338 : decode code 338 = .ok (.invokevirtual 32, 3) := by decide +kernel
theorem d_W_341 : decode code 341 = .ok (.aload_n 2, 1) := by decide +kernel
theorem d_W_342 : decode code 342 = .ok (.aload_n 0, 1) := by decide +kernel
theorem d_W_343 : decode code 343 = .ok (.iload_n 3, 1) := by decide +kernel
theorem d_W_344 : decode code 344 = .ok (.iconst 1, 1) := by decide +kernel
theorem d_W_345 : decode code 345 = .ok (.iadd, 1) := by decide +kernel
theorem d_W_346 : decode code 346 = .ok (.iaload, 1) := by decide +kernel
theorem d_W_347 : decode code 347 = .ok (.aload_n 0, 1) := by decide +kernel
theorem d_W_348 : decode code 348 = .ok (.iload_n 3, 1) := by decide +kernel
theorem d_W_349 : decode code 349 = .ok (.iconst 2, 1) := by decide +kernel
theorem d_W_350 : decode code 350 = .ok (.iadd, 1) := by decide +kernel
theorem d_W_351 : decode code 351 = .ok (.iaload, 1) := by decide +kernel
theorem d_W_352 : decode code 352 = .ok (.aload_n 0, 1) := by decide +kernel
theorem d_W_353 : decode code 353 = .ok (.iload_n 3, 1) := by decide +kernel
theorem d_W_354 : decode code 354 = .ok (.iconst 3, 1) := by decide +kernel
theorem d_W_355 : decode code 355 = .ok (.iadd, 1) := by decide +kernel
theorem d_W_356 : decode code 356 = .ok (.iaload, 1) := by decide +kernel
theorem d_W_357 : decode code 357 = .ok (.invokevirtual 36, 3) := by decide +kernel
theorem d_W_360 : decode code 360 = .ok (.if_icmp .eq 1121, 3) := by decide +kernel
theorem d_W_363 : decode code 363 = .ok (.iconst 0, 1) := by decide +kernel
theorem d_W_364 : decode code 364 = .ok (.ireturn, 1) := by decide +kernel
theorem d_W_365 : decode code 365 = .ok (.aload_n 1, 1) := by decide +kernel
theorem d_W_366 : decode code 366 = .ok (.aload_n 0, 1) := by decide +kernel
theorem d_W_367 : decode code 367 = .ok (.iload_n 3, 1) := by decide +kernel
theorem d_W_368 : decode code 368 = .ok (.iconst 1, 1) := by decide +kernel
theorem d_W_369 : decode code 369 = .ok (.iadd, 1) := by decide +kernel
theorem d_W_370 : decode code 370 = .ok (.iaload, 1) := by decide +kernel
theorem d_W_371 : decode code 371 = .ok (.aload_n 0, 1) := by decide +kernel
theorem d_W_372 : decode code 372 = .ok (.iload_n 3, 1) := by decide +kernel
theorem d_W_373 : decode code 373 = .ok (.iconst 2, 1) := by decide +kernel
theorem d_W_374 : decode code 374 = .ok (.iadd, 1) := by decide +kernel
theorem d_W_375 : decode code 375 = .ok (.iaload, 1) := by decide +kernel
theorem d_W_376 : decode code 376 = .ok (.aload_n 0, 1) := by decide +kernel
theorem d_W_377 : decode code 377 = .ok (.iload_n 3, 1) := by decide +kernel
theorem d_W_378 : decode code 378 = .ok (.iconst 3, 1) := by decide +kernel
theorem d_W_379 : decode code 379 = .ok (.iadd, 1) := by decide +kernel
theorem d_W_380 : decode code 380 = .ok (.iaload, 1) := by decide +kernel
theorem d_W_381 : decode code 381 = .ok (.invokevirtual 37, 3) := by decide +kernel
theorem d_W_384 : decode code 384 = .ok (.aload_n 2, 1) := by decide +kernel
theorem d_W_385 : decode code 385 = .ok (.aload_n 0, 1) := by decide +kernel
theorem d_W_386 : decode code 386 = .ok (.iload_n 3, 1) := by decide +kernel
theorem d_W_387 : decode code 387 = .ok (.iconst 1, 1) := by decide +kernel
theorem d_W_388 : decode code 388 = .ok (.iadd, 1) := by decide +kernel
theorem d_W_389 : decode code 389 = .ok (.iaload, 1) := by decide +kernel
theorem d_W_390 : decode code 390 = .ok (.aload_n 0, 1) := by decide +kernel
theorem d_W_391 : decode code 391 = .ok (.iload_n 3, 1) := by decide +kernel
theorem d_W_392 : decode code 392 = .ok (.iconst 2, 1) := by decide +kernel
theorem d_W_393 : decode code 393 = .ok (.iadd, 1) := by decide +kernel
theorem d_W_394 : decode code 394 = .ok (.iaload, 1) := by decide +kernel
theorem d_W_395 : decode code 395 = .ok (.aload_n 0, 1) := by decide +kernel
theorem d_W_396 : decode code 396 = .ok (.iload_n 3, 1) := by decide +kernel
theorem d_W_397 : decode code 397 = .ok (.iconst 3, 1) := by decide +kernel
theorem d_W_398 : decode code 398 = .ok (.iadd, 1) := by decide +kernel
theorem d_W_399 : decode code 399 = .ok (.iaload, 1) := by decide +kernel
theorem d_W_400 : decode code 400 = .ok (.invokevirtual 40, 3) := by decide +kernel
theorem d_W_403 : decode code 403 = .ok (.if_icmp .eq 1078, 3) := by decide +kernel
theorem d_W_406 : decode code 406 = .ok (.iconst 0, 1) := by decide +kernel
theorem d_W_407 : decode code 407 = .ok (.ireturn, 1) := by decide +kernel
theorem d_W_408 : decode code 408 = .ok (.aload_n 1, 1) := by decide +kernel
theorem d_W_409 : decode code 409 = .ok (.aload_n 0, 1) := by decide +kernel
theorem d_W_410 : decode code 410 = .ok (.iload_n 3, 1) := by decide +kernel
theorem d_W_411 : decode code 411 = .ok (.iconst 1, 1) := by decide +kernel
theorem d_W_412 : decode code 412 = .ok (.iadd, 1) := by decide +kernel
theorem d_W_413 : decode code 413 = .ok (.iaload, 1) := by decide +kernel
theorem d_W_414 : decode code 414 = .ok (.aload_n 0, 1) := by decide +kernel
theorem d_W_415 : decode code 415 = .ok (.iload_n 3, 1) := by decide +kernel
theorem d_W_416 : decode code 416 = .ok (.iconst 2, 1) := by decide +kernel
theorem d_W_417 : decode code 417 = .ok (.iadd, 1) := by decide +kernel
theorem d_W_418 : decode code 418 = .ok (.iaload, 1) := by decide +kernel
theorem d_W_419 : decode code 419 = .ok (.invokevirtual 41, 3) := by decide +kernel
theorem d_W_422 : decode code 422 = .ok (.aload_n 2, 1) := by decide +kernel
theorem d_W_423 : decode code 423 = .ok (.aload_n 0, 1) := by decide +kernel
theorem d_W_424 : decode code 424 = .ok (.iload_n 3, 1) := by decide +kernel
theorem d_W_425 : decode code 425 = .ok (.iconst 1, 1) := by decide +kernel
theorem d_W_426 : decode code 426 = .ok (.iadd, 1) := by decide +kernel
theorem d_W_427 : decode code 427 = .ok (.iaload, 1) := by decide +kernel
theorem d_W_428 : decode code 428 = .ok (.aload_n 0, 1) := by decide +kernel
theorem d_W_429 : decode code 429 = .ok (.iload_n 3, 1) := by decide +kernel
theorem d_W_430 : decode code 430 = .ok (.iconst 2, 1) := by decide +kernel
theorem d_W_431 : decode code 431 = .ok (.iadd, 1) := by decide +kernel
theorem d_W_432 : decode code 432 = .ok (.iaload, 1) := by decide +kernel
theorem d_W_433 : decode code 433 = .ok (.invokevirtual 44, 3) := by decide +kernel
theorem d_W_436 : decode code 436 = .ok (.if_icmp .eq 1045, 3) := by decide +kernel
theorem d_W_439 : decode code 439 = .ok (.iconst 0, 1) := by decide +kernel
theorem d_W_440 : decode code 440 = .ok (.ireturn, 1) := by decide +kernel
theorem d_W_441 : decode code 441 = .ok (.aload_n 1, 1) := by decide +kernel
theorem d_W_442 : decode code 442 = .ok (.aload_n 0, 1) := by decide +kernel
theorem d_W_443 : decode code 443 = .ok (.iload_n 3, 1) := by decide +kernel
theorem d_W_444 : decode code 444 = .ok (.iconst 1, 1) := by decide +kernel
theorem d_W_445 : decode code 445 = .ok (.iadd, 1) := by decide +kernel
theorem d_W_446 : decode code 446 = .ok (.iaload, 1) := by decide +kernel
theorem d_W_447 : decode code 447 = .ok (.aload_n 0, 1) := by decide +kernel
theorem d_W_448 : decode code 448 = .ok (.iload_n 3, 1) := by decide +kernel
theorem d_W_449 : decode code 449 = .ok (.iconst 2, 1) := by decide +kernel
theorem d_W_450 : decode code 450 = .ok (.iadd, 1) := by decide +kernel
theorem d_W_451 : decode code 451 = .ok (.iaload, 1) := by decide +kernel
theorem d_W_452 : decode code 452 = .ok (.invokevirtual 45, 3) := by decide +kernel
theorem d_W_455 : decode code 455 = .ok (.aload_n 2, 1) := by decide +kernel
theorem d_W_456 : decode code 456 = .ok (.aload_n 0, 1) := by decide +kernel
theorem d_W_457 : decode code 457 = .ok (.iload_n 3, 1) := by decide +kernel
theorem d_W_458 : decode code 458 = .ok (.iconst 1, 1) := by decide +kernel
theorem d_W_459 : decode code 459 = .ok (.iadd, 1) := by decide +kernel
theorem d_W_460 : decode code 460 = .ok (.iaload, 1) := by decide +kernel
theorem d_W_461 : decode code 461 = .ok (.aload_n 0, 1) := by decide +kernel
theorem d_W_462 : decode code 462 = .ok (.iload_n 3, 1) := by decide +kernel
theorem d_W_463 : decode code 463 = .ok (.iconst 2, 1) := by decide +kernel
theorem d_W_464 : decode code 464 = .ok (.iadd, 1) := by decide +kernel
theorem d_W_465 : decode code 465 = .ok (.iaload, 1) := by decide +kernel
theorem d_W_466 : decode code 466 = .ok (.invokevirtual 48, 3) := by decide +kernel
theorem d_W_469 : decode code 469 = .ok (.if_icmp .eq 1012, 3) := by decide +kernel
theorem d_W_472 : decode code 472 = .ok (.iconst 0, 1) := by decide +kernel
theorem d_W_473 : decode code 473 = .ok (.ireturn, 1) := by decide +kernel
theorem d_W_474 : decode code 474 = .ok (.aload_n 1, 1) := by decide +kernel
theorem d_W_475 : decode code 475 = .ok (.aload_n 0, 1) := by decide +kernel
theorem d_W_476 : decode code 476 = .ok (.iload_n 3, 1) := by decide +kernel
theorem d_W_477 : decode code 477 = .ok (.iconst 1, 1) := by decide +kernel
theorem d_W_478 : decode code 478 = .ok (.iadd, 1) := by decide +kernel
theorem d_W_479 : decode code 479 = .ok (.iaload, 1) := by decide +kernel
theorem d_W_480 : decode code 480 = .ok (.aload_n 0, 1) := by decide +kernel
theorem d_W_481 : decode code 481 = .ok (.iload_n 3, 1) := by decide +kernel
theorem d_W_482 : decode code 482 = .ok (.iconst 2, 1) := by decide +kernel
theorem d_W_483 : decode code 483 = .ok (.iadd, 1) := by decide +kernel
theorem d_W_484 : decode code 484 = .ok (.iaload, 1) := by decide +kernel
theorem d_W_485 : decode code 485 = .ok (.invokevirtual 49, 3) := by decide +kernel
theorem d_W_488 : decode code 488 = .ok (.aload_n 2, 1) := by decide +kernel
theorem d_W_489 : decode code 489 = .ok (.aload_n 0, 1) := by decide +kernel
theorem d_W_490 : decode code 490 = .ok (.iload_n 3, 1) := by decide +kernel
theorem d_W_491 : decode code 491 = .ok (.iconst 1, 1) := by decide +kernel
theorem d_W_492 : decode code 492 = .ok (.iadd, 1) := by decide +kernel
theorem d_W_493 : decode code 493 = .ok (.iaload, 1) := by decide +kernel
theorem d_W_494 : decode code 494 = .ok (.aload_n 0, 1) := by decide +kernel
theorem d_W_495 : decode code 495 = .ok (.iload_n 3, 1) := by decide +kernel
theorem d_W_496 : decode code 496 = .ok (.iconst 2, 1) := by decide +kernel
theorem d_W_497 : decode code 497 = .ok (.iadd, 1) := by decide +kernel
theorem d_W_498 : decode code 498 = .ok (.iaload, 1) := by decide +kernel
theorem d_W_499 : decode code 499 = .ok (.invokevirtual 52, 3) := by decide +kernel
theorem d_W_502 : decode code 502 = .ok (.if_icmp .eq 979, 3) := by decide +kernel
theorem d_W_505 : decode code 505 = .ok (.iconst 0, 1) := by decide +kernel
theorem d_W_506 : decode code 506 = .ok (.ireturn, 1) := by decide +kernel
theorem d_W_507 : decode code 507 = .ok (.aload_n 1, 1) := by decide +kernel
theorem d_W_508 : decode code 508 = .ok (.aload_n 0, 1) := by decide +kernel
theorem d_W_509 : decode code 509 = .ok (.iload_n 3, 1) := by decide +kernel
theorem d_W_510 : decode code 510 = .ok (.iconst 1, 1) := by decide +kernel
theorem d_W_511 : decode code 511 = .ok (.iadd, 1) := by decide +kernel
theorem d_W_512 : decode code 512 = .ok (.iaload, 1) := by decide +kernel
theorem d_W_513 : decode code 513 = .ok (.invokevirtual 53, 3) := by decide +kernel
theorem d_W_516 : decode code 516 = .ok (.aload_n 2, 1) := by decide +kernel
theorem d_W_517 : decode code 517 = .ok (.aload_n 0, 1) := by decide +kernel
theorem d_W_518 : decode code 518 = .ok (.iload_n 3, 1) := by decide +kernel
theorem d_W_519 : decode code 519 = .ok (.iconst 1, 1) := by decide +kernel
theorem d_W_520 : decode code 520 = .ok (.iadd, 1) := by decide +kernel
theorem d_W_521 : decode code 521 = .ok (.iaload, 1) := by decide +kernel
theorem d_W_522 : decode code 522 = .ok (.invokevirtual 56, 3) := by decide +kernel
theorem d_W_525 : decode code 525 = .ok (.if_icmp .eq 956, 3) := by decide +kernel
theorem d_W_528 : decode code 528 = .ok (.iconst 0, 1) := by decide +kernel
theorem d_W_529 : decode code 529 = .ok (.ireturn, 1) := by decide +kernel
theorem d_W_530 : decode code 530 = .ok (.aload_n 1, 1) := by decide +kernel
theorem d_W_531 : decode code 531 = .ok (.invokevirtual 57, 3) := by decide +kernel
theorem d_W_534 : decode code 534 = .ok (.aload_n 2, 1) := by decide +kernel
theorem d_W_535 : decode code 535 = .ok (.invokevirtual 60, 3) := by decide +kernel
theorem d_W_538 : decode code 538 = .ok (.if_icmp .eq 943, 3) := by decide +kernel
theorem d_W_541 : decode code 541 = .ok (.iconst 0, 1) := by decide +kernel
theorem d_W_542 : decode code 542 = .ok (.ireturn, 1) := by decide +kernel
theorem d_W_543 : decode code 543 = .ok (.aload_n 1, 1) := by decide +kernel
theorem d_W_544 : decode code 544 = .ok (.aload_n 0, 1) := by decide +kernel
theorem d_W_545 : decode code 545 = .ok (.iload_n 3, 1) := by decide +kernel
theorem d_W_546 : decode code 546 = .ok (.iconst 1, 1) := by decide +kernel
theorem d_W_547 : decode code 547 = .ok (.iadd, 1) := by decide +kernel
theorem d_W_548 : decode code 548 = .ok (.iaload, 1) := by decide +kernel
theorem d_W_549 : decode code 549 = .ok (.aload_n 0, 1) := by decide +kernel
theorem d_W_550 : decode code 550 = .ok (.iload_n 3, 1) := by decide +kernel
theorem d_W_551 : decode code 551 = .ok (.iconst 2, 1) := by decide +kernel
theorem d_W_552 : decode code 552 = .ok (.iadd, 1) := by decide +kernel
theorem d_W_553 : decode code 553 = .ok (.iaload, 1) := by decide +kernel
theorem d_W_554 : decode code 554 = .ok (.aload_n 0, 1) := by decide +kernel
theorem d_W_555 : decode code 555 = .ok (.iload_n 3, 1) := by decide +kernel
theorem d_W_556 : decode code 556 = .ok (.iconst 3, 1) := by decide +kernel
theorem d_W_557 : decode code 557 = .ok (.iadd, 1) := by decide +kernel
theorem d_W_558 : decode code 558 = .ok (.iaload, 1) := by decide +kernel
theorem d_W_559 : decode code 559 = .ok (.invokevirtual 61, 3) := by decide +kernel
theorem d_W_562 : decode code 562 = .ok (.aload_n 2, 1) := by decide +kernel
theorem d_W_563 : decode code 563 = .ok (.aload_n 0, 1) := by decide +kernel
theorem d_W_564 : decode code 564 = .ok (.iload_n 3, 1) := by decide +kernel
theorem d_W_565 : decode code 565 = .ok (.iconst 1, 1) := by decide +kernel
theorem d_W_566 : decode code 566 = .ok (.iadd, 1) := by decide +kernel
theorem d_W_567 : decode code 567 = .ok (.iaload, 1) := by decide +kernel
theorem d_W_568 : decode code 568 = .ok (.aload_n 0, 1) := by decide +kernel
theorem d_W_569 : decode code 569 = .ok (.iload_n 3, 1) := by decide +kernel
theorem d_W_570 : decode code 570 = .ok (.iconst 2, 1) := by decide +kernel
theorem d_W_571 : decode code 571 = .ok (.iadd, 1) := by decide +kernel
theorem d_W_572 : decode code 572 = .ok (.iaload, 1) := by decide +kernel
theorem d_W_573 : decode code 573 = .ok (.aload_n 0, 1) := by decide +kernel
theorem d_W_574 : decode code 574 = .ok (.iload_n 3, 1) := by decide +kernel
theorem d_W_575 : decode code 575 = .ok (.iconst 3, 1) := by decide +kernel
theorem d_W_576 : decode code 576 = .ok (.iadd, 1) := by decide +kernel
theorem d_W_577 : decode code 577 = .ok (.iaload, 1) := by decide +kernel
theorem d_W_578 : decode code 578 = .ok (.invokevirtual 64, 3) := by decide +kernel
theorem d_W_581 : decode code 581 = .ok (.if_icmp .eq 900, 3) := by decide +kernel
theorem d_W_584 : decode code 584 = .ok (.iconst 0, 1) := by decide +kernel
theorem d_W_585 : decode code 585 = .ok (.ireturn, 1) := by decide +kernel
theorem d_W_586 : decode code 586 = .ok (.aload_n 1, 1) := by decide +kernel
theorem d_W_587 : decode code 587 = .ok (.aload_n 0, 1) := by decide +kernel
theorem d_W_588 : decode code 588 = .ok (.iload_n 3, 1) := by decide +kernel
theorem d_W_589 : decode code 589 = .ok (.iconst 1, 1) := by decide +kernel
theorem d_W_590 : decode code 590 = .ok (.iadd, 1) := by decide +kernel
theorem d_W_591 : decode code 591 = .ok (.iaload, 1) := by decide +kernel
theorem d_W_592 : decode code 592 = .ok (.aload_n 0, 1) := by decide +kernel
theorem d_W_593 : decode code 593 = .ok (.iload_n 3, 1) := by decide +kernel
theorem d_W_594 : decode code 594 = .ok (.iconst 2, 1) := by decide +kernel
theorem d_W_595 : decode code 595 = .ok (.iadd, 1) := by decide +kernel
theorem d_W_596 : decode code 596 = .ok (.iaload, 1) := by decide +kernel
theorem d_W_597 : decode code 597 = .ok (.invokevirtual 65, 3) := by decide +kernel
theorem d_W_600 : decode code 600 = .ok (.aload_n 2, 1) := by decide +kernel
theorem d_W_601 : decode code 601 = .ok (.aload_n 0, 1) := by decide +kernel
theorem d_W_602 : decode code 602 = .ok (.iload_n 3, 1) := by decide +kernel
theorem d_W_603 : decode code 603 = .ok (.iconst 1, 1) := by decide +kernel
theorem d_W_604 : decode code 604 = .ok (.iadd, 1) := by decide +kernel
theorem d_W_605 : decode code 605 = .ok (.iaload, 1) := by decide +kernel
theorem d_W_606 : decode code 606 = .ok (.aload_n 0, 1) := by decide +kernel
theorem d_W_607 : decode code 607 = .ok (.iload_n 3, 1) := by decide +kernel
theorem d_W_608 : decode code 608 = .ok (.iconst 2, 1) := by decide +kernel
theorem d_W_609 : decode code 609 = .ok (.iadd, 1) := by decide +kernel
theorem d_W_610 : decode code 610 = .ok (.iaload, 1) := by decide +kernel
theorem d_W_611 : decode code 611 = .ok (.invokevirtual 68, 3) := by decide +kernel
theorem d_W_614 : decode code 614 = .ok (.if_icmp .eq 867, 3) := by decide +kernel
theorem d_W_617 : decode code 617 = .ok (.iconst 0, 1) := by decide +kernel
theorem d_W_618 : decode code 618 = .ok (.ireturn, 1) := by decide +kernel
theorem d_W_619 : decode code 619 = .ok (.aload_n 1, 1) := by decide +kernel
theorem d_W_620 : decode code 620 = .ok (.aload_n 0, 1) := by decide +kernel
theorem d_W_621 : decode code 621 = .ok (.iload_n 3, 1) := by decide +kernel
theorem d_W_622 : decode code 622 = .ok (.iconst 1, 1) := by decide +kernel
theorem d_W_623 : decode code 623 = .ok (.iadd, 1) := by decide +kernel
theorem d_W_624 : decode code 624 = .ok (.iaload, 1) := by decide +kernel
theorem d_W_625 : decode code 625 = .ok (.aload_n 0, 1) := by decide +kernel
theorem d_W_626 : decode code 626 = .ok (.iload_n 3, 1) := by decide +kernel
theorem d_W_627 : decode code 627 = .ok (.iconst 2, 1) := by decide +kernel
theorem d_W_628 : decode code 628 = .ok (.iadd, 1) := by decide +kernel
theorem d_W_629 : decode code 629 = .ok (.iaload, 1) := by decide +kernel
theorem d_W_630 : decode code 630 = .ok (.invokevirtual 69, 3) := by decide +kernel
theorem d_W_633 : decode code 633 = .ok (.aload_n 2, 1) := by decide +kernel
theorem d_W_634 : decode code 634 = .ok (.aload_n 0, 1) := by decide +kernel
theorem d_W_635 : decode code 635 = .ok (.iload_n 3, 1) := by decide +kernel
theorem d_W_636 : decode code 636 = .ok (.iconst 1, 1) := by decide +kernel
theorem d_W_637 : decode code 637 = .ok (.iadd, 1) := by decide +kernel
theorem d_W_638 : decode code 638 = .ok (.iaload, 1) := by decide +kernel
theorem d_W_639 : decode code 639 = .ok (.aload_n 0, 1) := by decide +kernel
theorem d_W_640 : decode code 640 = .ok (.iload_n 3, 1) := by decide +kernel
theorem d_W_641 : decode code 641 = .ok (.iconst 2, 1) := by decide +kernel
theorem d_W_642 : decode code 642 = .ok (.iadd, 1) := by decide +kernel
theorem d_W_643 : decode code 643 = .ok (.iaload, 1) := by decide +kernel
theorem d_W_644 : decode code 644 = .ok (.invokevirtual 72, 3) := by decide +kernel
theorem d_W_647 : decode code 647 = .ok (.if_icmp .eq 834, 3) := by decide +kernel
theorem d_W_650 : decode code 650 = .ok (.iconst 0, 1) := by decide +kernel
theorem d_W_651 : decode code 651 = .ok (.ireturn, 1) := by decide +kernel
theorem d_W_652 : decode code 652 = .ok (.aload_n 1, 1) := by decide +kernel
theorem d_W_653 : decode code 653 = .ok (.aload_n 0, 1) := by decide +kernel
theorem d_W_654 : decode code 654 = .ok (.iload_n 3, 1) := by decide +kernel
theorem d_W_655 : decode code 655 = .ok (.iconst 1, 1) := by decide +kernel
theorem d_W_656 : decode code 656 = .ok (.iadd, 1) := by decide +kernel
theorem d_W_657 : decode code 657 = .ok (.iaload, 1) := by decide +kernel
theorem d_W_658 : decode code 658 = .ok (.aload_n 0, 1) := by decide +kernel
theorem d_W_659 : decode code 659 = .ok (.iload_n 3, 1) := by decide +kernel
theorem d_W_660 : decode code 660 = .ok (.iconst 2, 1) := by decide +kernel
theorem d_W_661 : decode code 661 = .ok (.iadd, 1) := by decide +kernel
theorem d_W_662 : decode code 662 = .ok (.iaload, 1) := by decide +kernel
theorem d_W_663 : decode code 663 = .ok (.invokevirtual 73, 3) := by decide +kernel
theorem d_W_666 : decode code 666 = .ok (.aload_n 2, 1) := by decide +kernel
theorem d_W_667 : decode code 667 = .ok (.aload_n 0, 1) := by decide +kernel
theorem d_W_668 : decode code 668 = .ok (.iload_n 3, 1) := by decide +kernel
theorem d_W_669 : decode code 669 = .ok (.iconst 1, 1) := by decide +kernel
theorem d_W_670 : decode code 670 = .ok (.iadd, 1) := by decide +kernel
theorem d_W_671 : decode code 671 = .ok (.iaload, 1) := by decide +kernel
theorem d_W_672 : decode code 672 = .ok (.aload_n 0, 1) := by decide +kernel
theorem d_W_673 : decode code 673 = .ok (.iload_n 3, 1) := by decide +kernel
theorem d_W_674 : decode code 674 = .ok (.iconst 2, 1) := by decide +kernel
theorem d_W_675 : decode code 675 = .ok (.iadd, 1) := by decide +kernel
theorem d_W_676 : decode code 676 = .ok (.iaload, 1) := by decide +kernel
theorem d_W_677 : decode code 677 = .ok (.invokevirtual 76, 3) := by decide +kernel
theorem d_W_680 : decode code 680 = .ok (.if_icmp .eq 801, 3) := by decide +kernel
theorem d_W_683 : decode code 683 = .ok (.iconst 0, 1) := by decide +kernel
theorem d_W_684 : decode code 684 = .ok (.ireturn, 1) := by decide +kernel
theorem d_W_685 : decode code 685 = .ok (.aload_n 1, 1) := by decide +kernel
theorem d_W_686 : decode code 686 = .ok (.invokevirtual 77, 3) := by decide +kernel
theorem d_W_689 : decode code 689 = .ok (.aload_n 2, 1) := by decide +kernel
theorem d_W_690 : decode code 690 = .ok (.invokevirtual 80, 3) := by decide +kernel
theorem d_W_693 : decode code 693 = .ok (.if_icmp .eq 788, 3) := by decide +kernel
theorem d_W_696 : decode code 696 = .ok (.iconst 0, 1) := by decide +kernel
theorem d_W_697 : decode code 697 = .ok (.ireturn, 1) := by decide +kernel
theorem d_W_698 : decode code 698 = .ok (.aload_n 1, 1) := by decide +kernel
theorem d_W_699 : decode code 699 = .ok (.aload_n 0, 1) := by decide +kernel
theorem d_W_700 : decode code 700 = .ok (.iload_n 3, 1) := by decide +kernel
theorem d_W_701 : decode code 701 = .ok (.iconst 1, 1) := by decide +kernel
theorem d_W_702 : decode code 702 = .ok (.iadd, 1) := by decide +kernel
theorem d_W_703 : decode code 703 = .ok (.iaload, 1) := by decide +kernel
theorem d_W_704 : decode code 704 = .ok (.aload_n 0, 1) := by decide +kernel
theorem d_W_705 : decode code 705 = .ok (.iload_n 3, 1) := by decide +kernel
theorem d_W_706 : decode code 706 = .ok (.iconst 2, 1) := by decide +kernel
theorem d_W_707 : decode code 707 = .ok (.iadd, 1) := by decide +kernel
theorem d_W_708 : decode code 708 = .ok (.iaload, 1) := by decide +kernel
theorem d_W_709 : decode code 709 = .ok (.aload_n 0, 1) := by decide +kernel
theorem d_W_710 : decode code 710 = .ok (.iload_n 3, 1) := by decide +kernel
theorem d_W_711 : decode code 711 = .ok (.iconst 3, 1) := by decide +kernel
theorem d_W_712 : decode code 712 = .ok (.iadd, 1) := by decide +kernel
theorem d_W_713 : decode code 713 = .ok (.iaload, 1) := by decide +kernel
theorem d_W_714 : decode code 714 = .ok (.invokevirtual 81, 3) := by decide +kernel
theorem d_W_717 : decode code 717 = .ok (.aload_n 2, 1) := by decide +kernel
theorem d_W_718 : decode code 718 = .ok (.aload_n 0, 1) := by decide +kernel
theorem d_W_719 : decode code 719 = .ok (.iload_n 3, 1) := by decide +kernel
theorem d_W_720 : decode code 720 = .ok (.iconst 1, 1) := by decide +kernel
theorem d_W_721 : decode code 721 = .ok (.iadd, 1) := by decide +kernel
theorem d_W_722 : decode code 722 = .ok (.iaload, 1) := by decide +kernel
theorem d_W_723 : decode code 723 = .ok (.aload_n 0, 1) := by decide +kernel
theorem d_W_724 : decode code 724 = .ok (.iload_n 3, 1) := by decide +kernel
theorem d_W_725 : decode code 725 = .ok (.iconst 2, 1) := by decide +kernel
theorem d_W_726 : decode code 726 = .ok (.iadd, 1) := by decide +kernel
theorem d_W_727 : decode code 727 = .ok (.iaload, 1) := by decide +kernel
theorem d_W_728 : decode code 728 = .ok (.aload_n 0, 1) := by decide +kernel
theorem d_W_729 : decode code 729 = .ok (.iload_n 3, 1) := by decide +kernel
theorem d_W_730 : decode code 730 = .ok (.iconst 3, 1) := by decide +kernel
theorem d_W_731 : decode code 731 = .ok (.iadd, 1) := by decide +kernel
theorem d_W_732 : decode code 732 = .ok (.iaload, 1) := by decide +kernel
theorem d_W_733 : decode code 733 = .ok (.invokevirtual 84, 3) := by decide +kernel
theorem d_W_736 : decode code 736 = .ok (.if_icmp .eq 745, 3) := by decide +kernel
theorem d_W_739 : decode code 739 = .ok (.iconst 0, 1) := by decide +kernel
theorem d_W_740 : decode code 740 = .ok (.ireturn, 1) := by decide +kernel
theorem d_W_741 : decode code 741 = .ok (.aload_n 1, 1) := by decide +kernel
theorem d_W_742 : decode code 742 = .ok (.aload_n 0, 1) := by decide +kernel
theorem d_W_743 : decode code 743 = .ok (.iload_n 3, 1) := by decide +kernel
theorem d_W_744 : decode code 744 = .ok (.iconst 1, 1) := by decide +kernel
theorem d_W_745 : decode code 745 = .ok (.iadd, 1) := by decide +kernel
theorem d_W_746 : decode code 746 = .ok (.iaload, 1) := by decide +kernel
theorem d_W_747 : decode code 747 = .ok (.aload_n 0, 1) := by decide +kernel
theorem d_W_748 : decode code 748 = .ok (.iload_n 3, 1) := by decide +kernel
theorem d_W_749 : decode code 749 = .ok (.iconst 2, 1) := by decide +kernel
theorem d_W_750 : decode code 750 = .ok (.iadd, 1) := by decide +kernel
theorem d_W_751 : decode code 751 = .ok (.iaload, 1) := by decide +kernel
theorem d_W_752 : decode code 752 = .ok (.aload_n 0, 1) := by decide +kernel
theorem d_W_753 : decode code 753 = .ok (.iload_n 3, 1) := by decide +kernel
theorem d_W_754 : decode code 754 = .ok (.iconst 3, 1) := by decide +kernel
theorem d_W_755 : decode code 755 = .ok (.iadd, 1) := by decide +kernel
theorem d_W_756 : decode code 756 = .ok (.iaload, 1) := by decide +kernel
theorem d_W_757 : decode code 757 = .ok (.invokevirtual 85, 3) := by decide +kernel
theorem d_W_760 : decode code 760 = .ok (.aload_n 2, 1) := by decide +kernel
theorem d_W_761 : decode code 761 = .ok (.aload_n 0, 1) := by decide +kernel
theorem d_W_762 : decode code 762 = .ok (.iload_n 3, 1) := by decide +kernel
theorem d_W_763 : decode code 763 = .ok (.iconst 1, 1) := by decide +kernel
theorem d_W_764 : decode code 764 = .ok (.iadd, 1) := by decide +kernel
theorem d_W_765 : decode code 765 = .ok (.iaload, 1) := by decide +kernel
theorem d_W_766 : decode code 766 = .ok (.aload_n 0, 1) := by decide +kernel
theorem d_W_767 : decode code 767 = .ok (.iload_n 3, 1) := by decide +kernel
theorem d_W_768 : decode code 768 = .ok (.iconst 2, 1) := by decide +kernel
theorem d_W_769 : decode code 769 = .ok (.iadd, 1) := by decide +kernel
theorem d_W_770 : decode code 770 = .ok (.iaload, 1) := by decide +kernel
theorem d_W_771 : decode code 771 = .ok (.aload_n 0, 1) := by decide +kernel
theorem d_W_772 : decode code 772 = .ok (.iload_n 3, 1) := by decide +kernel
theorem d_W_773 : decode code 773 = .ok (.iconst 3, 1) := by decide +kernel
theorem d_W_774 : decode code 774 = .ok (.iadd, 1) := by decide +kernel
theorem d_W_775 : decode code 775 = .ok (.iaload, 1) := by decide +kernel
theorem d_W_776 : decode code 776 = .ok (.invokevirtual 88, 3) := by decide +kernel
theorem d_W_779 : decode code 779 = .ok (.if_icmp .eq 702, 3) := by decide +kernel
theorem d_W_782 : decode code 782 = .ok (.iconst 0, 1) := by decide +kernel
theorem d_W_783 : decode code 783 = .ok (.ireturn, 1) := by decide +kernel
theorem d_W_784 : decode code 784 = .ok (.aload_n 1, 1) := by decide +kernel
theorem d_W_785 : decode code 785 = .ok (.aload_n 0, 1) := by decide +kernel
theorem d_W_786 : decode code 786 = .ok (.iload_n 3, 1) := by decide +kernel
theorem d_W_787 : decode code 787 = .ok (.iconst 1, 1) := by decide +kernel
theorem d_W_788 : decode code 788 = .ok (.iadd, 1) := by decide +kernel
theorem d_W_789 : decode code 789 = .ok (.iaload, 1) := by decide +kernel
theorem d_W_790 : decode code 790 = .ok (.aload_n 0, 1) := by decide +kernel
theorem d_W_791 : decode code 791 = .ok (.iload_n 3, 1) := by decide +kernel
theorem d_W_792 : decode code 792 = .ok (.iconst 2, 1) := by decide +kernel
theorem d_W_793 : decode code 793 = .ok (.iadd, 1) := by decide +kernel
theorem d_W_794 : decode code 794 = .ok (.iaload, 1) := by decide +kernel
theorem d_W_795 : decode code 795 = .ok (.aload_n 0, 1) := by decide +kernel
theorem d_W_796 : decode code 796 = .ok (.iload_n 3, 1) := by decide +kernel
theorem d_W_797 : decode code 797 = .ok (.iconst 3, 1) := by decide +kernel
theorem d_W_798 : decode code 798 = .ok (.iadd, 1) := by decide +kernel
theorem d_W_799 : decode code 799 = .ok (.iaload, 1) := by decide +kernel
theorem d_W_800 : decode code 800 = .ok (.invokevirtual 89, 3) := by decide +kernel
theorem d_W_803 : decode code 803 = .ok (.aload_n 2, 1) := by decide +kernel
theorem d_W_804 : decode code 804 = .ok (.aload_n 0, 1) := by decide +kernel
theorem d_W_805 : decode code 805 = .ok (.iload_n 3, 1) := by decide +kernel
theorem d_W_806 : decode code 806 = .ok (.iconst 1, 1) := by decide +kernel
theorem d_W_807 : decode code 807 = .ok (.iadd, 1) := by decide +kernel
theorem d_W_808 : decode code 808 = .ok (.iaload, 1) := by decide +kernel
theorem d_W_809 : decode code 809 = .ok (.aload_n 0, 1) := by decide +kernel
theorem d_W_810 : decode code 810 = .ok (.iload_n 3, 1) := by decide +kernel
theorem d_W_811 : decode code 811 = .ok (.iconst 2, 1) := by decide +kernel
theorem d_W_812 : decode code 812 = .ok (.iadd, 1) := by decide +kernel
theorem d_W_813 : decode code 813 = .ok (.iaload, 1) := by decide +kernel
theorem d_W_814 : decode code 814 = .ok (.aload_n 0, 1) := by decide +kernel
theorem d_W_815 : decode code 815 = .ok (.iload_n 3, 1) := by decide +kernel
theorem d_W_816 : decode code 816 = .ok (.iconst 3, 1) := by decide +kernel
theorem d_W_817 : decode code 817 = .ok (.iadd, 1) := by decide +kernel
theorem d_W_818 : decode code 818 = .ok (.iaload, 1) := by decide +kernel
theorem d_W_819 : decode code 819 = .ok (.invokevirtual 92, 3) := by decide +kernel
theorem d_W_822 : decode code 822 = .ok (.if_icmp .eq 659, 3) := by decide +kernel
theorem d_W_825 : decode code 825 = .ok (.iconst 0, 1) := by decide +kernel
theorem d_W_826 : decode code 826 = .ok (.ireturn, 1) := by decide +kernel
theorem d_W_827 : decode code 827 = .ok (.aload_n 1, 1) := by decide +kernel
theorem d_W_828 : decode code 828 = .ok (.aload_n 0, 1) := by decide +kernel
theorem d_W_829 : decode code 829 = .ok (.iload_n 3, 1) := by decide +kernel
theorem d_W_830 : decode code 830 = .ok (.iconst 1, 1) := by decide +kernel
theorem d_W_831 : decode code 831 = .ok (.iadd, 1) := by decide +kernel
theorem d_W_832 : decode code 832 = .ok (.iaload, 1) := by decide +kernel
theorem d_W_833 : decode code 833 = .ok (.aload_n 0, 1) := by decide +kernel
theorem d_W_834 : decode code 834 = .ok (.iload_n 3, 1) := by decide +kernel
theorem d_W_835 : decode code 835 = .ok (.iconst 2, 1) := by decide +kernel
theorem d_W_836 : decode code 836 = .ok (.iadd, 1) := by decide +kernel
theorem d_W_837 : decode code 837 = .ok (.iaload, 1) := by decide +kernel
theorem d_W_838 : decode code 838 = .ok (.aload_n 0, 1) := by decide +kernel
theorem d_W_839 : decode code 839 = .ok (.iload_n 3, 1) := by decide +kernel
theorem d_W_840 : decode code 840 = .ok (.iconst 3, 1) := by decide +kernel
theorem d_W_841 : decode code 841 = .ok (.iadd, 1) := by decide +kernel
theorem d_W_842 : decode code 842 = .ok (.iaload, 1) := by decide +kernel
theorem d_W_843 : decode code 843 = .ok (.invokevirtual 93, 3) := by decide +kernel
theorem d_W_846 : decode code 846 = .ok (.aload_n 2, 1) := by decide +kernel
theorem d_W_847 : decode code 847 = .ok (.aload_n 0, 1) := by decide +kernel
theorem d_W_848 : decode code 848 = .ok (.iload_n 3, 1) := by decide +kernel
theorem d_W_849 : decode code 849 = .ok (.iconst 1, 1) := by decide +kernel
theorem d_W_850 : decode code 850 = .ok (.iadd, 1) := by decide +kernel
theorem d_W_851 : decode code 851 = .ok (.iaload, 1) := by decide +kernel
theorem d_W_852 : decode code 852 = .ok (.aload_n 0, 1) := by decide +kernel
theorem d_W_853 : decode code 853 = .ok (.iload_n 3, 1) := by decide +kernel
theorem d_W_854 : decode code 854 = .ok (.iconst 2, 1) := by decide +kernel
theorem d_W_855 : decode code 855 = .ok (.iadd, 1) := by decide +kernel
theorem d_W_856 : decode code 856 = .ok (.iaload, 1) := by decide +kernel
theorem d_W_857 : decode code 857 = .ok (.aload_n 0, 1) := by decide +kernel
theorem d_W_858 : decode code 858 = .ok (.iload_n 3, 1) := by decide +kernel
theorem d_W_859 : decode code 859 = .ok (.iconst 3, 1) := by decide +kernel
theorem d_W_860 : decode code 860 = .ok (.iadd, 1) := by decide +kernel
theorem d_W_861 : decode code 861 = .ok (.iaload, 1) := by decide +kernel
theorem d_W_862 : decode code 862 = .ok (.invokevirtual 96, 3) := by decide +kernel
theorem d_W_865 : decode code 865 = .ok (.if_icmp .eq 616, 3) := by decide +kernel
theorem d_W_868 : decode code 868 = .ok (.iconst 0, 1) := by decide +kernel
theorem d_W_869 : decode code 869 = .ok (.ireturn, 1) := by decide +kernel
theorem d_W_870 : decode code 870 = .ok (.aload_n 1, 1) := by decide +kernel
theorem d_W_871 : decode code 871 = .ok (.aload_n 0, 1) := by decide +kernel
theorem d_W_872 : decode code 872 = .ok (.iload_n 3, 1) := by decide +kernel
theorem d_W_873 : decode code 873 = .ok (.iconst 1, 1) := by decide +kernel
theorem d_W_874 : decode code 874 = .ok (.iadd, 1) := by decide +kernel
theorem d_W_875 : decode code 875 = .ok (.iaload, 1) := by decide +kernel
theorem d_W_876 : decode code 876 = .ok (.invokevirtual 97, 3) := by decide +kernel
theorem d_W_879 : decode code 879 = .ok (.aload_n 2, 1) := by decide +kernel
theorem d_W_880 : decode code 880 = .ok (.aload_n 0, 1) := by decide +kernel
theorem d_W_881 : decode code 881 = .ok (.iload_n 3, 1) := by decide +kernel
theorem d_W_882 : decode code 882 = .ok (.iconst 1, 1) := by decide +kernel
theorem d_W_883 : decode code 883 = .ok (.iadd, 1) := by decide +kernel
theorem d_W_884 : decode code 884 = .ok (.iaload, 1) := by decide +kernel
theorem d_W_885 : decode code 885 = .ok (.invokevirtual 100, 3) := by decide +kernel
theorem d_W_888 : decode code 888 = .ok (.if_icmp .eq 593, 3) := by decide +kernel
theorem d_W_891 : decode code 891 = .ok (.iconst 0, 1) := by decide +kernel
theorem d_W_892 : decode code 892 = .ok (.ireturn, 1) := by decide +kernel
theorem d_W_893 : decode code 893 = .ok (.aload_n 1, 1) := by decide +kernel
theorem d_W_894 : decode code 894 = .ok (.aload_n 0, 1) := by decide +kernel
theorem d_W_895 : decode code 895 = .ok (.iload_n 3, 1) := by decide +kernel
theorem d_W_896 : decode code 896 = .ok (.iconst 1, 1) := by decide +kernel
theorem d_W_897 : decode code 897 = .ok (.iadd, 1) := by decide +kernel
theorem d_W_898 : decode code 898 = .ok (.iaload, 1) := by decide +kernel
theorem d_W_899 : decode code 899 = .ok (.aload_n 0, 1) := by decide +kernel
theorem d_W_900 : decode code 900 = .ok (.iload_n 3, 1) := by decide +kernel
theorem d_W_901 : decode code 901 = .ok (.iconst 2, 1) := by decide +kernel
theorem d_W_902 : decode code 902 = .ok (.iadd, 1) := by decide +kernel
theorem d_W_903 : decode code 903 = .ok (.iaload, 1) := by decide +kernel
theorem d_W_904 : decode code 904 = .ok (.invokevirtual 101, 3) := by decide +kernel
theorem d_W_907 : decode code 907 = .ok (.aload_n 2, 1) := by decide +kernel
theorem d_W_908 : decode code 908 = .ok (.aload_n 0, 1) := by decide +kernel
theorem d_W_909 : decode code 909 = .ok (.iload_n 3, 1) := by decide +kernel
theorem d_W_910 : decode code 910 = .ok (.iconst 1, 1) := by decide +kernel
theorem d_W_911 : decode code 911 = .ok (.iadd, 1) := by decide +kernel
theorem d_W_912 : decode code 912 = .ok (.iaload, 1) := by decide +kernel
theorem d_W_913 : decode code 913 = .ok (.aload_n 0, 1) := by decide +kernel
theorem d_W_914 : decode code 914 = .ok (.iload_n 3, 1) := by decide +kernel
theorem d_W_915 : decode code 915 = .ok (.iconst 2, 1) := by decide +kernel
theorem d_W_916 : decode code 916 = .ok (.iadd, 1) := by decide +kernel
theorem d_W_917 : decode code 917 = .ok (.iaload, 1) := by decide +kernel
theorem d_W_918 : decode code 918 = .ok (.invokevirtual 104, 3) := by decide +kernel
theorem d_W_921 : decode code 921 = .ok (.if_icmp .eq 560, 3) := by decide +kernel
theorem d_W_924 : decode code 924 = .ok (.iconst 0, 1) := by decide +kernel
theorem d_W_925 : decode code 925 = .ok (.ireturn, 1) := by decide +kernel
theorem d_W_926 : decode code 926 = .ok (.aload_n 1, 1) := by decide +kernel
theorem d_W_927 : decode code 927 = .ok (.invokevirtual 105, 3) := by decide +kernel
theorem d_W_930 : decode code 930 = .ok (.aload_n 2, 1) := by decide +kernel
theorem d_W_931 : decode code 931 = .ok (.invokevirtual 108, 3) := by decide +kernel
theorem d_W_934 : decode code 934 = .ok (.if_icmp .eq 547, 3) := by decide +kernel
theorem d_W_937 : decode code 937 = .ok (.iconst 0, 1) := by decide +kernel
theorem d_W_938 : decode code 938 = .ok (.ireturn, 1) := by decide +kernel
theorem d_W_939 : decode code 939 = .ok (.aload_n 1, 1) := by decide +kernel
theorem d_W_940 : decode code 940 = .ok (.aload_n 0, 1) := by decide +kernel
theorem d_W_941 : decode code 941 = .ok (.iload_n 3, 1) := by decide +kernel
theorem d_W_942 : decode code 942 = .ok (.iconst 1, 1) := by decide +kernel
theorem d_W_943 : decode code 943 = .ok (.iadd, 1) := by decide +kernel
theorem d_W_944 : decode code 944 = .ok (.iaload, 1) := by decide +kernel
theorem d_W_945 : decode code 945 = .ok (.aload_n 0, 1) := by decide +kernel
theorem d_W_946 : decode code 946 = .ok (.iload_n 3, 1) := by decide +kernel
theorem d_W_947 : decode code 947 = .ok (.iconst 2, 1) := by decide +kernel
theorem d_W_948 : decode code 948 = .ok (.iadd, 1) := by decide +kernel
theorem d_W_949 : decode code 949 = .ok (.iaload, 1) := by decide +kernel
theorem d_W_950 : decode code 950 = .ok (.invokevirtual 109, 3) := by decide +kernel
theorem d_W_953 : decode code 953 = .ok (.aload_n 2, 1) := by decide +kernel
theorem d_W_954 : decode code 954 = .ok (.aload_n 0, 1) := by decide +kernel
theorem d_W_955 : decode code 955 = .ok (.iload_n 3, 1) := by decide +kernel
theorem d_W_956 : decode code 956 = .ok (.iconst 1, 1) := by decide +kernel
theorem d_W_957 : decode code 957 = .ok (.iadd, 1) := by decide +kernel
theorem d_W_958 : decode code 958 = .ok (.iaload, 1) := by decide +kernel
theorem d_W_959 : decode code 959 = .ok (.aload_n 0, 1) := by decide +kernel
theorem d_W_960 : decode code 960 = .ok (.iload_n 3, 1) := by decide +kernel
theorem d_W_961 : decode code 961 = .ok (.iconst 2, 1) := by decide +kernel
theorem d_W_962 : decode code 962 = .ok (.iadd, 1) := by decide +kernel
theorem d_W_963 : decode code 963 = .ok (.iaload, 1) := by decide +kernel
theorem d_W_964 : decode code 964 = .ok (.invokevirtual 112, 3) := by decide +kernel
theorem d_W_967 : decode code 967 = .ok (.if_icmp .eq 514, 3) := by decide +kernel
theorem d_W_970 : decode code 970 = .ok (.iconst 0, 1) := by decide +kernel
theorem d_W_971 : decode code 971 = .ok (.ireturn, 1) := by decide +kernel
theorem d_W_972 : decode code 972 = .ok (.aload_n 1, 1) := by decide +kernel
theorem d_W_973 : decode code 973 = .ok (.aload_n 0, 1) := by decide +kernel
theorem d_W_974 : decode code 974 = .ok (.iload_n 3, 1) := by decide +kernel
theorem d_W_975 : decode code 975 = .ok (.iconst 1, 1) := by decide +kernel
theorem d_W_976 : decode code 976 = .ok (.iadd, 1) := by decide +kernel
theorem d_W_977 : decode code 977 = .ok (.iaload, 1) := by decide +kernel
theorem d_W_978 : decode code 978 = .ok (.aload_n 0, 1) := by decide +kernel
theorem d_W_979 : decode code 979 = .ok (.iload_n 3, 1) := by decide +kernel
theorem d_W_980 : decode code 980 = .ok (.iconst 2, 1) := by decide +kernel
theorem d_W_981 : decode code 981 = .ok (.iadd, 1) := by decide +kernel
theorem d_W_982 : decode code 982 = .ok (.iaload, 1) := by decide +kernel
theorem d_W_983 : decode code 983 = .ok (.invokevirtual 113, 3) := by decide +kernel
theorem d_W_986 : decode code 986 = .ok (.aload_n 2, 1) := by decide +kernel
theorem d_W_987 : decode code 987 = .ok (.aload_n 0, 1) := by decide +kernel
theorem d_W_988 : decode code 988 = .ok (.iload_n 3, 1) := by decide +kernel
theorem d_W_989 : decode code 989 = .ok (.iconst 1, 1) := by decide +kernel
theorem d_W_990 : decode code 990 = .ok (.iadd, 1) := by decide +kernel
theorem d_W_991 : decode code 991 = .ok (.iaload, 1) := by decide +kernel
theorem d_W_992 : decode code 992 = .ok (.aload_n 0, 1) := by decide +kernel
theorem d_W_993 : decode code 993 = .ok (.iload_n 3, 1) := by decide +kernel
theorem d_W_994 : decode code 994 = .ok (.iconst 2, 1) := by decide +kernel
theorem d_W_995 : decode code 995 = .ok (.iadd, 1) := by decide +kernel
theorem d_W_996 : decode code 996 = .ok (.iaload, 1) := by decide +kernel
theorem d_W_997 : decode code 997 = .ok (.invokevirtual 116, 3) := by decide +kernel
theorem d_W_1000 : decode code 1000 = .ok (.if_icmp .eq 481, 3) := by decide +kernel
theorem d_W_1003 : decode code 1003 = .ok (.iconst 0, 1) := by decide +kernel
theorem d_W_1004 : decode code 1004 = .ok (.ireturn, 1) := by decide +kernel
theorem d_W_1005 : decode code 1005 = .ok (.aload_n 1, 1) := by decide +kernel
theorem d_W_1006 : decode code 1006 = .ok (.aload_n 0, 1) := by decide +kernel
theorem d_W_1007 : decode code 1007 = .ok (.iload_n 3, 1) := by decide +kernel
theorem d_W_1008 : decode code 1008 = .ok (.iconst 1, 1) := by decide +kernel
theorem d_W_1009 : decode code 1009 = .ok (.iadd, 1) := by decide +kernel
theorem d_W_1010 : decode code 1010 = .ok (.iaload, 1) := by decide +kernel
theorem d_W_1011 : decode code 1011 = .ok (.aload_n 0, 1) := by decide +kernel
theorem d_W_1012 : decode code 1012 = .ok (.iload_n 3, 1) := by decide +kernel
theorem d_W_1013 : decode code 1013 = .ok (.iconst 2, 1) := by decide +kernel
theorem d_W_1014 : decode code 1014 = .ok (.iadd, 1) := by decide +kernel
theorem d_W_1015 : decode code 1015 = .ok (.iaload, 1) := by decide +kernel
theorem d_W_1016 : decode code 1016 = .ok (.invokevirtual 117, 3) := by decide +kernel
theorem d_W_1019 : decode code 1019 = .ok (.aload_n 2, 1) := by decide +kernel
theorem d_W_1020 : decode code 1020 = .ok (.aload_n 0, 1) := by decide +kernel
theorem d_W_1021 : decode code 1021 = .ok (.iload_n 3, 1) := by decide +kernel
theorem d_W_1022 : decode code 1022 = .ok (.iconst 1, 1) := by decide +kernel
theorem d_W_1023 : decode code 1023 = .ok (.iadd, 1) := by decide +kernel
theorem d_W_1024 : decode code 1024 = .ok (.iaload, 1) := by decide +kernel
theorem d_W_1025 : decode code 1025 = .ok (.aload_n 0, 1) := by decide +kernel
theorem d_W_1026 : decode code 1026 = .ok (.iload_n 3, 1) := by decide +kernel
theorem d_W_1027 : decode code 1027 = .ok (.iconst 2, 1) := by decide +kernel
theorem d_W_1028 : decode code 1028 = .ok (.iadd, 1) := by decide +kernel
theorem d_W_1029 : decode code 1029 = .ok (.iaload, 1) := by decide +kernel
theorem d_W_1030 : decode code 1030 = .ok (.invokevirtual 120, 3) := by decide +kernel
theorem d_W_1033 : decode code 1033 = .ok (.if_icmp .eq 448, 3) := by decide +kernel
theorem d_W_1036 : decode code 1036 = .ok (.iconst 0, 1) := by decide +kernel
theorem d_W_1037 : decode code 1037 = .ok (.ireturn, 1) := by decide +kernel
theorem d_W_1038 : decode code 1038 = .ok (.aload_n 1, 1) := by decide +kernel
theorem d_W_1039 : decode code 1039 = .ok (.aload_n 0, 1) := by decide +kernel
theorem d_W_1040 : decode code 1040 = .ok (.iload_n 3, 1) := by decide +kernel
theorem d_W_1041 : decode code 1041 = .ok (.iconst 1, 1) := by decide +kernel
theorem d_W_1042 : decode code 1042 = .ok (.iadd, 1) := by decide +kernel
theorem d_W_1043 : decode code 1043 = .ok (.iaload, 1) := by decide +kernel
theorem d_W_1044 : decode code 1044 = .ok (.aload_n 0, 1) := by decide +kernel
theorem d_W_1045 : decode code 1045 = .ok (.iload_n 3, 1) := by decide +kernel
theorem d_W_1046 : decode code 1046 = .ok (.iconst 2, 1) := by decide +kernel
theorem d_W_1047 : decode code 1047 = .ok (.iadd, 1) := by decide +kernel
theorem d_W_1048 : decode code 1048 = .ok (.iaload, 1) := by decide +kernel
theorem d_W_1049 : decode code 1049 = .ok (.aload_n 0, 1) := by decide +kernel
theorem d_W_1050 : decode code 1050 = .ok (.iload_n 3, 1) := by decide +kernel
theorem d_W_1051 : decode code 1051 = .ok (.iconst 3, 1) := by decide +kernel
theorem d_W_1052 : decode code 1052 = .ok (.iadd, 1) := by decide +kernel
theorem d_W_1053 : decode code 1053 = .ok (.iaload, 1) := by decide +kernel
theorem d_W_1054 : decode code 1054 = .ok (.invokevirtual 121, 3) := by decide +kernel
theorem d_W_1057 : decode code 1057 = .ok (.aload_n 2, 1) := by decide +kernel
theorem d_W_1058 : decode code 1058 = .ok (.aload_n 0, 1) := by decide +kernel
theorem d_W_1059 : decode code 1059 = .ok (.iload_n 3, 1) := by decide +kernel
theorem d_W_1060 : decode code 1060 = .ok (.iconst 1, 1) := by decide +kernel
theorem d_W_1061 : decode code 1061 = .ok (.iadd, 1) := by decide +kernel
theorem d_W_1062 : decode code 1062 = .ok (.iaload, 1) := by decide +kernel
theorem d_W_1063 : decode code 1063 = .ok (.aload_n 0, 1) := by decide +kernel
theorem d_W_1064 : decode code 1064 = .ok (.iload_n 3, 1) := by decide +kernel
theorem d_W_1065 : decode code 1065 = .ok (.iconst 2, 1) := by decide +kernel
theorem d_W_1066 : decode code 1066 = .ok (.iadd, 1) := by decide +kernel
theorem d_W_1067 : decode code 1067 = .ok (.iaload, 1) := by decide +kernel
theorem d_W_1068 : decode code 1068 = .ok (.aload_n 0, 1) := by decide +kernel
theorem d_W_1069 : decode code 1069 = .ok (.iload_n 3, 1) := by decide +kernel
theorem d_W_1070 : decode code 1070 = .ok (.iconst 3, 1) := by decide +kernel
theorem d_W_1071 : decode code 1071 = .ok (.iadd, 1) := by decide +kernel
theorem d_W_1072 : decode code 1072 = .ok (.iaload, 1) := by decide +kernel
theorem d_W_1073 : decode code 1073 = .ok (.invokevirtual 124, 3) := by decide +kernel
theorem d_W_1076 : decode code 1076 = .ok (.if_icmp .eq 405, 3) := by decide +kernel
theorem d_W_1079 : decode code 1079 = .ok (.iconst 0, 1) := by decide +kernel
theorem d_W_1080 : decode code 1080 = .ok (.ireturn, 1) := by decide +kernel
theorem d_W_1081 : decode code 1081 = .ok (.aload_n 1, 1) := by decide +kernel
theorem d_W_1082 : decode code 1082 = .ok (.aload_n 0, 1) := by decide +kernel
theorem d_W_1083 : decode code 1083 = .ok (.iload_n 3, 1) := by decide +kernel
theorem d_W_1084 : decode code 1084 = .ok (.iconst 1, 1) := by decide +kernel
theorem d_W_1085 : decode code 1085 = .ok (.iadd, 1) := by decide +kernel
theorem d_W_1086 : decode code 1086 = .ok (.iaload, 1) := by decide +kernel
theorem d_W_1087 : decode code 1087 = .ok (.aload_n 0, 1) := by decide +kernel
theorem d_W_1088 : decode code 1088 = .ok (.iload_n 3, 1) := by decide +kernel
theorem d_W_1089 : decode code 1089 = .ok (.iconst 2, 1) := by decide +kernel
theorem d_W_1090 : decode code 1090 = .ok (.iadd, 1) := by decide +kernel
theorem d_W_1091 : decode code 1091 = .ok (.iaload, 1) := by decide +kernel
theorem d_W_1092 : decode code 1092 = .ok (.aload_n 0, 1) := by decide +kernel
theorem d_W_1093 : decode code 1093 = .ok (.iload_n 3, 1) := by decide +kernel
theorem d_W_1094 : decode code 1094 = .ok (.iconst 3, 1) := by decide +kernel
theorem d_W_1095 : decode code 1095 = .ok (.iadd, 1) := by decide +kernel
theorem d_W_1096 : decode code 1096 = .ok (.iaload, 1) := by decide +kernel
theorem d_W_1097 : decode code 1097 = .ok (.aload_n 0, 1) := by decide +kernel
theorem d_W_1098 : decode code 1098 = .ok (.iload_n 3, 1) := by decide +kernel
theorem d_W_1099 : decode code 1099 = .ok (.iconst 4, 1) := by decide +kernel
theorem d_W_1100 : decode code 1100 = .ok (.iadd, 1) := by decide +kernel
theorem d_W_1101 : decode code 1101 = .ok (.iaload, 1) := by decide +kernel
theorem d_W_1102 : decode code 1102 = .ok (.aload_n 0, 1) := by decide +kernel
theorem d_W_1103 : decode code 1103 = .ok (.iload_n 3, 1) := by decide +kernel
theorem d_W_1104 : decode code 1104 = .ok (.iconst 5, 1) := by decide +kernel
theorem d_W_1105 : decode code 1105 = .ok (.iadd, 1) := by decide +kernel
theorem d_W_1106 : decode code 1106 = .ok (.iaload, 1) := by decide +kernel
theorem d_W_1107 : decode code 1107 = .ok (.invokevirtual 125, 3) := by decide +kernel
theorem d_W_1110 : decode code 1110 = .ok (.aload_n 2, 1) := by decide +kernel
theorem d_W_1111 : decode code 1111 = .ok (.aload_n 0, 1) := by decide +kernel
theorem d_W_1112 : decode code 1112 = .ok (.iload_n 3, 1) := by decide +kernel
theorem d_W_1113 : decode code 1113 = .ok (.iconst 1, 1) := by decide +kernel
theorem d_W_1114 : decode code 1114 = .ok (.iadd, 1) := by decide +kernel
theorem d_W_1115 : decode code 1115 = .ok (.iaload, 1) := by decide +kernel
theorem d_W_1116 : decode code 1116 = .ok (.aload_n 0, 1) := by decide +kernel
theorem d_W_1117 : decode code 1117 = .ok (.iload_n 3, 1) := by decide +kernel
theorem d_W_1118 : decode code 1118 = .ok (.iconst 2, 1) := by decide +kernel
theorem d_W_1119 : decode code 1119 = .ok (.iadd, 1) := by decide +kernel
theorem d_W_1120 : decode code 1120 = .ok (.iaload, 1) := by decide +kernel
theorem d_W_1121 : decode code 1121 = .ok (.aload_n 0, 1) := by decide +kernel
theorem d_W_1122 : decode code 1122 = .ok (.iload_n 3, 1) := by decide +kernel
theorem d_W_1123 : decode code 1123 = .ok (.iconst 3, 1) := by decide +kernel
theorem d_W_1124 : decode code 1124 = .ok (.iadd, 1) := by decide +kernel
theorem d_W_1125 : decode code 1125 = .ok (.iaload, 1) := by decide +kernel
theorem d_W_1126 : decode code 1126 = .ok (.aload_n 0, 1) := by decide +kernel
theorem d_W_1127 : decode code 1127 = .ok (.iload_n 3, 1) := by decide +kernel
theorem d_W_1128 : decode code 1128 = .ok (.iconst 4, 1) := by decide +kernel
theorem d_W_1129 : decode code 1129 = .ok (.iadd, 1) := by decide +kernel
theorem d_W_1130 : decode code 1130 = .ok (.iaload, 1) := by decide +kernel
theorem d_W_1131 : decode code 1131 = .ok (.aload_n 0, 1) := by decide +kernel
theorem d_W_1132 : decode code 1132 = .ok (.iload_n 3, 1) := by decide +kernel
theorem d_W_1133 : decode code 1133 = .ok (.iconst 5, 1) := by decide +kernel
theorem d_W_1134 : decode code 1134 = .ok (.iadd, 1) := by decide +kernel
theorem d_W_1135 : decode code 1135 = .ok (.iaload, 1) := by decide +kernel
theorem d_W_1136 : decode code 1136 = .ok (.invokevirtual 129, 3) := by decide +kernel
theorem d_W_1139 : decode code 1139 = .ok (.lcmp, 1) := by decide +kernel
theorem d_W_1140 : decode code 1140 = .ok (.ifCond .eq 341, 3) := by decide +kernel
theorem d_W_1143 : decode code 1143 = .ok (.iconst 0, 1) := by decide +kernel
theorem d_W_1144 : decode code 1144 = .ok (.ireturn, 1) := by decide +kernel
theorem d_W_1145 : decode code 1145 = .ok (.aload_n 1, 1) := by decide +kernel
theorem d_W_1146 : decode code 1146 = .ok (.aload_n 0, 1) := by decide +kernel
theorem d_W_1147 : decode code 1147 = .ok (.iload_n 3, 1) := by decide +kernel
theorem d_W_1148 : decode code 1148 = .ok (.iconst 1, 1) := by decide +kernel
theorem d_W_1149 : decode code 1149 = .ok (.iadd, 1) := by decide +kernel
theorem d_W_1150 : decode code 1150 = .ok (.iaload, 1) := by decide +kernel
theorem d_W_1151 : decode code 1151 = .ok (.aload_n 0, 1) := by decide +kernel
theorem d_W_1152 : decode code 1152 = .ok (.iload_n 3, 1) := by decide +kernel
theorem d_W_1153 : decode code 1153 = .ok (.iconst 2, 1) := by decide +kernel
theorem d_W_1154 : decode code 1154 = .ok (.iadd, 1) := by decide +kernel
theorem d_W_1155 : decode code 1155 = .ok (.iaload, 1) := by decide +kernel
theorem d_W_1156 : decode code 1156 = .ok (.invokevirtual 130, 3) := by decide +kernel
theorem d_W_1159 : decode code 1159 = .ok (.aload_n 2, 1) := by decide +kernel
theorem d_W_1160 : decode code 1160 = .ok (.aload_n 0, 1) := by decide +kernel
theorem d_W_1161 : decode code 1161 = .ok (.iload_n 3, 1) := by decide +kernel
theorem d_W_1162 : decode code 1162 = .ok (.iconst 1, 1) := by decide +kernel
theorem d_W_1163 : decode code 1163 = .ok (.iadd, 1) := by decide +kernel
theorem d_W_1164 : decode code 1164 = .ok (.iaload, 1) := by decide +kernel
theorem d_W_1165 : decode code 1165 = .ok (.aload_n 0, 1) := by decide +kernel
theorem d_W_1166 : decode code 1166 = .ok (.iload_n 3, 1) := by decide +kernel
theorem d_W_1167 : decode code 1167 = .ok (.iconst 2, 1) := by decide +kernel
theorem d_W_1168 : decode code 1168 = .ok (.iadd, 1) := by decide +kernel
theorem d_W_1169 : decode code 1169 = .ok (.iaload, 1) := by decide +kernel
theorem d_W_1170 : decode code 1170 = .ok (.invokevirtual 133, 3) := by decide +kernel
theorem d_W_1173 : decode code 1173 = .ok (.if_icmp .eq 308, 3) := by decide +kernel
theorem d_W_1176 : decode code 1176 = .ok (.iconst 0, 1) := by decide +kernel
theorem d_W_1177 : decode code 1177 = .ok (.ireturn, 1) := by decide +kernel
theorem d_W_1178 : decode code 1178 = .ok (.aload_n 1, 1) := by decide +kernel
theorem d_W_1179 : decode code 1179 = .ok (.aload_n 0, 1) := by decide +kernel
theorem d_W_1180 : decode code 1180 = .ok (.iload_n 3, 1) := by decide +kernel
theorem d_W_1181 : decode code 1181 = .ok (.iconst 1, 1) := by decide +kernel
theorem d_W_1182 : decode code 1182 = .ok (.iadd, 1) := by decide +kernel
theorem d_W_1183 : decode code 1183 = .ok (.iaload, 1) := by decide +kernel
theorem d_W_1184 : decode code 1184 = .ok (.invokevirtual 134, 3) := by decide +kernel
theorem d_W_1187 : decode code 1187 = .ok (.aload_n 2, 1) := by decide +kernel
theorem d_W_1188 : decode code 1188 = .ok (.aload_n 0, 1) := by decide +kernel
theorem d_W_1189 : decode code 1189 = .ok (.iload_n 3, 1) := by decide +kernel
theorem d_W_1190 : decode code 1190 = .ok (.iconst 1, 1) := by decide +kernel
theorem d_W_1191 : decode code 1191 = .ok (.iadd, 1) := by decide +kernel
theorem d_W_1192 : decode code 1192 = .ok (.iaload, 1) := by decide +kernel
theorem d_W_1193 : decode code 1193 = .ok (.invokevirtual 137, 3) := by decide +kernel
theorem d_W_1196 : decode code 1196 = .ok (.if_icmp .eq 285, 3) := by decide +kernel
theorem d_W_1199 : decode code 1199 = .ok (.iconst 0, 1) := by decide +kernel
theorem d_W_1200 : decode code 1200 = .ok (.ireturn, 1) := by decide +kernel
theorem d_W_1201 : decode code 1201 = .ok (.aload_n 1, 1) := by decide +kernel
theorem d_W_1202 : decode code 1202 = .ok (.aload_n 0, 1) := by decide +kernel
theorem d_W_1203 : decode code 1203 = .ok (.iload_n 3, 1) := by decide +kernel
theorem d_W_1204 : decode code 1204 = .ok (.iconst 1, 1) := by decide +kernel
theorem d_W_1205 : decode code 1205 = .ok (.iadd, 1) := by decide +kernel
theorem d_W_1206 : decode code 1206 = .ok (.iaload, 1) := by decide +kernel
theorem d_W_1207 : decode code 1207 = .ok (.invokevirtual 138, 3) := by decide +kernel
theorem d_W_1210 : decode code 1210 = .ok (.aload_n 2, 1) := by decide +kernel
theorem d_W_1211 : decode code 1211 = .ok (.aload_n 0, 1) := by decide +kernel
theorem d_W_1212 : decode code 1212 = .ok (.iload_n 3, 1) := by decide +kernel
theorem d_W_1213 : decode code 1213 = .ok (.iconst 1, 1) := by decide +kernel
theorem d_W_1214 : decode code 1214 = .ok (.iadd, 1) := by decide +kernel
theorem d_W_1215 : decode code 1215 = .ok (.iaload, 1) := by decide +kernel
theorem d_W_1216 : decode code 1216 = .ok (.invokevirtual 141, 3) := by decide +kernel
theorem d_W_1219 : decode code 1219 = .ok (.if_icmp .eq 262, 3) := by decide +kernel
theorem d_W_1222 : decode code 1222 = .ok (.iconst 0, 1) := by decide +kernel
theorem d_W_1223 : decode code 1223 = .ok (.ireturn, 1) := by decide +kernel
theorem d_W_1224 : decode code 1224 = .ok (.aload_n 1, 1) := by decide +kernel
theorem d_W_1225 : decode code 1225 = .ok (.aload_n 0, 1) := by decide +kernel
theorem d_W_1226 : decode code 1226 = .ok (.iload_n 3, 1) := by decide +kernel
theorem d_W_1227 : decode code 1227 = .ok (.iconst 1, 1) := by decide +kernel
theorem d_W_1228 : decode code 1228 = .ok (.iadd, 1) := by decide +kernel
theorem d_W_1229 : decode code 1229 = .ok (.iaload, 1) := by decide +kernel
theorem d_W_1230 : decode code 1230 = .ok (.invokevirtual 142, 3) := by decide +kernel
theorem d_W_1233 : decode code 1233 = .ok (.aload_n 2, 1) := by decide +kernel
theorem d_W_1234 : decode code 1234 = .ok (.aload_n 0, 1) := by decide +kernel
theorem d_W_1235 : decode code 1235 = .ok (.iload_n 3, 1) := by decide +kernel
theorem d_W_1236 : decode code 1236 = .ok (.iconst 1, 1) := by decide +kernel
theorem d_W_1237 : decode code 1237 = .ok (.iadd, 1) := by decide +kernel
theorem d_W_1238 : decode code 1238 = .ok (.iaload, 1) := by decide +kernel
theorem d_W_1239 : decode code 1239 = .ok (.invokevirtual 145, 3) := by decide +kernel
theorem d_W_1242 : decode code 1242 = .ok (.if_icmp .eq 239, 3) := by decide +kernel
theorem d_W_1245 : decode code 1245 = .ok (.iconst 0, 1) := by decide +kernel
theorem d_W_1246 : decode code 1246 = .ok (.ireturn, 1) := by decide +kernel
theorem d_W_1247 : decode code 1247 = .ok (.aload_n 1, 1) := by decide +kernel
theorem d_W_1248 : decode code 1248 = .ok (.aload_n 0, 1) := by decide +kernel
theorem d_W_1249 : decode code 1249 = .ok (.iload_n 3, 1) := by decide +kernel
theorem d_W_1250 : decode code 1250 = .ok (.iconst 1, 1) := by decide +kernel
theorem d_W_1251 : decode code 1251 = .ok (.iadd, 1) := by decide +kernel
theorem d_W_1252 : decode code 1252 = .ok (.iaload, 1) := by decide +kernel
theorem d_W_1253 : decode code 1253 = .ok (.invokevirtual 146, 3) := by decide +kernel
theorem d_W_1256 : decode code 1256 = .ok (.aload_n 2, 1) := by decide +kernel
theorem d_W_1257 : decode code 1257 = .ok (.aload_n 0, 1) := by decide +kernel
theorem d_W_1258 : decode code 1258 = .ok (.iload_n 3, 1) := by decide +kernel
theorem d_W_1259 : decode code 1259 = .ok (.iconst 1, 1) := by decide +kernel
theorem d_W_1260 : decode code 1260 = .ok (.iadd, 1) := by decide +kernel
theorem d_W_1261 : decode code 1261 = .ok (.iaload, 1) := by decide +kernel
theorem d_W_1262 : decode code 1262 = .ok (.invokevirtual 150, 3) := by decide +kernel
theorem d_W_1265 : decode code 1265 = .ok (.lcmp, 1) := by decide +kernel
theorem d_W_1266 : decode code 1266 = .ok (.ifCond .eq 215, 3) := by decide +kernel
theorem d_W_1269 : decode code 1269 = .ok (.iconst 0, 1) := by decide +kernel
theorem d_W_1270 : decode code 1270 = .ok (.ireturn, 1) := by decide +kernel
theorem d_W_1271 : decode code 1271 = .ok (.aload_n 1, 1) := by decide +kernel
theorem d_W_1272 : decode code 1272 = .ok (.aload_n 0, 1) := by decide +kernel
theorem d_W_1273 : decode code 1273 = .ok (.iload_n 3, 1) := by decide +kernel
theorem d_W_1274 : decode code 1274 = .ok (.iconst 1, 1) := by decide +kernel
theorem d_W_1275 : decode code 1275 = .ok (.iadd, 1) := by decide +kernel
theorem d_W_1276 : decode code 1276 = .ok (.iaload, 1) := by decide +kernel
theorem d_W_1277 : decode code 1277 = .ok (.aload_n 0, 1) := by decide +kernel
theorem d_W_1278 : decode code 1278 = .ok (.iload_n 3, 1) := by decide +kernel
theorem d_W_1279 : decode code 1279 = .ok (.iconst 2, 1) := by decide +kernel
theorem d_W_1280 : decode code 1280 = .ok (.iadd, 1) := by decide +kernel
theorem d_W_1281 : decode code 1281 = .ok (.iaload, 1) := by decide +kernel
theorem d_W_1282 : decode code 1282 = .ok (.invokevirtual 151, 3) := by decide +kernel
theorem d_W_1285 : decode code 1285 = .ok (.aload_n 2, 1) := by decide +kernel
theorem d_W_1286 : decode code 1286 = .ok (.aload_n 0, 1) := by decide +kernel
theorem d_W_1287 : decode code 1287 = .ok (.iload_n 3, 1) := by decide +kernel
theorem d_W_1288 : decode code 1288 = .ok (.iconst 1, 1) := by decide +kernel
theorem d_W_1289 : decode code 1289 = .ok (.iadd, 1) := by decide +kernel
theorem d_W_1290 : decode code 1290 = .ok (.iaload, 1) := by decide +kernel
theorem d_W_1291 : decode code 1291 = .ok (.aload_n 0, 1) := by decide +kernel
theorem d_W_1292 : decode code 1292 = .ok (.iload_n 3, 1) := by decide +kernel
theorem d_W_1293 : decode code 1293 = .ok (.iconst 2, 1) := by decide +kernel
theorem d_W_1294 : decode code 1294 = .ok (.iadd, 1) := by decide +kernel
theorem d_W_1295 : decode code 1295 = .ok (.iaload, 1) := by decide +kernel
theorem d_W_1296 : decode code 1296 = .ok (.invokevirtual 154, 3) := by decide +kernel
theorem d_W_1299 : decode code 1299 = .ok (.if_icmp .eq 182, 3) := by decide +kernel
theorem d_W_1302 : decode code 1302 = .ok (.iconst 0, 1) := by decide +kernel
theorem d_W_1303 : decode code 1303 = .ok (.ireturn, 1) := by decide +kernel
theorem d_W_1304 : decode code 1304 = .ok (.aload_n 1, 1) := by decide +kernel
theorem d_W_1305 : decode code 1305 = .ok (.aload_n 0, 1) := by decide +kernel
theorem d_W_1306 : decode code 1306 = .ok (.iload_n 3, 1) := by decide +kernel
theorem d_W_1307 : decode code 1307 = .ok (.iconst 1, 1) := by decide +kernel
theorem d_W_1308 : decode code 1308 = .ok (.iadd, 1) := by decide +kernel
theorem d_W_1309 : decode code 1309 = .ok (.iaload, 1) := by decide +kernel
theorem d_W_1310 : decode code 1310 = .ok (.invokevirtual 155, 3) := by decide +kernel
theorem d_W_1313 : decode code 1313 = .ok (.aload_n 2, 1) := by decide +kernel
theorem d_W_1314 : decode code 1314 = .ok (.aload_n 0, 1) := by decide +kernel
theorem d_W_1315 : decode code 1315 = .ok (.iload_n 3, 1) := by decide +kernel
theorem d_W_1316 : decode code 1316 = .ok (.iconst 1, 1) := by decide +kernel
theorem d_W_1317 : decode code 1317 = .ok (.iadd, 1) := by decide +kernel
theorem d_W_1318 : decode code 1318 = .ok (.iaload, 1) := by decide +kernel
theorem d_W_1319 : decode code 1319 = .ok (.invokevirtual 158, 3) := by decide +kernel
theorem d_W_1322 : decode code 1322 = .ok (.if_icmp .eq 159, 3) := by decide +kernel
theorem d_W_1325 : decode code 1325 = .ok (.iconst 0, 1) := by decide +kernel
theorem d_W_1326 : decode code 1326 = .ok (.ireturn, 1) := by decide +kernel
theorem d_W_1327 : decode code 1327 = .ok (.aload_n 1, 1) := by decide +kernel
theorem d_W_1328 : decode code 1328 = .ok (.invokevirtual 159, 3) := by decide +kernel
theorem d_W_1331 : decode code 1331 = .ok (.aload_n 2, 1) := by decide +kernel
theorem d_W_1332 : decode code 1332 = .ok (.invokevirtual 162, 3) := by decide +kernel
theorem d_W_1335 : decode code 1335 = .ok (.if_icmp .eq 146, 3) := by decide +kernel
theorem d_W_1338 : decode code 1338 = .ok (.iconst 0, 1) := by decide +kernel
theorem d_W_1339 : decode code 1339 = .ok (.ireturn, 1) := by decide +kernel
theorem d_W_1340 : decode code 1340 = .ok (.aload_n 1, 1) := by decide +kernel
theorem d_W_1341 : decode code 1341 = .ok (.aload_n 0, 1) := by decide +kernel
theorem d_W_1342 : decode code 1342 = .ok (.iload_n 3, 1) := by decide +kernel
theorem d_W_1343 : decode code 1343 = .ok (.iconst 1, 1) := by decide +kernel
theorem d_W_1344 : decode code 1344 = .ok (.iadd, 1) := by decide +kernel
theorem d_W_1345 : decode code 1345 = .ok (.iaload, 1) := by decide +kernel
theorem d_W_1346 : decode code 1346 = .ok (.invokevirtual 163, 3) := by decide +kernel
theorem d_W_1349 : decode code 1349 = .ok (.aload_n 2, 1) := by decide +kernel
theorem d_W_1350 : decode code 1350 = .ok (.aload_n 0, 1) := by decide +kernel
theorem d_W_1351 : decode code 1351 = .ok (.iload_n 3, 1) := by decide +kernel
theorem d_W_1352 : decode code 1352 = .ok (.iconst 1, 1) := by decide +kernel
theorem d_W_1353 : decode code 1353 = .ok (.iadd, 1) := by decide +kernel
theorem d_W_1354 : decode code 1354 = .ok (.iaload, 1) := by decide +kernel
theorem d_W_1355 : decode code 1355 = .ok (.invokevirtual 166, 3) := by decide +kernel
theorem d_W_1358 : decode code 1358 = .ok (.if_icmp .eq 123, 3) := by decide +kernel
theorem d_W_1361 : decode code 1361 = .ok (.iconst 0, 1) := by decide +kernel
theorem d_W_1362 : decode code 1362 = .ok (.ireturn, 1) := by decide +kernel
theorem d_W_1363 : decode code 1363 = .ok (.aload_n 1, 1) := by decide +kernel
theorem d_W_1364 : decode code 1364 = .ok (.invokevirtual 167, 3) := by decide +kernel
theorem d_W_1367 : decode code 1367 = .ok (.aload_n 2, 1) := by decide +kernel
theorem d_W_1368 : decode code 1368 = .ok (.invokevirtual 170, 3) := by decide +kernel
theorem d_W_1371 : decode code 1371 = .ok (.if_icmp .eq 110, 3) := by decide +kernel
theorem d_W_1374 : decode code 1374 = .ok (.iconst 0, 1) := by decide +kernel
theorem d_W_1375 : decode code 1375 = .ok (.ireturn, 1) := by decide +kernel
theorem d_W_1376 : decode code 1376 = .ok (.aload_n 1, 1) := by decide +kernel
theorem d_W_1377 : decode code 1377 = .ok (.invokevirtual 171, 3) := by decide +kernel
theorem d_W_1380 : decode code 1380 = .ok (.aload_n 2, 1) := by decide +kernel
theorem d_W_1381 : decode code 1381 = .ok (.invokevirtual 174, 3) := by decide +kernel
theorem d_W_1384 : decode code 1384 = .ok (.if_icmp .eq 97, 3) := by decide +kernel
theorem d_W_1387 : decode code 1387 = .ok (.iconst 0, 1) := by decide +kernel
theorem d_W_1388 : decode code 1388 = .ok (.ireturn, 1) := by decide +kernel
theorem d_W_1389 : decode code 1389 = .ok (.aload_n 1, 1) := by decide +kernel
theorem d_W_1390 : decode code 1390 = .ok (.aload_n 0, 1) := by decide +kernel
theorem d_W_1391 : decode code 1391 = .ok (.iload_n 3, 1) := by decide +kernel
theorem d_W_1392 : decode code 1392 = .ok (.iconst 1, 1) := by decide +kernel
theorem d_W_1393 : decode code 1393 = .ok (.iadd, 1) := by decide +kernel
theorem d_W_1394 : decode code 1394 = .ok (.iaload, 1) := by decide +kernel
theorem d_W_1395 : decode code 1395 = .ok (.aload_n 0, 1) := by decide +kernel
theorem d_W_1396 : decode code 1396 = .ok (.iload_n 3, 1) := by decide +kernel
theorem d_W_1397 : decode code 1397 = .ok (.iconst 2, 1) := by decide +kernel
theorem d_W_1398 : decode code 1398 = .ok (.iadd, 1) := by decide +kernel
theorem d_W_1399 : decode code 1399 = .ok (.iaload, 1) := by decide +kernel
theorem d_W_1400 : decode code 1400 = .ok (.aload_n 0, 1) := by decide +kernel
theorem d_W_1401 : decode code 1401 = .ok (.iload_n 3, 1) := by decide +kernel
theorem d_W_1402 : decode code 1402 = .ok (.iconst 3, 1) := by decide +kernel
theorem d_W_1403 : decode code 1403 = .ok (.iadd, 1) := by decide +kernel
theorem d_W_1404 : decode code 1404 = .ok (.iaload, 1) := by decide +kernel
theorem d_W_1405 : decode code 1405 = .ok (.invokevirtual 175, 3) := by decide +kernel
theorem d_W_1408 : decode code 1408 = .ok (.aload_n 2, 1) := by decide +kernel
theorem d_W_1409 : decode code 1409 = .ok (.aload_n 0, 1) := by decide +kernel
theorem d_W_1410 : decode code 1410 = .ok (.iload_n 3, 1) := by decide +kernel
theorem d_W_1411 : decode code 1411 = .ok (.iconst 1, 1) := by decide +kernel
theorem d_W_1412 : decode code 1412 = .ok (.iadd, 1) := by decide +kernel
theorem d_W_1413 : decode code 1413 = .ok (.iaload, 1) := by decide +kernel
theorem d_W_1414 : decode code 1414 = .ok (.aload_n 0, 1) := by decide +kernel
theorem d_W_1415 : decode code 1415 = .ok (.iload_n 3, 1) := by decide +kernel
theorem d_W_1416 : decode code 1416 = .ok (.iconst 2, 1) := by decide +kernel
theorem d_W_1417 : decode code 1417 = .ok (.iadd, 1) := by decide +kernel
theorem d_W_1418 : decode code 1418 = .ok (.iaload, 1) := by decide +kernel
theorem d_W_1419 : decode code 1419 = .ok (.aload_n 0, 1) := by decide +kernel
theorem d_W_1420 : decode code 1420 = .ok (.iload_n 3, 1) := by decide +kernel
theorem d_W_1421 : decode code 1421 = .ok (.iconst 3, 1) := by decide +kernel
theorem d_W_1422 : decode code 1422 = .ok (.iadd, 1) := by decide +kernel
theorem d_W_1423 : decode code 1423 = .ok (.iaload, 1) := by decide +kernel
theorem d_W_1424 : decode code 1424 = .ok (.invokevirtual 178, 3) := by decide +kernel
theorem d_W_1427 : decode code 1427 = .ok (.if_icmp .eq 54, 3) := by decide +kernel
theorem d_W_1430 : decode code 1430 = .ok (.iconst 0, 1) := by decide +kernel
theorem d_W_1431 : decode code 1431 = .ok (.ireturn, 1) := by decide +kernel
theorem d_W_1432 : decode code 1432 = .ok (.aload_n 1, 1) := by decide +kernel
theorem d_W_1433 : decode code 1433 = .ok (.invokevirtual 179, 3) := by decide +kernel
theorem d_W_1436 : decode code 1436 = .ok (.aload_n 2, 1) := by decide +kernel
theorem d_W_1437 : decode code 1437 = .ok (.invokevirtual 182, 3) := by decide +kernel
theorem d_W_1440 : decode code 1440 = .ok (.if_icmp .eq 41, 3) := by decide +kernel
theorem d_W_1443 : decode code 1443 = .ok (.iconst 0, 1) := by decide +kernel
theorem d_W_1444 : decode code 1444 = .ok (.ireturn, 1) := by decide +kernel
theorem d_W_1445 : decode code 1445 = .ok (.aload_n 1, 1) := by decide +kernel
theorem d_W_1446 : decode code 1446 = .ok (.invokevirtual 183, 3) := by decide +kernel
theorem d_W_1449 : decode code 1449 = .ok (.aload_n 2, 1) := by decide +kernel
theorem d_W_1450 : decode code 1450 = .ok (.invokevirtual 186, 3) := by decide +kernel
theorem d_W_1453 : decode code 1453 = .ok (.if_icmp .eq 28, 3) := by decide +kernel
theorem d_W_1456 : decode code 1456 = .ok (.iconst 0, 1) := by decide +kernel
theorem d_W_1457 : decode code 1457 = .ok (.ireturn, 1) := by decide +kernel
theorem d_W_1458 : decode code 1458 = .ok (.aload_n 1, 1) := by decide +kernel
theorem d_W_1459 : decode code 1459 = .ok (.aload_n 0, 1) := by decide +kernel
theorem d_W_1460 : decode code 1460 = .ok (.iload_n 3, 1) := by decide +kernel
theorem d_W_1461 : decode code 1461 = .ok (.iconst 1, 1) := by decide +kernel
theorem d_W_1462 : decode code 1462 = .ok (.iadd, 1) := by decide +kernel
theorem d_W_1463 : decode code 1463 = .ok (.iaload, 1) := by decide +kernel
theorem d_W_1464 : decode code 1464 = .ok (.invokevirtual 187, 3) := by decide +kernel
theorem d_W_1467 : decode code 1467 = .ok (.aload_n 2, 1) := by decide +kernel
theorem d_W_1468 : decode code 1468 = .ok (.aload_n 0, 1) := by decide +kernel
theorem d_W_1469 : decode code 1469 = .ok (.iload_n 3, 1) := by decide +kernel
theorem d_W_1470 : decode code 1470 = .ok (.iconst 1, 1) := by decide +kernel
theorem d_W_1471 : decode code 1471 = .ok (.iadd, 1) := by decide +kernel
theorem d_W_1472 : decode code 1472 = .ok (.iaload, 1) := by decide +kernel
theorem d_W_1473 : decode code 1473 = .ok (.invokevirtual 190, 3) := by decide +kernel
theorem d_W_1476 : decode code 1476 = .ok (.if_icmp .eq 5, 3) := by decide +kernel
theorem d_W_1479 : decode code 1479 = .ok (.iconst 0, 1) := by decide +kernel
theorem d_W_1480 : decode code 1480 = .ok (.ireturn, 1) := by decide +kernel
theorem d_W_1481 : decode code 1481 = .ok (.iinc 3 6, 3) := by decide +kernel
theorem d_W_1484 : decode code 1484 = .ok (.goto (-1466), 3) := by decide +kernel
theorem d_W_1487 : decode code 1487 = .ok (.iconst 1, 1) := by decide +kernel
theorem d_W_1488 : decode code 1488 = .ok (.ireturn, 1) := by decide +kernel
