theorem dl_0 : decode code 0 = .ok (.new 7, 3) := by decide +kernel
theorem dl_3 : decode code 3 = .ok (.dup, 1) := by decide +kernel
theorem dl_4 : decode code 4 = .ok (.invokespecial 9, 3) := by decide +kernel
theorem dl_7 : decode code 7 = .ok (.astore_n 1, 1) := by decide +kernel
theorem dl_8 : decode code 8 = .ok (.new 10, 3) := by decide +kernel
theorem dl_11 : decode code 11 = .ok (.dup, 1) := by decide +kernel
theorem dl_12 : decode code 12 = .ok (.invokespecial 12, 3) := by decide +kernel
theorem dl_15 : decode code 15 = .ok (.astore_n 2, 1) := by decide +kernel
theorem dl_16 : decode code 16 = .ok (.iconst 0, 1) := by decide +kernel
theorem dl_17 : decode code 17 = .ok (.istore_n 3, 1) := by decide +kernel
theorem dl_18 : decode code 18 = .ok (.iload_n 3, 1) := by decide +kernel
theorem dl_19 : decode code 19 = .ok (.aload_n 0, 1) := by decide +kernel
theorem dl_20 : decode code 20 = .ok (.arraylength, 1) := by decide +kernel
theorem dl_21 : decode code 21 = .ok (.bipush 6, 2) := by decide +kernel
theorem dl_23 : decode code 23 = .ok (.isub, 1) := by decide +kernel
theorem dl_24 : decode code 24 = .ok (.if_icmp .gt 1530, 3) := by decide +kernel
theorem dl_27 : decode code 27 = .ok (.aload_n 0, 1) := by decide +kernel
theorem dl_28 : decode code 28 = .ok (.iload_n 3, 1) := by decide +kernel
theorem dl_29 : decode code 29 = .ok (.iaload, 1) := by decide +kernel
theorem dl_30 : decode code 30 = .ok (.bipush 63, 2) := by decide +kernel
theorem dl_32 : decode code 32 = .ok (.iand, 1) := by decide +kernel
theorem dl_33 : decode code 33 = .ok (.tableswitch 1515 0 39 #[175, 198, 257, 290, 323, 356, 389, 422, 456, 500, 534, 568, 602, 646, 680, 714, 767, 800, 833, 867, 911, 945, 968, 1002, 1025, 1058, 1081, 1114, 1127, 1150, 1173, 1196, 1220, 1263, 1286, 1339, 1382, 1445, 1478, 1501], 175) := by decide +kernel
theorem dl_208 : decode code 208 = .ok (.aload_n 1, 1) := by decide +kernel
theorem dl_209 : decode code 209 = .ok (.aload_n 0, 1) := by decide +kernel
theorem dl_210 : decode code 210 = .ok (.iload_n 3, 1) := by decide +kernel
theorem dl_211 : decode code 211 = .ok (.iconst 1, 1) := by decide +kernel
theorem dl_212 : decode code 212 = .ok (.iadd, 1) := by decide +kernel
theorem dl_213 : decode code 213 = .ok (.iaload, 1) := by decide +kernel
theorem dl_214 : decode code 214 = .ok (.invokevirtual 13, 3) := by decide +kernel
theorem dl_217 : decode code 217 = .ok (.aload_n 2, 1) := by decide +kernel
theorem dl_218 : decode code 218 = .ok (.aload_n 0, 1) := by decide +kernel
theorem dl_219 : decode code 219 = .ok (.iload_n 3, 1) := by decide +kernel
theorem dl_220 : decode code 220 = .ok (.iconst 1, 1) := by decide +kernel
theorem dl_221 : decode code 221 = .ok (.iadd, 1) := by decide +kernel
theorem dl_222 : decode code 222 = .ok (.iaload, 1) := by decide +kernel
theorem dl_223 : decode code 223 = .ok (.invokevirtual 17, 3) := by decide +kernel
theorem dl_226 : decode code 226 = .ok (.if_icmp .eq 1322, 3) := by decide +kernel
theorem dl_229 : decode code 229 = .ok (.iconst 0, 1) := by decide +kernel
theorem dl_230 : decode code 230 = .ok (.ireturn, 1) := by decide +kernel
theorem dl_231 : decode code 231 = .ok (.aload_n 1, 1) := by decide +kernel
theorem dl_232 : decode code 232 = .ok (.aload_n 0, 1) := by decide +kernel
theorem dl_233 : decode code 233 = .ok (.iload_n 3, 1) := by decide +kernel
theorem dl_234 : decode code 234 = .ok (.iconst 1, 1) := by decide +kernel
theorem dl_235 : decode code 235 = .ok (.iadd, 1) := by decide +kernel
theorem dl_236 : decode code 236 = .ok (.iaload, 1) := by decide +kernel
theorem dl_237 : decode code 237 = .ok (.aload_n 0, 1) := by decide +kernel
theorem dl_238 : decode code 238 = .ok (.iload_n 3, 1) := by decide +kernel
theorem dl_239 : decode code 239 = .ok (.iconst 2, 1) := by decide +kernel
theorem dl_240 : decode code 240 = .ok (.iadd, 1) := by decide +kernel
theorem dl_241 : decode code 241 = .ok (.iaload, 1) := by decide +kernel
theorem dl_242 : decode code 242 = .ok (.aload_n 0, 1) := by decide +kernel
theorem dl_243 : decode code 243 = .ok (.iload_n 3, 1) := by decide +kernel
theorem dl_244 : decode code 244 = .ok (.iconst 3, 1) := by decide +kernel
theorem dl_245 : decode code 245 = .ok (.iadd, 1) := by decide +kernel
theorem dl_246 : decode code 246 = .ok (.iaload, 1) := by decide +kernel
theorem dl_247 : decode code 247 = .ok (.ifCond .eq 7, 3) := by decide +kernel
theorem dl_250 : decode code 250 = .ok (.iconst 1, 1) := by decide +kernel
theorem dl_251 : decode code 251 = .ok (.goto 4, 3) := by decide +kernel
theorem dl_254 : decode code 254 = .ok (.iconst 0, 1) := by decide +kernel
theorem dl_255 : decode code 255 = .ok (.invokevirtual 18, 3) := by decide +kernel
theorem dl_258 : decode code 258 = .ok (.aload_n 2, 1) := by decide +kernel
theorem dl_259 : decode code 259 = .ok (.aload_n 0, 1) := by decide +kernel
theorem dl_260 : decode code 260 = .ok (.iload_n 3, 1) := by decide +kernel
theorem dl_261 : decode code 261 = .ok (.iconst 1, 1) := by decide +kernel
theorem dl_262 : decode code 262 = .ok (.iadd, 1) := by decide +kernel
theorem dl_263 : decode code 263 = .ok (.iaload, 1) := by decide +kernel
theorem dl_264 : decode code 264 = .ok (.aload_n 0, 1) := by decide +kernel
theorem dl_265 : decode code 265 = .ok (.iload_n 3, 1) := by decide +kernel
theorem dl_266 : decode code 266 = .ok (.iconst 2, 1) := by decide +kernel
theorem dl_267 : decode code 267 = .ok (.iadd, 1) := by decide +kernel
theorem dl_268 : decode code 268 = .ok (.iaload, 1) := by decide +kernel
theorem dl_269 : decode code 269 = .ok (.aload_n 0, 1) := by decide +kernel
theorem dl_270 : decode code 270 = .ok (.iload_n 3, 1) := by decide +kernel
theorem dl_271 : decode code 271 = .ok (.iconst 3, 1) := by decide +kernel
theorem dl_272 : decode code 272 = .ok (.iadd, 1) := by decide +kernel
theorem dl_273 : decode code 273 = .ok (.iaload, 1) := by decide +kernel
theorem dl_274 : decode code 274 = .ok (.ifCond .eq 7, 3) := by decide +kernel
theorem dl_277 : decode code 277 = .ok (.iconst 1, 1) := by decide +kernel
theorem dl_278 : decode code 278 = .ok (.goto 4, 3) := by decide +kernel
theorem dl_281 : decode code 281 = .ok (.iconst 0, 1) := by decide +kernel
theorem dl_282 : decode code 282 = .ok (.invokevirtual 22, 3) := by decide +kernel
theorem dl_285 : decode code 285 = .ok (.if_icmp .eq 1263, 3) := by decide +kernel
theorem dl_288 : decode code 288 = .ok (.iconst 0, 1) := by decide +kernel
theorem dl_289 : decode code 289 = .ok (.ireturn, 1) := by decide +kernel
theorem dl_290 : decode code 290 = .ok (.aload_n 1, 1) := by decide +kernel
theorem dl_291 : decode code 291 = .ok (.aload_n 0, 1) := by decide +kernel
theorem dl_292 : decode code 292 = .ok (.iload_n 3, 1) := by decide +kernel
theorem dl_293 : decode code 293 = .ok (.iconst 1, 1) := by decide +kernel
theorem dl_294 : decode code 294 = .ok (.iadd, 1) := by decide +kernel
theorem dl_295 : decode code 295 = .ok (.iaload, 1) := by decide +kernel
theorem dl_296 : decode code 296 = .ok (.aload_n 0, 1) := by decide +kernel
theorem dl_297 : decode code 297 = .ok (.iload_n 3, 1) := by decide +kernel
theorem dl_298 : decode code 298 = .ok (.iconst 2, 1) := by decide +kernel
theorem dl_299 : decode code 299 = .ok (.iadd, 1) := by decide +kernel
theorem dl_300 : decode code 300 = .ok (.iaload, 1) := by decide +kernel
theorem dl_301 : decode code 301 = .ok (.invokevirtual 23, 3) := by decide +kernel
theorem dl_304 : decode code 304 = .ok (.aload_n 2, 1) := by decide +kernel
theorem dl_305 : decode code 305 = .ok (.aload_n 0, 1) := by decide +kernel
theorem dl_306 : decode code 306 = .ok (.iload_n 3, 1) := by decide +kernel
theorem dl_307 : decode code 307 = .ok (.iconst 1, 1) := by decide +kernel
theorem dl_308 : decode code 308 = .ok (.iadd, 1) := by decide +kernel
theorem dl_309 : decode code 309 = .ok (.iaload, 1) := by decide +kernel
theorem dl_310 : decode code 310 = .ok (.aload_n 0, 1) := by decide +kernel
theorem dl_311 : decode code 311 = .ok (.iload_n 3, 1) := by decide +kernel
theorem dl_312 : decode code 312 = .ok (.iconst 2, 1) := by decide +kernel
theorem dl_313 : decode code 313 = .ok (.iadd, 1) := by decide +kernel
theorem dl_314 : decode code 314 = .ok (.iaload, 1) := by decide +kernel
theorem dl_315 : decode code 315 = .ok (.invokevirtual 27, 3) := by decide +kernel
theorem dl_318 : decode code 318 = .ok (.if_icmp .eq 1230, 3) := by decide +kernel
theorem dl_321 : decode code 321 = .ok (.iconst 0, 1) := by decide +kernel
theorem dl_322 : decode code 322 = .ok (.ireturn, 1) := by decide +kernel
theorem dl_323 : decode code 323 = .ok (.aload_n 1, 1) := by decide +kernel
theorem dl_324 : decode code 324 = .ok (.aload_n 0, 1) := by decide +kernel
theorem dl_325 : decode code 325 = .ok (.iload_n 3, 1) := by decide +kernel
theorem dl_326 : decode code 326 = .ok (.iconst 1, 1) := by decide +kernel
theorem dl_327 : decode code 327 = .ok (.iadd, 1) := by decide +kernel
theorem dl_328 : decode code 328 = .ok (.iaload, 1) := by decide +kernel
theorem dl_329 : decode code 329 = .ok (.aload_n 0, 1) := by decide +kernel
theorem dl_330 : decode code 330 = .ok (.iload_n 3, 1) := by decide +kernel
theorem dl_331 : decode code 331 = .ok (.iconst 2, 1) := by decide +kernel
theorem dl_332 : decode code 332 = .ok (.iadd, 1) := by decide +kernel
theorem dl_333 : decode code 333 = .ok (.iaload, 1) := by decide +kernel
theorem dl_334 : decode code 334 = .ok (.invokevirtual 28, 3) := by decide +kernel
theorem dl_337 : decode code 337 = .ok (.aload_n 2, 1) := by decide +kernel
theorem dl_338 : decode code 338 = .ok (.aload_n 0, 1) := by decide +kernel
theorem dl_339 : decode code 339 = .ok (.iload_n 3, 1) := by decide +kernel
theorem dl_340 : decode code 340 = .ok (.iconst 1, 1) := by decide +kernel
theorem dl_341 : decode code 341 = .ok (.iadd, 1) := by decide +kernel
theorem dl_342 : decode code 342 = .ok (.iaload, 1) := by decide +kernel
theorem dl_343 : decode code 343 = .ok (.aload_n 0, 1) := by decide +kernel
theorem dl_344 : decode code 344 = .ok (.iload_n 3, 1) := by decide +kernel
theorem dl_345 : decode code 345 = .ok (.iconst 2, 1) := by decide +kernel
theorem dl_346 : decode code 346 = .ok (.iadd, 1) := by decide +kernel
theorem dl_347 : decode code 347 = .ok (.iaload, 1) := by decide +kernel
theorem dl_348 : decode code 348 = .ok (.invokevirtual 31, 3) := by decide +kernel
theorem dl_351 : decode code 351 = .ok (.if_icmp .eq 1197, 3) := by decide +kernel
theorem dl_354 : decode code 354 = .ok (.iconst 0, 1) := by decide +kernel
theorem dl_355 : decode code 355 = .ok (.ireturn, 1) := by decide +kernel
theorem dl_356 : decode code 356 = .ok (.aload_n 1, 1) := by decide +kernel
theorem dl_357 : decode code 357 = .ok (.aload_n 0, 1) := by decide +kernel
theorem dl_358 : decode code 358 = .ok (.iload_n 3, 1) := by decide +kernel
theorem dl_359 : decode code 359 = .ok (.iconst 1, 1) := by decide +kernel
theorem dl_360 : decode code 360 = .ok (.iadd, 1) := by decide +kernel
theorem dl_361 : decode code 361 = .ok (.iaload, 1) := by decide +kernel
theorem dl_362 : decode code 362 = .ok (.aload_n 0, 1) := by decide +kernel
theorem dl_363 : decode code 363 = .ok (.iload_n 3, 1) := by decide +kernel
theorem dl_364 : decode code 364 = .ok (.iconst 2, 1) := by decide +kernel
theorem dl_365 : decode code 365 = .ok (.iadd, 1) := by decide +kernel
theorem dl_366 : decode code 366 = .ok (.iaload, 1) := by decide +kernel
theorem dl_367 : decode code 367 = .ok (.invokevirtual 32, 3) := by decide +kernel
theorem dl_370 : decode code 370 = .ok (.aload_n 2, 1) := by decide +kernel
theorem dl_371 : decode code 371 = .ok (.aload_n 0, 1) := by decide +kernel
theorem dl_372 : decode code 372 = .ok (.iload_n 3, 1) := by decide +kernel
theorem dl_373 : decode code 373 = .ok (.iconst 1, 1) := by decide +kernel
theorem dl_374 : decode code 374 = .ok (.iadd, 1) := by decide +kernel
theorem dl_375 : decode code 375 = .ok (.iaload, 1) := by decide +kernel
theorem dl_376 : decode code 376 = .ok (.aload_n 0, 1) := by decide +kernel
theorem dl_377 : decode code 377 = .ok (.iload_n 3, 1) := by decide +kernel
theorem dl_378 : decode code 378 = .ok (.iconst 2, 1) := by decide +kernel
theorem dl_379 : decode code 379 = .ok (.iadd, 1) := by decide +kernel
theorem dl_380 : decode code 380 = .ok (.iaload, 1) := by decide +kernel
theorem dl_381 : decode code 381 = .ok (.invokevirtual 35, 3) := by decide +kernel
theorem dl_384 : decode code 384 = .ok (.if_icmp .eq 1164, 3) := by decide +kernel
theorem dl_387 : decode code 387 = .ok (.iconst 0, 1) := by decide +kernel
theorem dl_388 : decode code 388 = .ok (.ireturn, 1) := by decide +kernel
theorem dl_389 : decode code 389 = .ok (.aload_n 1, 1) := by decide +kernel
theorem dl_390 : decode code 390 = .ok (.aload_n 0, 1) := by decide +kernel
theorem dl_391 : decode code 391 = .ok (.iload_n 3, 1) := by decide +kernel
theorem dl_392 : decode code 392 = .ok (.iconst 1, 1) := by decide +kernel
theorem dl_393 : decode code 393 = .ok (.iadd, 1) := by decide +kernel
theorem dl_394 : decode code 394 = .ok (.iaload, 1) := by decide +kernel
theorem dl_395 : decode code 395 = .ok (.aload_n 0, 1) := by decide +kernel
theorem dl_396 : decode code 396 = .ok (.iload_n 3, 1) := by decide +kernel
theorem dl_397 : decode code 397 = .ok (.iconst 2, 1) := by decide +kernel
theorem dl_398 : decode code 398 = .ok (.iadd, 1) := by decide +kernel
theorem dl_399 : decode code 399 = .ok (.iaload, 1) := by decide +kernel
theorem dl_400 : decode code 400 = .ok (.invokevirtual 36, 3) := by decide +kernel
theorem dl_403 : decode code 403 = .ok (.aload_n 2, 1) := by decide +kernel
theorem dl_404 : decode code 404 = .ok (.aload_n 0, 1) := by decide +kernel
theorem dl_405 : decode code 405 = .ok (.iload_n 3, 1) := by decide +kernel
theorem dl_406 : decode code 406 = .ok (.iconst 1, 1) := by decide +kernel
theorem dl_407 : decode code 407 = .ok (.iadd, 1) := by decide +kernel
theorem dl_408 : decode code 408 = .ok (.iaload, 1) := by decide +kernel
theorem dl_409 : decode code 409 = .ok (.aload_n 0, 1) := by decide +kernel
theorem dl_410 : decode code 410 = .ok (.iload_n 3, 1) := by decide +kernel
theorem dl_411 : decode code 411 = .ok (.iconst 2, 1) := by decide +kernel
theorem dl_412 : decode code 412 = .ok (.iadd, 1) := by decide +kernel
theorem dl_413 : decode code 413 = .ok (.iaload, 1) := by decide +kernel
theorem dl_414 : decode code 414 = .ok (.invokevirtual 39, 3) := by decide +kernel
theorem dl_417 : decode code 417 = .ok (.if_icmp .eq 1131, 3) := by decide +kernel
theorem dl_420 : decode code 420 = .ok (.iconst 0, 1) := by decide +kernel
theorem dl_421 : decode code 421 = .ok (.ireturn, 1) := by decide +kernel
theorem dl_422 : decode code 422 = .ok (.aload_n 1, 1) := by decide +kernel
theorem dl_423 : decode code 423 = .ok (.aload_n 0, 1) := by decide +kernel
theorem dl_424 : decode code 424 = .ok (.iload_n 3, 1) := by decide +kernel
theorem dl_425 : decode code 425 = .ok (.iconst 1, 1) := by decide +kernel
theorem dl_426 : decode code 426 = .ok (.iadd, 1) := by decide +kernel
theorem dl_427 : decode code 427 = .ok (.iaload, 1) := by decide +kernel
theorem dl_428 : decode code 428 = .ok (.aload_n 0, 1) := by decide +kernel
theorem dl_429 : decode code 429 = .ok (.iload_n 3, 1) := by decide +kernel
theorem dl_430 : decode code 430 = .ok (.iconst 2, 1) := by decide +kernel
theorem dl_431 : decode code 431 = .ok (.iadd, 1) := by decide +kernel
theorem dl_432 : decode code 432 = .ok (.iaload, 1) := by decide +kernel
theorem dl_433 : decode code 433 = .ok (.invokevirtual 40, 3) := by decide +kernel
theorem dl_436 : decode code 436 = .ok (.aload_n 2, 1) := by decide +kernel
theorem dl_437 : decode code 437 = .ok (.aload_n 0, 1) := by decide +kernel
theorem dl_438 : decode code 438 = .ok (.iload_n 3, 1) := by decide +kernel
theorem dl_439 : decode code 439 = .ok (.iconst 1, 1) := by decide +kernel
theorem dl_440 : decode code 440 = .ok (.iadd, 1) := by decide +kernel
theorem dl_441 : decode code 441 = .ok (.iaload, 1) := by decide +kernel
theorem dl_442 : decode code 442 = .ok (.aload_n 0, 1) := by decide +kernel
theorem dl_443 : decode code 443 = .ok (.iload_n 3, 1) := by decide +kernel
theorem dl_444 : decode code 444 = .ok (.iconst 2, 1) := by decide +kernel
theorem dl_445 : decode code 445 = .ok (.iadd, 1) := by decide +kernel
theorem dl_446 : decode code 446 = .ok (.iaload, 1) := by decide +kernel
theorem dl_447 : decode code 447 = .ok (.invokevirtual 43, 3) := by decide +kernel
theorem dl_450 : decode code 450 = .ok (.if_icmp .eq 1098, 3) := by decide +kernel
theorem dl_453 : decode code 453 = .ok (.iconst 0, 1) := by decide +kernel
theorem dl_454 : decode code 454 = .ok (.ireturn, 1) := by decide +kernel
theorem dl_455 : decode code 455 = .ok (.aload_n 1, 1) := by decide +kernel
theorem dl_456 : decode code 456 = .ok (.aload_n 0, 1) := by decide +kernel
theorem dl_457 : decode code 457 = .ok (.iload_n 3, 1) := by decide +kernel
theorem dl_458 : decode code 458 = .ok (.iconst 1, 1) := by decide +kernel
theorem dl_459 : decode code 459 = .ok (.iadd, 1) := by decide +kernel
theorem dl_460 : decode code 460 = .ok (.iaload, 1) := by decide +kernel
theorem dl_461 : decode code 461 = .ok (.aload_n 0, 1) := by decide +kernel
theorem dl_462 : decode code 462 = .ok (.iload_n 3, 1) := by decide +kernel
theorem dl_463 : decode code 463 = .ok (.iconst 2, 1) := by decide +kernel
theorem dl_464 : decode code 464 = .ok (.iadd, 1) := by decide +kernel
theorem dl_465 : decode code 465 = .ok (.iaload, 1) := by decide +kernel
theorem dl_466 : decode code 466 = .ok (.invokevirtual 44, 3) := by decide +kernel
theorem dl_469 : decode code 469 = .ok (.aload_n 2, 1) := by decide +kernel
theorem dl_470 : decode code 470 = .ok (.aload_n 0, 1) := by decide +kernel
theorem dl_471 : decode code 471 = .ok (.iload_n 3, 1) := by decide +kernel
theorem dl_472 : decode code 472 = .ok (.iconst 1, 1) := by decide +kernel
theorem dl_473 : decode code 473 = .ok (.iadd, 1) := by decide +kernel
theorem dl_474 : decode code 474 = .ok (.iaload, 1) := by decide +kernel
theorem dl_475 : decode code 475 = .ok (.aload_n 0, 1) := by decide +kernel
theorem dl_476 : decode code 476 = .ok (.iload_n 3, 1) := by decide +kernel
theorem dl_477 : decode code 477 = .ok (.iconst 2, 1) := by decide +kernel
theorem dl_478 : decode code 478 = .ok (.iadd, 1) := by decide +kernel
theorem dl_479 : decode code 479 = .ok (.iaload, 1) := by decide +kernel
theorem dl_480 : decode code 480 = .ok (.invokevirtual 48, 3) := by decide +kernel
theorem dl_483 : decode code 483 = .ok (.lcmp, 1) := by decide +kernel
theorem dl_484 : decode code 484 = .ok (.ifCond .eq 1064, 3) := by decide +kernel
theorem dl_487 : decode code 487 = .ok (.iconst 0, 1) := by decide +kernel
theorem dl_488 : decode code 488 = .ok (.ireturn, 1) := by decide +kernel
theorem dl_489 : decode code 489 = .ok (.aload_n 1, 1) := by decide +kernel
theorem dl_490 : decode code 490 = .ok (.aload_n 0, 1) := by decide +kernel
theorem dl_491 : decode code 491 = .ok (.iload_n 3, 1) := by decide +kernel
theorem dl_492 : decode code 492 = .ok (.iconst 1, 1) := by decide +kernel
theorem dl_493 : decode code 493 = .ok (.iadd, 1) := by decide +kernel
theorem dl_494 : decode code 494 = .ok (.iaload, 1) := by decide +kernel
theorem dl_495 : decode code 495 = .ok (.aload_n 0, 1) := by decide +kernel
theorem dl_496 : decode code 496 = .ok (.iload_n 3, 1) := by decide +kernel
theorem dl_497 : decode code 497 = .ok (.iconst 2, 1) := by decide +kernel
theorem dl_498 : decode code 498 = .ok (.iadd, 1) := by decide +kernel
theorem dl_499 : decode code 499 = .ok (.iaload, 1) := by decide +kernel
theorem dl_500 : decode code 500 = .ok (.aload_n 0, 1) := by decide +kernel
theorem dl_501 : decode code 501 = .ok (.iload_n 3, 1) := by decide +kernel
theorem dl_502 : decode code 502 = .ok (.iconst 3, 1) := by decide +kernel
theorem dl_503 : decode code 503 = .ok (.iadd, 1) := by decide +kernel
theorem dl_504 : decode code 504 = .ok (.iaload, 1) := by decide +kernel
theorem dl_505 : decode code 505 = .ok (.invokevirtual 49, 3) := by decide +kernel
theorem dl_508 : decode code 508 = .ok (.aload_n 2, 1) := by decide +kernel
theorem dl_509 : decode code 509 = .ok (.aload_n 0, 1) := by decide +kernel
theorem dl_510 : decode code 510 = .ok (.iload_n 3, 1) := by decide +kernel
theorem dl_511 : decode code 511 = .ok (.iconst 1, 1) := by decide +kernel
theorem dl_512 : decode code 512 = .ok (.iadd, 1) := by decide +kernel
theorem dl_513 : decode code 513 = .ok (.iaload, 1) := by decide +kernel
theorem dl_514 : decode code 514 = .ok (.aload_n 0, 1) := by decide +kernel
theorem dl_515 : decode code 515 = .ok (.iload_n 3, 1) := by decide +kernel
theorem dl_516 : decode code 516 = .ok (.iconst 2, 1) := by decide +kernel
theorem dl_517 : decode code 517 = .ok (.iadd, 1) := by decide +kernel
theorem dl_518 : decode code 518 = .ok (.iaload, 1) := by decide +kernel
theorem dl_519 : decode code 519 = .ok (.aload_n 0, 1) := by decide +kernel
theorem dl_520 : decode code 520 = .ok (.iload_n 3, 1) := by decide +kernel
theorem dl_521 : decode code 521 = .ok (.iconst 3, 1) := by decide +kernel
theorem dl_522 : decode code 522 = .ok (.iadd, 1) := by decide +kernel
theorem dl_523 : decode code 523 = .ok (.iaload, 1) := by decide +kernel
theorem dl_524 : decode code 524 = .ok (.invokevirtual 53, 3) := by decide +kernel
theorem dl_527 : decode code 527 = .ok (.lcmp, 1) := by decide +kernel
theorem dl_528 : decode code 528 = .ok (.ifCond .eq 1020, 3) := by decide +kernel
theorem dl_531 : decode code 531 = .ok (.iconst 0, 1) := by decide +kernel
theorem dl_532 : decode code 532 = .ok (.ireturn, 1) := by decide +kernel
theorem dl_533 : decode code 533 = .ok (.aload_n 1, 1) := by decide +kernel
theorem dl_534 : decode code 534 = .ok (.aload_n 0, 1) := by decide +kernel
theorem dl_535 : decode code 535 = .ok (.iload_n 3, 1) := by decide +kernel
theorem dl_536 : decode code 536 = .ok (.iconst 1, 1) := by decide +kernel
theorem dl_537 : decode code 537 = .ok (.iadd, 1) := by decide +kernel
theorem dl_538 : decode code 538 = .ok (.iaload, 1) := by decide +kernel
theorem dl_539 : decode code 539 = .ok (.aload_n 0, 1) := by decide +kernel
theorem dl_540 : decode code 540 = .ok (.iload_n 3, 1) := by decide +kernel
theorem dl_541 : decode code 541 = .ok (.iconst 2, 1) := by decide +kernel
theorem dl_542 : decode code 542 = .ok (.iadd, 1) := by decide +kernel
theorem dl_543 : decode code 543 = .ok (.iaload, 1) := by decide +kernel
theorem dl_544 : decode code 544 = .ok (.invokevirtual 54, 3) := by decide +kernel
theorem dl_547 : decode code 547 = .ok (.aload_n 2, 1) := by decide +kernel
theorem dl_548 : decode code 548 = .ok (.aload_n 0, 1) := by decide +kernel
theorem dl_549 : decode code 549 = .ok (.iload_n 3, 1) := by decide +kernel
theorem dl_550 : decode code 550 = .ok (.iconst 1, 1) := by decide +kernel
theorem dl_551 : decode code 551 = .ok (.iadd, 1) := by decide +kernel
theorem dl_552 : decode code 552 = .ok (.iaload, 1) := by decide +kernel
theorem dl_553 : decode code 553 = .ok (.aload_n 0, 1) := by decide +kernel
theorem dl_554 : decode code 554 = .ok (.iload_n 3, 1) := by decide +kernel
theorem dl_555 : decode code 555 = .ok (.iconst 2, 1) := by decide +kernel
theorem dl_556 : decode code 556 = .ok (.iadd, 1) := by decide +kernel
theorem dl_557 : decode code 557 = .ok (.iaload, 1) := by decide +kernel
theorem dl_558 : decode code 558 = .ok (.invokevirtual 57, 3) := by decide +kernel
theorem dl_561 : decode code 561 = .ok (.lcmp, 1) := by decide +kernel
theorem dl_562 : decode code 562 = .ok (.ifCond .eq 986, 3) := by decide +kernel
theorem dl_565 : decode code 565 = .ok (.iconst 0, 1) := by decide +kernel
theorem dl_566 : decode code 566 = .ok (.ireturn, 1) := by decide +kernel
theorem dl_567 : decode code 567 = .ok (.aload_n 1, 1) := by decide +kernel
theorem dl_568 : decode code 568 = .ok (.aload_n 0, 1) := by decide +kernel
theorem dl_569 : decode code 569 = .ok (.iload_n 3, 1) := by decide +kernel
theorem dl_570 : decode code 570 = .ok (.iconst 1, 1) := by decide +kernel
theorem dl_571 : decode code 571 = .ok (.iadd, 1) := by decide +kernel
theorem dl_572 : decode code 572 = .ok (.iaload, 1) := by decide +kernel
theorem dl_573 : decode code 573 = .ok (.aload_n 0, 1) := by decide +kernel
theorem dl_574 : decode code 574 = .ok (.iload_n 3, 1) := by decide +kernel
theorem dl_575 : decode code 575 = .ok (.iconst 2, 1) := by decide +kernel
theorem dl_576 : decode code 576 = .ok (.iadd, 1) := by decide +kernel
theorem dl_577 : decode code 577 = .ok (.iaload, 1) := by decide +kernel
theorem dl_578 : decode code 578 = .ok (.invokevirtual 58, 3) := by decide +kernel
theorem dl_581 : decode code 581 = .ok (.aload_n 2, 1) := by decide +kernel
theorem dl_582 : decode code 582 = .ok (.aload_n 0, 1) := by decide +kernel
theorem dl_583 : decode code 583 = .ok (.iload_n 3, 1) := by decide +kernel
theorem dl_584 : decode code 584 = .ok (.iconst 1, 1) := by decide +kernel
theorem dl_585 : decode code 585 = .ok (.iadd, 1) := by decide +kernel
theorem dl_586 : decode code 586 = .ok (.iaload, 1) := by decide +kernel
theorem dl_587 : decode code 587 = .ok (.aload_n 0, 1) := by decide +kernel
theorem dl_588 : decode code 588 = .ok (.iload_n 3, 1) := by decide +kernel
theorem dl_589 : decode code 589 = .ok (.iconst 2, 1) := by decide +kernel
theorem dl_590 : decode code 590 = .ok (.iadd, 1) := by decide +kernel
theorem dl_591 : decode code 591 = .ok (.iaload, 1) := by decide +kernel
theorem dl_592 : decode code 592 = .ok (.invokevirtual 61, 3) := by decide +kernel
theorem dl_595 : decode code 595 = .ok (.lcmp, 1) := by decide +kernel
theorem dl_596 : decode code 596 = .ok (.ifCond .eq 952, 3) := by decide +kernel
theorem dl_599 : decode code 599 = .ok (.iconst 0, 1) := by decide +kernel
theorem dl_600 : decode code 600 = .ok (.ireturn, 1) := by decide +kernel
theorem dl_601 : decode code 601 = .ok (.aload_n 1, 1) := by decide +kernel
theorem dl_602 : decode code 602 = .ok (.aload_n 0, 1) := by decide +kernel
theorem dl_603 : decode code 603 = .ok (.iload_n 3, 1) := by decide +kernel
theorem dl_604 : decode code 604 = .ok (.iconst 1, 1) := by decide +kernel
theorem dl_605 : decode code 605 = .ok (.iadd, 1) := by decide +kernel
theorem dl_606 : decode code 606 = .ok (.iaload, 1) := by decide +kernel
theorem dl_607 : decode code 607 = .ok (.aload_n 0, 1) := by decide +kernel
theorem dl_608 : decode code 608 = .ok (.iload_n 3, 1) := by decide +kernel
theorem dl_609 : decode code 609 = .ok (.iconst 2, 1) := by decide +kernel
theorem dl_610 : decode code 610 = .ok (.iadd, 1) := by decide +kernel
theorem dl_611 : decode code 611 = .ok (.iaload, 1) := by decide +kernel
theorem dl_612 : decode code 612 = .ok (.invokevirtual 62, 3) := by decide +kernel
theorem dl_615 : decode code 615 = .ok (.aload_n 2, 1) := by decide +kernel
theorem dl_616 : decode code 616 = .ok (.aload_n 0, 1) := by decide +kernel
theorem dl_617 : decode code 617 = .ok (.iload_n 3, 1) := by decide +kernel
theorem dl_618 : decode code 618 = .ok (.iconst 1, 1) := by decide +kernel
theorem dl_619 : decode code 619 = .ok (.iadd, 1) := by decide +kernel
theorem dl_620 : decode code 620 = .ok (.iaload, 1) := by decide +kernel
theorem dl_621 : decode code 621 = .ok (.aload_n 0, 1) := by decide +kernel
theorem dl_622 : decode code 622 = .ok (.iload_n 3, 1) := by decide +kernel
theorem dl_623 : decode code 623 = .ok (.iconst 2, 1) := by decide +kernel
theorem dl_624 : decode code 624 = .ok (.iadd, 1) := by decide +kernel
theorem dl_625 : decode code 625 = .ok (.iaload, 1) := by decide +kernel
theorem dl_626 : decode code 626 = .ok (.invokevirtual 65, 3) := by decide +kernel
theorem dl_629 : decode code 629 = .ok (.lcmp, 1) := by decide +kernel
theorem dl_630 : decode code 630 = .ok (.ifCond .eq 918, 3) := by decide +kernel
theorem dl_633 : decode code 633 = .ok (.iconst 0, 1) := by decide +kernel
theorem dl_634 : decode code 634 = .ok (.ireturn, 1) := by decide +kernel
theorem dl_635 : decode code 635 = .ok (.aload_n 1, 1) := by decide +kernel
theorem dl_636 : decode code 636 = .ok (.aload_n 0, 1) := by decide +kernel
theorem dl_637 : decode code 637 = .ok (.iload_n 3, 1) := by decide +kernel
theorem dl_638 : decode code 638 = .ok (.iconst 1, 1) := by decide +kernel
theorem dl_639 : decode code 639 = .ok (.iadd, 1) := by decide +kernel
theorem dl_640 : decode code 640 = .ok (.iaload, 1) := by decide +kernel
theorem dl_641 : decode code 641 = .ok (.aload_n 0, 1) := by decide +kernel
theorem dl_642 : decode code 642 = .ok (.iload_n 3, 1) := by decide +kernel
theorem dl_643 : decode code 643 = .ok (.iconst 2, 1) := by decide +kernel
theorem dl_644 : decode code 644 = .ok (.iadd, 1) := by decide +kernel
theorem dl_645 : decode code 645 = .ok (.iaload, 1) := by decide +kernel
theorem dl_646 : decode code 646 = .ok (.aload_n 0, 1) := by decide +kernel
theorem dl_647 : decode code 647 = .ok (.iload_n 3, 1) := by decide +kernel
theorem dl_648 : decode code 648 = .ok (.iconst 3, 1) := by decide +kernel
theorem dl_649 : decode code 649 = .ok (.iadd, 1) := by decide +kernel
theorem dl_650 : decode code 650 = .ok (.iaload, 1) := by decide +kernel
theorem dl_651 : decode code 651 = .ok (.invokevirtual 66, 3) := by decide +kernel
theorem dl_654 : decode code 654 = .ok (.aload_n 2, 1) := by decide +kernel
theorem dl_655 : decode code 655 = .ok (.aload_n 0, 1) := by decide +kernel
theorem dl_656 : decode code 656 = .ok (.iload_n 3, 1) := by decide +kernel
theorem dl_657 : decode code 657 = .ok (.iconst 1, 1) := by decide +kernel
theorem dl_658 : decode code 658 = .ok (.iadd, 1) := by decide +kernel
theorem dl_659 : decode code 659 = .ok (.iaload, 1) := by decide +kernel
theorem dl_660 : decode code 660 = .ok (.aload_n 0, 1) := by decide +kernel
theorem dl_661 : decode code 661 = .ok (.iload_n 3, 1) := by decide +kernel
theorem dl_662 : decode code 662 = .ok (.iconst 2, 1) := by decide +kernel
theorem dl_663 : decode code 663 = .ok (.iadd, 1) := by decide +kernel
theorem dl_664 : decode code 664 = .ok (.iaload, 1) := by decide +kernel
theorem dl_665 : decode code 665 = .ok (.aload_n 0, 1) := by decide +kernel
theorem dl_666 : decode code 666 = .ok (.iload_n 3, 1) := by decide +kernel
theorem dl_667 : decode code 667 = .ok (.iconst 3, 1) := by decide +kernel
theorem dl_668 : decode code 668 = .ok (.iadd, 1) := by decide +kernel
theorem dl_669 : decode code 669 = .ok (.iaload, 1) := by decide +kernel
theorem dl_670 : decode code 670 = .ok (.invokevirtual 69, 3) := by decide +kernel
theorem dl_673 : decode code 673 = .ok (.lcmp, 1) := by decide +kernel
theorem dl_674 : decode code 674 = .ok (.ifCond .eq 874, 3) := by decide +kernel
theorem dl_677 : decode code 677 = .ok (.iconst 0, 1) := by decide +kernel
theorem dl_678 : decode code 678 = .ok (.ireturn, 1) := by decide +kernel
theorem dl_679 : decode code 679 = .ok (.aload_n 1, 1) := by decide +kernel
theorem dl_680 : decode code 680 = .ok (.aload_n 0, 1) := by decide +kernel
theorem dl_681 : decode code 681 = .ok (.iload_n 3, 1) := by decide +kernel
theorem dl_682 : decode code 682 = .ok (.iconst 1, 1) := by decide +kernel
theorem dl_683 : decode code 683 = .ok (.iadd, 1) := by decide +kernel
theorem dl_684 : decode code 684 = .ok (.iaload, 1) := by decide +kernel
theorem dl_685 : decode code 685 = .ok (.aload_n 0, 1) := by decide +kernel
theorem dl_686 : decode code 686 = .ok (.iload_n 3, 1) := by decide +kernel
theorem dl_687 : decode code 687 = .ok (.iconst 2, 1) := by decide +kernel
theorem dl_688 : decode code 688 = .ok (.iadd, 1) := by decide +kernel
theorem dl_689 : decode code 689 = .ok (.iaload, 1) := by decide +kernel
theorem dl_690 : decode code 690 = .ok (.invokevirtual 70, 3) := by decide +kernel
theorem dl_693 : decode code 693 = .ok (.aload_n 2, 1) := by decide +kernel
theorem dl_694 : decode code 694 = .ok (.aload_n 0, 1) := by decide +kernel
theorem dl_695 : decode code 695 = .ok (.iload_n 3, 1) := by decide +kernel
theorem dl_696 : decode code 696 = .ok (.iconst 1, 1) := by decide +kernel
theorem dl_697 : decode code 697 = .ok (.iadd, 1) := by decide +kernel
theorem dl_698 : decode code 698 = .ok (.iaload, 1) := by decide +kernel
theorem dl_699 : decode code 699 = .ok (.aload_n 0, 1) := by decide +kernel
theorem dl_700 : decode code 700 = .ok (.iload_n 3, 1) := by decide +kernel
theorem dl_701 : decode code 701 = .ok (.iconst 2, 1) := by decide +kernel
theorem dl_702 : decode code 702 = .ok (.iadd, 1) := by decide +kernel
theorem dl_703 : decode code 703 = .ok (.iaload, 1) := by decide +kernel
theorem dl_704 : decode code 704 = .ok (.invokevirtual 73, 3) := by decide +kernel
theorem dl_707 : decode code 707 = .ok (.lcmp, 1) := by decide +kernel
theorem dl_708 : decode code 708 = .ok (.ifCond .eq 840, 3) := by decide +kernel
theorem dl_711 : decode code 711 = .ok (.iconst 0, 1) := by decide +kernel
theorem dl_712 : decode code 712 = .ok (.ireturn, 1) := by decide +kernel
theorem dl_713 : decode code 713 = .ok (.aload_n 1, 1) := by decide +kernel
theorem dl_714 : decode code 714 = .ok (.aload_n 0, 1) := by decide +kernel
theorem dl_715 : decode code 715 = .ok (.iload_n 3, 1) := by decide +kernel
theorem dl_716 : decode code 716 = .ok (.iconst 1, 1) := by decide +kernel
theorem dl_717 : decode code 717 = .ok (.iadd, 1) := by decide +kernel
theorem dl_718 : decode code 718 = .ok (.iaload, 1) := by decide +kernel
theorem dl_719 : decode code 719 = .ok (.aload_n 0, 1) := by decide +kernel
theorem dl_720 : decode code 720 = .ok (.iload_n 3, 1) := by decide +kernel
theorem dl_721 : decode code 721 = .ok (.iconst 2, 1) := by decide +kernel
theorem dl_722 : decode code 722 = .ok (.iadd, 1) := by decide +kernel
theorem dl_723 : decode code 723 = .ok (.iaload, 1) := by decide +kernel
theorem dl_724 : decode code 724 = .ok (.invokevirtual 74, 3) := by decide +kernel
theorem dl_727 : decode code 727 = .ok (.aload_n 2, 1) := by decide +kernel
theorem dl_728 : decode code 728 = .ok (.aload_n 0, 1) := by decide +kernel
theorem dl_729 : decode code 729 = .ok (.iload_n 3, 1) := by decide +kernel
theorem dl_730 : decode code 730 = .ok (.iconst 1, 1) := by decide +kernel
theorem dl_731 : decode code 731 = .ok (.iadd, 1) := by decide +kernel
theorem dl_732 : decode code 732 = .ok (.iaload, 1) := by decide +kernel
theorem dl_733 : decode code 733 = .ok (.aload_n 0, 1) := by decide +kernel
theorem dl_734 : decode code 734 = .ok (.iload_n 3, 1) := by decide +kernel
theorem dl_735 : decode code 735 = .ok (.iconst 2, 1) := by decide +kernel
theorem dl_736 : decode code 736 = .ok (.iadd, 1) := by decide +kernel
theorem dl_737 : decode code 737 = .ok (.iaload, 1) := by decide +kernel
theorem dl_738 : decode code 738 = .ok (.invokevirtual 77, 3) := by decide +kernel
theorem dl_741 : decode code 741 = .ok (.lcmp, 1) := by decide +kernel
theorem dl_742 : decode code 742 = .ok (.ifCond .eq 806, 3) := by decide +kernel
theorem dl_745 : decode code 745 = .ok (.iconst 0, 1) := by decide +kernel
theorem dl_746 : decode code 746 = .ok (.ireturn, 1) := by decide +kernel
theorem dl_747 : decode code 747 = .ok (.aload_n 1, 1) := by decide +kernel
theorem dl_748 : decode code 748 = .ok (.aload_n 0, 1) := by decide +kernel
theorem dl_749 : decode code 749 = .ok (.iload_n 3, 1) := by decide +kernel
theorem dl_750 : decode code 750 = .ok (.iconst 1, 1) := by decide +kernel
theorem dl_751 : decode code 751 = .ok (.iadd, 1) := by decide +kernel
theorem dl_752 : decode code 752 = .ok (.iaload, 1) := by decide +kernel
theorem dl_753 : decode code 753 = .ok (.aload_n 0, 1) := by decide +kernel
theorem dl_754 : decode code 754 = .ok (.iload_n 3, 1) := by decide +kernel
theorem dl_755 : decode code 755 = .ok (.iconst 2, 1) := by decide +kernel
theorem dl_756 : decode code 756 = .ok (.iadd, 1) := by decide +kernel
theorem dl_757 : decode code 757 = .ok (.iaload, 1) := by decide +kernel
theorem dl_758 : decode code 758 = .ok (.aload_n 0, 1) := by decide +kernel
theorem dl_759 : decode code 759 = .ok (.iload_n 3, 1) := by decide +kernel
theorem dl_760 : decode code 760 = .ok (.iconst 3, 1) := by decide +kernel
theorem dl_761 : decode code 761 = .ok (.iadd, 1) := by decide +kernel
theorem dl_762 : decode code 762 = .ok (.iaload, 1) := by decide +kernel
theorem dl_763 : decode code 763 = .ok (.aload_n 0, 1) := by decide +kernel
theorem dl_764 : decode code 764 = .ok (.iload_n 3, 1) := by decide +kernel
theorem dl_765 : decode code 765 = .ok (.iconst 4, 1) := by decide +kernel
theorem dl_766 : decode code 766 = .ok (.iadd, 1) := by decide +kernel
theorem dl_767 : decode code 767 = .ok (.iaload, 1) := by decide +kernel
theorem dl_768 : decode code 768 = .ok (.invokevirtual 78, 3) := by decide +kernel
theorem dl_771 : decode code 771 = .ok (.aload_n 2, 1) := by decide +kernel
theorem dl_772 : decode code 772 = .ok (.aload_n 0, 1) := by decide +kernel
theorem dl_773 : decode code 773 = .ok (.iload_n 3, 1) := by decide +kernel
theorem dl_774 : decode code 774 = .ok (.iconst 1, 1) := by decide +kernel
theorem dl_775 : decode code 775 = .ok (.iadd, 1) := by decide +kernel
theorem dl_776 : decode code 776 = .ok (.iaload, 1) := by decide +kernel
theorem dl_777 : decode code 777 = .ok (.aload_n 0, 1) := by decide +kernel
theorem dl_778 : decode code 778 = .ok (.iload_n 3, 1) := by decide +kernel
theorem dl_779 : decode code 779 = .ok (.iconst 2, 1) := by decide +kernel
theorem dl_780 : decode code 780 = .ok (.iadd, 1) := by decide +kernel
theorem dl_781 : decode code 781 = .ok (.iaload, 1) := by decide +kernel
theorem dl_782 : decode code 782 = .ok (.aload_n 0, 1) := by decide +kernel
theorem dl_783 : decode code 783 = .ok (.iload_n 3, 1) := by decide +kernel
theorem dl_784 : decode code 784 = .ok (.iconst 3, 1) := by decide +kernel
theorem dl_785 : decode code 785 = .ok (.iadd, 1) := by decide +kernel
theorem dl_786 : decode code 786 = .ok (.iaload, 1) := by decide +kernel
theorem dl_787 : decode code 787 = .ok (.aload_n 0, 1) := by decide +kernel
theorem dl_788 : decode code 788 = .ok (.iload_n 3, 1) := by decide +kernel
theorem dl_789 : decode code 789 = .ok (.iconst 4, 1) := by decide +kernel
theorem dl_790 : decode code 790 = .ok (.iadd, 1) := by decide +kernel
theorem dl_791 : decode code 791 = .ok (.iaload, 1) := by decide +kernel
theorem dl_792 : decode code 792 = .ok (.invokevirtual 82, 3) := by decide +kernel
theorem dl_795 : decode code 795 = .ok (.if_icmp .eq 753, 3) := by decide +kernel
theorem dl_798 : decode code 798 = .ok (.iconst 0, 1) := by decide +kernel
theorem dl_799 : decode code 799 = .ok (.ireturn, 1) := by decide +kernel
theorem dl_800 : decode code 800 = .ok (.aload_n 1, 1) := by decide +kernel
theorem dl_801 : decode code 801 = .ok (.aload_n 0, 1) := by decide +kernel
theorem dl_802 : decode code 802 = .ok (.iload_n 3, 1) := by decide +kernel
theorem dl_803 : decode code 803 = .ok (.iconst 1, 1) := by decide +kernel
theorem dl_804 : decode code 804 = .ok (.iadd, 1) := by decide +kernel
theorem dl_805 : decode code 805 = .ok (.iaload, 1) := by decide +kernel
theorem dl_806 : decode code 806 = .ok (.aload_n 0, 1) := by decide +kernel
theorem dl_807 : decode code 807 = .ok (.iload_n 3, 1) := by decide +kernel
theorem dl_808 : decode code 808 = .ok (.iconst 2, 1) := by decide +kernel
theorem dl_809 : decode code 809 = .ok (.iadd, 1) := by decide +kernel
theorem dl_810 : decode code 810 = .ok (.iaload, 1) := by decide +kernel
theorem dl_811 : decode code 811 = .ok (.invokevirtual 83, 3) := by decide +kernel
theorem dl_814 : decode code 814 = .ok (.aload_n 2, 1) := by decide +kernel
theorem dl_815 : decode code 815 = .ok (.aload_n 0, 1) := by decide +kernel
theorem dl_816 : decode code 816 = .ok (.iload_n 3, 1) := by decide +kernel
theorem dl_817 : decode code 817 = .ok (.iconst 1, 1) := by decide +kernel
theorem dl_818 : decode code 818 = .ok (.iadd, 1) := by decide +kernel
theorem dl_819 : decode code 819 = .ok (.iaload, 1) := by decide +kernel
theorem dl_820 : decode code 820 = .ok (.aload_n 0, 1) := by decide +kernel
theorem dl_821 : decode code 821 = .ok (.iload_n 3, 1) := by decide +kernel
theorem dl_822 : decode code 822 = .ok (.iconst 2, 1) := by decide +kernel
theorem dl_823 : decode code 823 = .ok (.iadd, 1) := by decide +kernel
theorem dl_824 : decode code 824 = .ok (.iaload, 1) := by decide +kernel
theorem dl_825 : decode code 825 = .ok (.invokevirtual 86, 3) := by decide +kernel
theorem dl_828 : decode code 828 = .ok (.if_icmp .eq 720, 3) := by decide +kernel
theorem dl_831 : decode code 831 = .ok (.iconst 0, 1) := by decide +kernel
theorem dl_832 : decode code 832 = .ok (.ireturn, 1) := by decide +kernel
theorem dl_833 : decode code 833 = .ok (.aload_n 1, 1) := by decide +kernel
theorem dl_834 : decode code 834 = .ok (.aload_n 0, 1) := by decide +kernel
theorem dl_835 : decode code 835 = .ok (.iload_n 3, 1) := by decide +kernel
theorem dl_836 : decode code 836 = .ok (.iconst 1, 1) := by decide +kernel
theorem dl_837 : decode code 837 = .ok (.iadd, 1) := by decide +kernel
theorem dl_838 : decode code 838 = .ok (.iaload, 1) := by decide +kernel
theorem dl_839 : decode code 839 = .ok (.aload_n 0, 1) := by decide +kernel
theorem dl_840 : decode code 840 = .ok (.iload_n 3, 1) := by decide +kernel
theorem dl_841 : decode code 841 = .ok (.iconst 2, 1) := by decide +kernel
theorem dl_842 : decode code 842 = .ok (.iadd, 1) := by decide +kernel
theorem dl_843 : decode code 843 = .ok (.iaload, 1) := by decide +kernel
theorem dl_844 : decode code 844 = .ok (.invokevirtual 87, 3) := by decide +kernel
theorem dl_847 : decode code 847 = .ok (.aload_n 2, 1) := by decide +kernel
theorem dl_848 : decode code 848 = .ok (.aload_n 0, 1) := by decide +kernel
theorem dl_849 : decode code 849 = .ok (.iload_n 3, 1) := by decide +kernel
theorem dl_850 : decode code 850 = .ok (.iconst 1, 1) := by decide +kernel
theorem dl_851 : decode code 851 = .ok (.iadd, 1) := by decide +kernel
theorem dl_852 : decode code 852 = .ok (.iaload, 1) := by decide +kernel
theorem dl_853 : decode code 853 = .ok (.aload_n 0, 1) := by decide +kernel
theorem dl_854 : decode code 854 = .ok (.iload_n 3, 1) := by decide +kernel
theorem dl_855 : decode code 855 = .ok (.iconst 2, 1) := by decide +kernel
theorem dl_856 : decode code 856 = .ok (.iadd, 1) := by decide +kernel
theorem dl_857 : decode code 857 = .ok (.iaload, 1) := by decide +kernel
theorem dl_858 : decode code 858 = .ok (.invokevirtual 90, 3) := by decide +kernel
theorem dl_861 : decode code 861 = .ok (.if_icmp .eq 687, 3) := by decide +kernel
theorem dl_864 : decode code 864 = .ok (.iconst 0, 1) := by decide +kernel
theorem dl_865 : decode code 865 = .ok (.ireturn, 1) := by decide +kernel
theorem dl_866 : decode code 866 = .ok (.aload_n 1, 1) := by decide +kernel
theorem dl_867 : decode code 867 = .ok (.aload_n 0, 1) := by decide +kernel
theorem dl_868 : decode code 868 = .ok (.iload_n 3, 1) := by decide +kernel
theorem dl_869 : decode code 869 = .ok (.iconst 1, 1) := by decide +kernel
theorem dl_870 : decode code 870 = .ok (.iadd, 1) := by decide +kernel
theorem dl_871 : decode code 871 = .ok (.iaload, 1) := by decide +kernel
theorem dl_872 : decode code 872 = .ok (.aload_n 0, 1) := by decide +kernel
theorem dl_873 : decode code 873 = .ok (.iload_n 3, 1) := by decide +kernel
theorem dl_874 : decode code 874 = .ok (.iconst 2, 1) := by decide +kernel
theorem dl_875 : decode code 875 = .ok (.iadd, 1) := by decide +kernel
theorem dl_876 : decode code 876 = .ok (.iaload, 1) := by decide +kernel
theorem dl_877 : decode code 877 = .ok (.invokevirtual 91, 3) := by decide +kernel
theorem dl_880 : decode code 880 = .ok (.aload_n 2, 1) := by decide +kernel
theorem dl_881 : decode code 881 = .ok (.aload_n 0, 1) := by decide +kernel
theorem dl_882 : decode code 882 = .ok (.iload_n 3, 1) := by decide +kernel
theorem dl_883 : decode code 883 = .ok (.iconst 1, 1) := by decide +kernel
theorem dl_884 : decode code 884 = .ok (.iadd, 1) := by decide +kernel
theorem dl_885 : decode code 885 = .ok (.iaload, 1) := by decide +kernel
theorem dl_886 : decode code 886 = .ok (.aload_n 0, 1) := by decide +kernel
theorem dl_887 : decode code 887 = .ok (.iload_n 3, 1) := by decide +kernel
theorem dl_888 : decode code 888 = .ok (.iconst 2, 1) := by decide +kernel
theorem dl_889 : decode code 889 = .ok (.iadd, 1) := by decide +kernel
theorem dl_890 : decode code 890 = .ok (.iaload, 1) := by decide +kernel
theorem dl_891 : decode code 891 = .ok (.invokevirtual 94, 3) := by decide +kernel
theorem dl_894 : decode code 894 = .ok (.lcmp, 1) := by decide +kernel
theorem dl_895 : decode code 895 = .ok (.ifCond .eq 653, 3) := by decide +kernel
theorem dl_898 : decode code 898 = .ok (.iconst 0, 1) := by decide +kernel
theorem dl_899 : decode code 899 = .ok (.ireturn, 1) := by decide +kernel
theorem dl_900 : decode code 900 = .ok (.aload_n 1, 1) := by decide +kernel
theorem dl_901 : decode code 901 = .ok (.aload_n 0, 1) := by decide +kernel
theorem dl_902 : decode code 902 = .ok (.iload_n 3, 1) := by decide +kernel
theorem dl_903 : decode code 903 = .ok (.iconst 1, 1) := by decide +kernel
theorem dl_904 : decode code 904 = .ok (.iadd, 1) := by decide +kernel
theorem dl_905 : decode code 905 = .ok (.iaload, 1) := by decide +kernel
theorem dl_906 : decode code 906 = .ok (.aload_n 0, 1) := by decide +kernel
theorem dl_907 : decode code 907 = .ok (.iload_n 3, 1) := by decide +kernel
theorem dl_908 : decode code 908 = .ok (.iconst 2, 1) := by decide +kernel
theorem dl_909 : decode code 909 = .ok (.iadd, 1) := by decide +kernel
theorem dl_910 : decode code 910 = .ok (.iaload, 1) := by decide +kernel
theorem dl_911 : decode code 911 = .ok (.aload_n 0, 1) := by decide +kernel
theorem dl_912 : decode code 912 = .ok (.iload_n 3, 1) := by decide +kernel
theorem dl_913 : decode code 913 = .ok (.iconst 3, 1) := by decide +kernel
theorem dl_914 : decode code 914 = .ok (.iadd, 1) := by decide +kernel
theorem dl_915 : decode code 915 = .ok (.iaload, 1) := by decide +kernel
theorem dl_916 : decode code 916 = .ok (.invokevirtual 95, 3) := by decide +kernel
theorem dl_919 : decode code 919 = .ok (.aload_n 2, 1) := by decide +kernel
theorem dl_920 : decode code 920 = .ok (.aload_n 0, 1) := by decide +kernel
theorem dl_921 : decode code 921 = .ok (.iload_n 3, 1) := by decide +kernel
theorem dl_922 : decode code 922 = .ok (.iconst 1, 1) := by decide +kernel
theorem dl_923 : decode code 923 = .ok (.iadd, 1) := by decide +kernel
theorem dl_924 : decode code 924 = .ok (.iaload, 1) := by decide +kernel
theorem dl_925 : decode code 925 = .ok (.aload_n 0, 1) := by decide +kernel
theorem dl_926 : decode code 926 = .ok (.iload_n 3, 1) := by decide +kernel
theorem dl_927 : decode code 927 = .ok (.iconst 2, 1) := by decide +kernel
theorem dl_928 : decode code 928 = .ok (.iadd, 1) := by decide +kernel
theorem dl_929 : decode code 929 = .ok (.iaload, 1) := by decide +kernel
theorem dl_930 : decode code 930 = .ok (.aload_n 0, 1) := by decide +kernel
theorem dl_931 : decode code 931 = .ok (.iload_n 3, 1) := by decide +kernel
theorem dl_932 : decode code 932 = .ok (.iconst 3, 1) := by decide +kernel
theorem dl_933 : decode code 933 = .ok (.iadd, 1) := by decide +kernel
theorem dl_934 : decode code 934 = .ok (.iaload, 1) := by decide +kernel
theorem dl_935 : decode code 935 = .ok (.invokevirtual 98, 3) := by decide +kernel
theorem dl_938 : decode code 938 = .ok (.lcmp, 1) := by decide +kernel
theorem dl_939 : decode code 939 = .ok (.ifCond .eq 609, 3) := by decide +kernel
theorem dl_942 : decode code 942 = .ok (.iconst 0, 1) := by decide +kernel
theorem dl_943 : decode code 943 = .ok (.ireturn, 1) := by decide +kernel
theorem dl_944 : decode code 944 = .ok (.aload_n 1, 1) := by decide +kernel
theorem dl_945 : decode code 945 = .ok (.aload_n 0, 1) := by decide +kernel
theorem dl_946 : decode code 946 = .ok (.iload_n 3, 1) := by decide +kernel
theorem dl_947 : decode code 947 = .ok (.iconst 1, 1) := by decide +kernel
theorem dl_948 : decode code 948 = .ok (.iadd, 1) := by decide +kernel
theorem dl_949 : decode code 949 = .ok (.iaload, 1) := by decide +kernel
theorem dl_950 : decode code 950 = .ok (.aload_n 0, 1) := by decide +kernel
theorem dl_951 : decode code 951 = .ok (.iload_n 3, 1) := by decide +kernel
theorem dl_952 : decode code 952 = .ok (.iconst 2, 1) := by decide +kernel
theorem dl_953 : decode code 953 = .ok (.iadd, 1) := by decide +kernel
theorem dl_954 : decode code 954 = .ok (.iaload, 1) := by decide +kernel
theorem dl_955 : decode code 955 = .ok (.invokevirtual 99, 3) := by decide +kernel
theorem dl_958 : decode code 958 = .ok (.aload_n 2, 1) := by decide +kernel
theorem dl_959 : decode code 959 = .ok (.aload_n 0, 1) := by decide +kernel
theorem dl_960 : decode code 960 = .ok (.iload_n 3, 1) := by decide +kernel
theorem dl_961 : decode code 961 = .ok (.iconst 1, 1) := by decide +kernel
theorem dl_962 : decode code 962 = .ok (.iadd, 1) := by decide +kernel
theorem dl_963 : decode code 963 = .ok (.iaload, 1) := by decide +kernel
theorem dl_964 : decode code 964 = .ok (.aload_n 0, 1) := by decide +kernel
theorem dl_965 : decode code 965 = .ok (.iload_n 3, 1) := by decide +kernel
theorem dl_966 : decode code 966 = .ok (.iconst 2, 1) := by decide +kernel
theorem dl_967 : decode code 967 = .ok (.iadd, 1) := by decide +kernel
theorem dl_968 : decode code 968 = .ok (.iaload, 1) := by decide +kernel
theorem dl_969 : decode code 969 = .ok (.invokevirtual 102, 3) := by decide +kernel
theorem dl_972 : decode code 972 = .ok (.lcmp, 1) := by decide +kernel
theorem dl_973 : decode code 973 = .ok (.ifCond .eq 575, 3) := by decide +kernel
theorem dl_976 : decode code 976 = .ok (.iconst 0, 1) := by decide +kernel
theorem dl_977 : decode code 977 = .ok (.ireturn, 1) := by decide +kernel
theorem dl_978 : decode code 978 = .ok (.aload_n 1, 1) := by decide +kernel
theorem dl_979 : decode code 979 = .ok (.aload_n 0, 1) := by decide +kernel
theorem dl_980 : decode code 980 = .ok (.iload_n 3, 1) := by decide +kernel
theorem dl_981 : decode code 981 = .ok (.iconst 1, 1) := by decide +kernel
theorem dl_982 : decode code 982 = .ok (.iadd, 1) := by decide +kernel
theorem dl_983 : decode code 983 = .ok (.iaload, 1) := by decide +kernel
theorem dl_984 : decode code 984 = .ok (.invokevirtual 103, 3) := by decide +kernel
theorem dl_987 : decode code 987 = .ok (.aload_n 2, 1) := by decide +kernel
theorem dl_988 : decode code 988 = .ok (.aload_n 0, 1) := by decide +kernel
theorem dl_989 : decode code 989 = .ok (.iload_n 3, 1) := by decide +kernel
theorem dl_990 : decode code 990 = .ok (.iconst 1, 1) := by decide +kernel
theorem dl_991 : decode code 991 = .ok (.iadd, 1) := by decide +kernel
theorem dl_992 : decode code 992 = .ok (.iaload, 1) := by decide +kernel
theorem dl_993 : decode code 993 = .ok (.invokevirtual 106, 3) := by decide +kernel
theorem dl_996 : decode code 996 = .ok (.if_icmp .eq 552, 3) := by decide +kernel
theorem dl_999 : decode code 999 = .ok (.iconst 0, 1) := by decide +kernel
theorem dl_1000 : decode code 1000 = .ok (.ireturn, 1) := by decide +kernel
theorem dl_1001 : decode code 1001 = .ok (.aload_n 1, 1) := by decide +kernel
theorem dl_1002 : decode code 1002 = .ok (.aload_n 0, 1) := by decide +kernel
theorem dl_1003 : decode code 1003 = .ok (.iload_n 3, 1) := by decide +kernel
theorem dl_1004 : decode code 1004 = .ok (.iconst 1, 1) := by decide +kernel
theorem dl_1005 : decode code 1005 = .ok (.iadd, 1) := by decide +kernel
theorem dl_1006 : decode code 1006 = .ok (.iaload, 1) := by decide +kernel
theorem dl_1007 : decode code 1007 = .ok (.aload_n 0, 1) := by decide +kernel
theorem dl_1008 : decode code 1008 = .ok (.iload_n 3, 1) := by decide +kernel
theorem dl_1009 : decode code 1009 = .ok (.iconst 2, 1) := by decide +kernel
theorem dl_1010 : decode code 1010 = .ok (.iadd, 1) := by decide +kernel
theorem dl_1011 : decode code 1011 = .ok (.iaload, 1) := by decide +kernel
theorem dl_1012 : decode code 1012 = .ok (.invokevirtual 107, 3) := by decide +kernel
theorem dl_1015 : decode code 1015 = .ok (.aload_n 2, 1) := by decide +kernel
theorem dl_1016 : decode code 1016 = .ok (.aload_n 0, 1) := by decide +kernel
theorem dl_1017 : decode code 1017 = .ok (.iload_n 3, 1) := by decide +kernel
theorem dl_1018 : decode code 1018 = .ok (.iconst 1, 1) := by decide +kernel
theorem dl_1019 : decode code 1019 = .ok (.iadd, 1) := by decide +kernel
theorem dl_1020 : decode code 1020 = .ok (.iaload, 1) := by decide +kernel
theorem dl_1021 : decode code 1021 = .ok (.aload_n 0, 1) := by decide +kernel
theorem dl_1022 : decode code 1022 = .ok (.iload_n 3, 1) := by decide +kernel
theorem dl_1023 : decode code 1023 = .ok (.iconst 2, 1) := by decide +kernel
theorem dl_1024 : decode code 1024 = .ok (.iadd, 1) := by decide +kernel
theorem dl_1025 : decode code 1025 = .ok (.iaload, 1) := by decide +kernel
theorem dl_1026 : decode code 1026 = .ok (.invokevirtual 110, 3) := by decide +kernel
theorem dl_1029 : decode code 1029 = .ok (.lcmp, 1) := by decide +kernel
theorem dl_1030 : decode code 1030 = .ok (.ifCond .eq 518, 3) := by decide +kernel
theorem dl_1033 : decode code 1033 = .ok (.iconst 0, 1) := by decide +kernel
theorem dl_1034 : decode code 1034 = .ok (.ireturn, 1) := by decide +kernel
theorem dl_1035 : decode code 1035 = .ok (.aload_n 1, 1) := by decide +kernel
theorem dl_1036 : decode code 1036 = .ok (.aload_n 0, 1) := by decide +kernel
theorem dl_1037 : decode code 1037 = .ok (.iload_n 3, 1) := by decide +kernel
theorem dl_1038 : decode code 1038 = .ok (.iconst 1, 1) := by decide +kernel
theorem dl_1039 : decode code 1039 = .ok (.iadd, 1) := by decide +kernel
theorem dl_1040 : decode code 1040 = .ok (.iaload, 1) := by decide +kernel
theorem dl_1041 : decode code 1041 = .ok (.invokevirtual 111, 3) := by decide +kernel
theorem dl_1044 : decode code 1044 = .ok (.aload_n 2, 1) := by decide +kernel
theorem dl_1045 : decode code 1045 = .ok (.aload_n 0, 1) := by decide +kernel
theorem dl_1046 : decode code 1046 = .ok (.iload_n 3, 1) := by decide +kernel
theorem dl_1047 : decode code 1047 = .ok (.iconst 1, 1) := by decide +kernel
theorem dl_1048 : decode code 1048 = .ok (.iadd, 1) := by decide +kernel
theorem dl_1049 : decode code 1049 = .ok (.iaload, 1) := by decide +kernel
theorem dl_1050 : decode code 1050 = .ok (.invokevirtual 114, 3) := by decide +kernel
theorem dl_1053 : decode code 1053 = .ok (.if_icmp .eq 495, 3) := by decide +kernel
theorem dl_1056 : decode code 1056 = .ok (.iconst 0, 1) := by decide +kernel
theorem dl_1057 : decode code 1057 = .ok (.ireturn, 1) := by decide +kernel
theorem dl_1058 : decode code 1058 = .ok (.aload_n 1, 1) := by decide +kernel
theorem dl_1059 : decode code 1059 = .ok (.aload_n 0, 1) := by decide +kernel
theorem dl_1060 : decode code 1060 = .ok (.iload_n 3, 1) := by decide +kernel
theorem dl_1061 : decode code 1061 = .ok (.iconst 1, 1) := by decide +kernel
theorem dl_1062 : decode code 1062 = .ok (.iadd, 1) := by decide +kernel
theorem dl_1063 : decode code 1063 = .ok (.iaload, 1) := by decide +kernel
theorem dl_1064 : decode code 1064 = .ok (.aload_n 0, 1) := by decide +kernel
theorem dl_1065 : decode code 1065 = .ok (.iload_n 3, 1) := by decide +kernel
theorem dl_1066 : decode code 1066 = .ok (.iconst 2, 1) := by decide +kernel
theorem dl_1067 : decode code 1067 = .ok (.iadd, 1) := by decide +kernel
theorem dl_1068 : decode code 1068 = .ok (.iaload, 1) := by decide +kernel
theorem dl_1069 : decode code 1069 = .ok (.invokevirtual 115, 3) := by decide +kernel
theorem dl_1072 : decode code 1072 = .ok (.aload_n 2, 1) := by decide +kernel
theorem dl_1073 : decode code 1073 = .ok (.aload_n 0, 1) := by decide +kernel
theorem dl_1074 : decode code 1074 = .ok (.iload_n 3, 1) := by decide +kernel
theorem dl_1075 : decode code 1075 = .ok (.iconst 1, 1) := by decide +kernel
theorem dl_1076 : decode code 1076 = .ok (.iadd, 1) := by decide +kernel
theorem dl_1077 : decode code 1077 = .ok (.iaload, 1) := by decide +kernel
theorem dl_1078 : decode code 1078 = .ok (.aload_n 0, 1) := by decide +kernel
theorem dl_1079 : decode code 1079 = .ok (.iload_n 3, 1) := by decide +kernel
theorem dl_1080 : decode code 1080 = .ok (.iconst 2, 1) := by decide +kernel
theorem dl_1081 : decode code 1081 = .ok (.iadd, 1) := by decide +kernel
theorem dl_1082 : decode code 1082 = .ok (.iaload, 1) := by decide +kernel
theorem dl_1083 : decode code 1083 = .ok (.invokevirtual 118, 3) := by decide +kernel
theorem dl_1086 : decode code 1086 = .ok (.if_icmp .eq 462, 3) := by decide +kernel
theorem dl_1089 : decode code 1089 = .ok (.iconst 0, 1) := by decide +kernel
theorem dl_1090 : decode code 1090 = .ok (.ireturn, 1) := by decide +kernel
theorem dl_1091 : decode code 1091 = .ok (.aload_n 1, 1) := by decide +kernel
theorem dl_1092 : decode code 1092 = .ok (.aload_n 0, 1) := by decide +kernel
theorem dl_1093 : decode code 1093 = .ok (.iload_n 3, 1) := by decide +kernel
theorem dl_1094 : decode code 1094 = .ok (.iconst 1, 1) := by decide +kernel
theorem dl_1095 : decode code 1095 = .ok (.iadd, 1) := by decide +kernel
theorem dl_1096 : decode code 1096 = .ok (.iaload, 1) := by decide +kernel
theorem dl_1097 : decode code 1097 = .ok (.invokevirtual 119, 3) := by decide +kernel
theorem dl_1100 : decode code 1100 = .ok (.aload_n 2, 1) := by decide +kernel
theorem dl_1101 : decode code 1101 = .ok (.aload_n 0, 1) := by decide +kernel
theorem dl_1102 : decode code 1102 = .ok (.iload_n 3, 1) := by decide +kernel
theorem dl_1103 : decode code 1103 = .ok (.iconst 1, 1) := by decide +kernel
theorem dl_1104 : decode code 1104 = .ok (.iadd, 1) := by decide +kernel
theorem dl_1105 : decode code 1105 = .ok (.iaload, 1) := by decide +kernel
theorem dl_1106 : decode code 1106 = .ok (.invokevirtual 122, 3) := by decide +kernel
theorem dl_1109 : decode code 1109 = .ok (.if_icmp .eq 439, 3) := by decide +kernel
theorem dl_1112 : decode code 1112 = .ok (.iconst 0, 1) := by decide +kernel
theorem dl_1113 : decode code 1113 = .ok (.ireturn, 1) := by decide +kernel
theorem dl_1114 : decode code 1114 = .ok (.aload_n 1, 1) := by decide +kernel
theorem dl_1115 : decode code 1115 = .ok (.aload_n 0, 1) := by decide +kernel
theorem dl_1116 : decode code 1116 = .ok (.iload_n 3, 1) := by decide +kernel
theorem dl_1117 : decode code 1117 = .ok (.iconst 1, 1) := by decide +kernel
theorem dl_1118 : decode code 1118 = .ok (.iadd, 1) := by decide +kernel
theorem dl_1119 : decode code 1119 = .ok (.iaload, 1) := by decide +kernel
theorem dl_1120 : decode code 1120 = .ok (.aload_n 0, 1) := by decide +kernel
theorem dl_1121 : decode code 1121 = .ok (.iload_n 3, 1) := by decide +kernel
theorem dl_1122 : decode code 1122 = .ok (.iconst 2, 1) := by decide +kernel
theorem dl_1123 : decode code 1123 = .ok (.iadd, 1) := by decide +kernel
theorem dl_1124 : decode code 1124 = .ok (.iaload, 1) := by decide +kernel
theorem dl_1125 : decode code 1125 = .ok (.invokevirtual 123, 3) := by decide +kernel
theorem dl_1128 : decode code 1128 = .ok (.aload_n 2, 1) := by decide +kernel
theorem dl_1129 : decode code 1129 = .ok (.aload_n 0, 1) := by decide +kernel
theorem dl_1130 : decode code 1130 = .ok (.iload_n 3, 1) := by decide +kernel
theorem dl_1131 : decode code 1131 = .ok (.iconst 1, 1) := by decide +kernel
theorem dl_1132 : decode code 1132 = .ok (.iadd, 1) := by decide +kernel
theorem dl_1133 : decode code 1133 = .ok (.iaload, 1) := by decide +kernel
theorem dl_1134 : decode code 1134 = .ok (.aload_n 0, 1) := by decide +kernel
theorem dl_1135 : decode code 1135 = .ok (.iload_n 3, 1) := by decide +kernel
theorem dl_1136 : decode code 1136 = .ok (.iconst 2, 1) := by decide +kernel
theorem dl_1137 : decode code 1137 = .ok (.iadd, 1) := by decide +kernel
theorem dl_1138 : decode code 1138 = .ok (.iaload, 1) := by decide +kernel
theorem dl_1139 : decode code 1139 = .ok (.invokevirtual 126, 3) := by decide +kernel
theorem dl_1142 : decode code 1142 = .ok (.if_icmp .eq 406, 3) := by decide +kernel
theorem dl_1145 : decode code 1145 = .ok (.iconst 0, 1) := by decide +kernel
theorem dl_1146 : decode code 1146 = .ok (.ireturn, 1) := by decide +kernel
theorem dl_1147 : decode code 1147 = .ok (.aload_n 1, 1) := by decide +kernel
theorem dl_1148 : decode code 1148 = .ok (.invokevirtual 127, 3) := by decide +kernel
theorem dl_1151 : decode code 1151 = .ok (.aload_n 2, 1) := by decide +kernel
theorem dl_1152 : decode code 1152 = .ok (.invokevirtual 131, 3) := by decide +kernel
theorem dl_1155 : decode code 1155 = .ok (.if_icmp .eq 393, 3) := by decide +kernel
theorem dl_1158 : decode code 1158 = .ok (.iconst 0, 1) := by decide +kernel
theorem dl_1159 : decode code 1159 = .ok (.ireturn, 1) := by decide +kernel
theorem dl_1160 : decode code 1160 = .ok (.aload_n 1, 1) := by decide +kernel
theorem dl_1161 : decode code 1161 = .ok (.aload_n 0, 1) := by decide +kernel
theorem dl_1162 : decode code 1162 = .ok (.iload_n 3, 1) := by decide +kernel
theorem dl_1163 : decode code 1163 = .ok (.iconst 1, 1) := by decide +kernel
theorem dl_1164 : decode code 1164 = .ok (.iadd, 1) := by decide +kernel
theorem dl_1165 : decode code 1165 = .ok (.iaload, 1) := by decide +kernel
theorem dl_1166 : decode code 1166 = .ok (.invokevirtual 132, 3) := by decide +kernel
theorem dl_1169 : decode code 1169 = .ok (.aload_n 2, 1) := by decide +kernel
theorem dl_1170 : decode code 1170 = .ok (.aload_n 0, 1) := by decide +kernel
theorem dl_1171 : decode code 1171 = .ok (.iload_n 3, 1) := by decide +kernel
theorem dl_1172 : decode code 1172 = .ok (.iconst 1, 1) := by decide +kernel
theorem dl_1173 : decode code 1173 = .ok (.iadd, 1) := by decide +kernel
theorem dl_1174 : decode code 1174 = .ok (.iaload, 1) := by decide +kernel
theorem dl_1175 : decode code 1175 = .ok (.invokevirtual 135, 3) := by decide +kernel
theorem dl_1178 : decode code 1178 = .ok (.if_icmp .eq 370, 3) := by decide +kernel
theorem dl_1181 : decode code 1181 = .ok (.iconst 0, 1) := by decide +kernel
theorem dl_1182 : decode code 1182 = .ok (.ireturn, 1) := by decide +kernel
theorem dl_1183 : decode code 1183 = .ok (.aload_n 1, 1) := by decide +kernel
theorem dl_1184 : decode code 1184 = .ok (.aload_n 0, 1) := by decide +kernel
theorem dl_1185 : decode code 1185 = .ok (.iload_n 3, 1) := by decide +kernel
theorem dl_1186 : decode code 1186 = .ok (.iconst 1, 1) := by decide +kernel
theorem dl_1187 : decode code 1187 = .ok (.iadd, 1) := by decide +kernel
theorem dl_1188 : decode code 1188 = .ok (.iaload, 1) := by decide +kernel
theorem dl_1189 : decode code 1189 = .ok (.invokevirtual 136, 3) := by decide +kernel
theorem dl_1192 : decode code 1192 = .ok (.aload_n 2, 1) := by decide +kernel
theorem dl_1193 : decode code 1193 = .ok (.aload_n 0, 1) := by decide +kernel
theorem dl_1194 : decode code 1194 = .ok (.iload_n 3, 1) := by decide +kernel
theorem dl_1195 : decode code 1195 = .ok (.iconst 1, 1) := by decide +kernel
theorem dl_1196 : decode code 1196 = .ok (.iadd, 1) := by decide +kernel
theorem dl_1197 : decode code 1197 = .ok (.iaload, 1) := by decide +kernel
theorem dl_1198 : decode code 1198 = .ok (.invokevirtual 139, 3) := by decide +kernel
theorem dl_1201 : decode code 1201 = .ok (.if_icmp .eq 347, 3) := by decide +kernel
theorem dl_1204 : decode code 1204 = .ok (.iconst 0, 1) := by decide +kernel
theorem dl_1205 : decode code 1205 = .ok (.ireturn, 1) := by decide +kernel
theorem dl_1206 : decode code 1206 = .ok (.aload_n 1, 1) := by decide +kernel
theorem dl_1207 : decode code 1207 = .ok (.aload_n 0, 1) := by decide +kernel
theorem dl_1208 : decode code 1208 = .ok (.iload_n 3, 1) := by decide +kernel
theorem dl_1209 : decode code 1209 = .ok (.iconst 1, 1) := by decide +kernel
theorem dl_1210 : decode code 1210 = .ok (.iadd, 1) := by decide +kernel
theorem dl_1211 : decode code 1211 = .ok (.iaload, 1) := by decide +kernel
theorem dl_1212 : decode code 1212 = .ok (.invokevirtual 140, 3) := by decide +kernel
theorem dl_1215 : decode code 1215 = .ok (.aload_n 2, 1) := by decide +kernel
theorem dl_1216 : decode code 1216 = .ok (.aload_n 0, 1) := by decide +kernel
theorem dl_1217 : decode code 1217 = .ok (.iload_n 3, 1) := by decide +kernel
theorem dl_1218 : decode code 1218 = .ok (.iconst 1, 1) := by decide +kernel
theorem dl_1219 : decode code 1219 = .ok (.iadd, 1) := by decide +kernel
theorem dl_1220 : decode code 1220 = .ok (.iaload, 1) := by decide +kernel
theorem dl_1221 : decode code 1221 = .ok (.invokevirtual 143, 3) := by decide +kernel
theorem dl_1224 : decode code 1224 = .ok (.if_icmp .eq 324, 3) := by decide +kernel
theorem dl_1227 : decode code 1227 = .ok (.iconst 0, 1) := by decide +kernel
theorem dl_1228 : decode code 1228 = .ok (.ireturn, 1) := by decide +kernel
theorem dl_1229 : decode code 1229 = .ok (.aload_n 1, 1) := by decide +kernel
theorem dl_1230 : decode code 1230 = .ok (.aload_n 0, 1) := by decide +kernel
theorem dl_1231 : decode code 1231 = .ok (.iload_n 3, 1) := by decide +kernel
theorem dl_1232 : decode code 1232 = .ok (.iconst 1, 1) := by decide +kernel
theorem dl_1233 : decode code 1233 = .ok (.iadd, 1) := by decide +kernel
theorem dl_1234 : decode code 1234 = .ok (.iaload, 1) := by decide +kernel
theorem dl_1235 : decode code 1235 = .ok (.invokevirtual 144, 3) := by decide +kernel
theorem dl_1238 : decode code 1238 = .ok (.aload_n 2, 1) := by decide +kernel
theorem dl_1239 : decode code 1239 = .ok (.aload_n 0, 1) := by decide +kernel
theorem dl_1240 : decode code 1240 = .ok (.iload_n 3, 1) := by decide +kernel
theorem dl_1241 : decode code 1241 = .ok (.iconst 1, 1) := by decide +kernel
theorem dl_1242 : decode code 1242 = .ok (.iadd, 1) := by decide +kernel
theorem dl_1243 : decode code 1243 = .ok (.iaload, 1) := by decide +kernel
theorem dl_1244 : decode code 1244 = .ok (.invokevirtual 148, 3) := by decide +kernel
theorem dl_1247 : decode code 1247 = .ok (.lcmp, 1) := by decide +kernel
theorem dl_1248 : decode code 1248 = .ok (.ifCond .eq 300, 3) := by decide +kernel
theorem dl_1251 : decode code 1251 = .ok (.iconst 0, 1) := by decide +kernel
theorem dl_1252 : decode code 1252 = .ok (.ireturn, 1) := by decide +kernel
theorem dl_1253 : decode code 1253 = .ok (.aload_n 1, 1) := by decide +kernel
theorem dl_1254 : decode code 1254 = .ok (.aload_n 0, 1) := by decide +kernel
theorem dl_1255 : decode code 1255 = .ok (.iload_n 3, 1) := by decide +kernel
theorem dl_1256 : decode code 1256 = .ok (.iconst 1, 1) := by decide +kernel
theorem dl_1257 : decode code 1257 = .ok (.iadd, 1) := by decide +kernel
theorem dl_1258 : decode code 1258 = .ok (.iaload, 1) := by decide +kernel
theorem dl_1259 : decode code 1259 = .ok (.aload_n 0, 1) := by decide +kernel
theorem dl_1260 : decode code 1260 = .ok (.iload_n 3, 1) := by decide +kernel
theorem dl_1261 : decode code 1261 = .ok (.iconst 2, 1) := by decide +kernel
theorem dl_1262 : decode code 1262 = .ok (.iadd, 1) := by decide +kernel
theorem dl_1263 : decode code 1263 = .ok (.iaload, 1) := by decide +kernel
theorem dl_1264 : decode code 1264 = .ok (.aload_n 0, 1) := by decide +kernel
theorem dl_1265 : decode code 1265 = .ok (.iload_n 3, 1) := by decide +kernel
theorem dl_1266 : decode code 1266 = .ok (.iconst 3, 1) := by decide +kernel
theorem dl_1267 : decode code 1267 = .ok (.iadd, 1) := by decide +kernel
theorem dl_1268 : decode code 1268 = .ok (.iaload, 1) := by decide +kernel
theorem dl_1269 : decode code 1269 = .ok (.invokevirtual 149, 3) := by decide +kernel
theorem dl_1272 : decode code 1272 = .ok (.aload_n 2, 1) := by decide +kernel
theorem dl_1273 : decode code 1273 = .ok (.aload_n 0, 1) := by decide +kernel
theorem dl_1274 : decode code 1274 = .ok (.iload_n 3, 1) := by decide +kernel
theorem dl_1275 : decode code 1275 = .ok (.iconst 1, 1) := by decide +kernel
theorem dl_1276 : decode code 1276 = .ok (.iadd, 1) := by decide +kernel
theorem dl_1277 : decode code 1277 = .ok (.iaload, 1) := by decide +kernel
theorem dl_1278 : decode code 1278 = .ok (.aload_n 0, 1) := by decide +kernel
theorem dl_1279 : decode code 1279 = .ok (.iload_n 3, 1) := by decide +kernel
theorem dl_1280 : decode code 1280 = .ok (.iconst 2, 1) := by decide +kernel
theorem dl_1281 : decode code 1281 = .ok (.iadd, 1) := by decide +kernel
theorem dl_1282 : decode code 1282 = .ok (.iaload, 1) := by decide +kernel
theorem dl_1283 : decode code 1283 = .ok (.aload_n 0, 1) := by decide +kernel
theorem dl_1284 : decode code 1284 = .ok (.iload_n 3, 1) := by decide +kernel
theorem dl_1285 : decode code 1285 = .ok (.iconst 3, 1) := by decide +kernel
theorem dl_1286 : decode code 1286 = .ok (.iadd, 1) := by decide +kernel
theorem dl_1287 : decode code 1287 = .ok (.iaload, 1) := by decide +kernel
theorem dl_1288 : decode code 1288 = .ok (.invokevirtual 153, 3) := by decide +kernel
theorem dl_1291 : decode code 1291 = .ok (.if_icmp .eq 257, 3) := by decide +kernel
theorem dl_1294 : decode code 1294 = .ok (.iconst 0, 1) := by decide +kernel
theorem dl_1295 : decode code 1295 = .ok (.ireturn, 1) := by decide +kernel
theorem dl_1296 : decode code 1296 = .ok (.aload_n 1, 1) := by decide +kernel
theorem dl_1297 : decode code 1297 = .ok (.aload_n 0, 1) := by decide +kernel
theorem dl_1298 : decode code 1298 = .ok (.iload_n 3, 1) := by decide +kernel
theorem dl_1299 : decode code 1299 = .ok (.iconst 1, 1) := by decide +kernel
theorem dl_1300 : decode code 1300 = .ok (.iadd, 1) := by decide +kernel
theorem dl_1301 : decode code 1301 = .ok (.iaload, 1) := by decide +kernel
theorem dl_1302 : decode code 1302 = .ok (.invokevirtual 154, 3) := by decide +kernel
theorem dl_1305 : decode code 1305 = .ok (.aload_n 2, 1) := by decide +kernel
theorem dl_1306 : decode code 1306 = .ok (.aload_n 0, 1) := by decide +kernel
theorem dl_1307 : decode code 1307 = .ok (.iload_n 3, 1) := by decide +kernel
theorem dl_1308 : decode code 1308 = .ok (.iconst 1, 1) := by decide +kernel
theorem dl_1309 : decode code 1309 = .ok (.iadd, 1) := by decide +kernel
theorem dl_1310 : decode code 1310 = .ok (.iaload, 1) := by decide +kernel
theorem dl_1311 : decode code 1311 = .ok (.invokevirtual 157, 3) := by decide +kernel
theorem dl_1314 : decode code 1314 = .ok (.if_icmp .eq 234, 3) := by decide +kernel
theorem dl_1317 : decode code 1317 = .ok (.iconst 0, 1) := by decide +kernel
theorem dl_1318 : decode code 1318 = .ok (.ireturn, 1) := by decide +kernel
theorem dl_1319 : decode code 1319 = .ok (.aload_n 1, 1) := by decide +kernel
theorem dl_1320 : decode code 1320 = .ok (.aload_n 0, 1) := by decide +kernel
theorem dl_1321 : decode code 1321 = .ok (.iload_n 3, 1) := by decide +kernel
theorem dl_1322 : decode code 1322 = .ok (.iconst 1, 1) := by decide +kernel
theorem dl_1323 : decode code 1323 = .ok (.iadd, 1) := by decide +kernel
theorem dl_1324 : decode code 1324 = .ok (.iaload, 1) := by decide +kernel
theorem dl_1325 : decode code 1325 = .ok (.aload_n 0, 1) := by decide +kernel
theorem dl_1326 : decode code 1326 = .ok (.iload_n 3, 1) := by decide +kernel
theorem dl_1327 : decode code 1327 = .ok (.iconst 2, 1) := by decide +kernel
theorem dl_1328 : decode code 1328 = .ok (.iadd, 1) := by decide +kernel
theorem dl_1329 : decode code 1329 = .ok (.iaload, 1) := by decide +kernel
theorem dl_1330 : decode code 1330 = .ok (.aload_n 0, 1) := by decide +kernel
theorem dl_1331 : decode code 1331 = .ok (.iload_n 3, 1) := by decide +kernel
theorem dl_1332 : decode code 1332 = .ok (.iconst 3, 1) := by decide +kernel
theorem dl_1333 : decode code 1333 = .ok (.iadd, 1) := by decide +kernel
theorem dl_1334 : decode code 1334 = .ok (.iaload, 1) := by decide +kernel
theorem dl_1335 : decode code 1335 = .ok (.aload_n 0, 1) := by decide +kernel
theorem dl_1336 : decode code 1336 = .ok (.iload_n 3, 1) := by decide +kernel
theorem dl_1337 : decode code 1337 = .ok (.iconst 4, 1) := by decide +kernel
theorem dl_1338 : decode code 1338 = .ok (.iadd, 1) := by decide +kernel
theorem dl_1339 : decode code 1339 = .ok (.iaload, 1) := by decide +kernel
theorem dl_1340 : decode code 1340 = .ok (.invokevirtual 158, 3) := by decide +kernel
theorem dl_1343 : decode code 1343 = .ok (.aload_n 2, 1) := by decide +kernel
theorem dl_1344 : decode code 1344 = .ok (.aload_n 0, 1) := by decide +kernel
theorem dl_1345 : decode code 1345 = .ok (.iload_n 3, 1) := by decide +kernel
theorem dl_1346 : decode code 1346 = .ok (.iconst 1, 1) := by decide +kernel
theorem dl_1347 : decode code 1347 = .ok (.iadd, 1) := by decide +kernel
theorem dl_1348 : decode code 1348 = .ok (.iaload, 1) := by decide +kernel
theorem dl_1349 : decode code 1349 = .ok (.aload_n 0, 1) := by decide +kernel
theorem dl_1350 : decode code 1350 = .ok (.iload_n 3, 1) := by decide +kernel
theorem dl_1351 : decode code 1351 = .ok (.iconst 2, 1) := by decide +kernel
theorem dl_1352 : decode code 1352 = .ok (.iadd, 1) := by decide +kernel
theorem dl_1353 : decode code 1353 = .ok (.iaload, 1) := by decide +kernel
theorem dl_1354 : decode code 1354 = .ok (.aload_n 0, 1) := by decide +kernel
theorem dl_1355 : decode code 1355 = .ok (.iload_n 3, 1) := by decide +kernel
theorem dl_1356 : decode code 1356 = .ok (.iconst 3, 1) := by decide +kernel
theorem dl_1357 : decode code 1357 = .ok (.iadd, 1) := by decide +kernel
theorem dl_1358 : decode code 1358 = .ok (.iaload, 1) := by decide +kernel
theorem dl_1359 : decode code 1359 = .ok (.aload_n 0, 1) := by decide +kernel
theorem dl_1360 : decode code 1360 = .ok (.iload_n 3, 1) := by decide +kernel
theorem dl_1361 : decode code 1361 = .ok (.iconst 4, 1) := by decide +kernel
theorem dl_1362 : decode code 1362 = .ok (.iadd, 1) := by decide +kernel
theorem dl_1363 : decode code 1363 = .ok (.iaload, 1) := by decide +kernel
theorem dl_1364 : decode code 1364 = .ok (.invokevirtual 161, 3) := by decide +kernel
theorem dl_1367 : decode code 1367 = .ok (.if_icmp .eq 181, 3) := by decide +kernel
theorem dl_1370 : decode code 1370 = .ok (.iconst 0, 1) := by decide +kernel
theorem dl_1371 : decode code 1371 = .ok (.ireturn, 1) := by decide +kernel
theorem dl_1372 : decode code 1372 = .ok (.aload_n 1, 1) := by decide +kernel
theorem dl_1373 : decode code 1373 = .ok (.aload_n 0, 1) := by decide +kernel
theorem dl_1374 : decode code 1374 = .ok (.iload_n 3, 1) := by decide +kernel
theorem dl_1375 : decode code 1375 = .ok (.iconst 1, 1) := by decide +kernel
theorem dl_1376 : decode code 1376 = .ok (.iadd, 1) := by decide +kernel
theorem dl_1377 : decode code 1377 = .ok (.iaload, 1) := by decide +kernel
theorem dl_1378 : decode code 1378 = .ok (.aload_n 0, 1) := by decide +kernel
theorem dl_1379 : decode code 1379 = .ok (.iload_n 3, 1) := by decide +kernel
theorem dl_1380 : decode code 1380 = .ok (.iconst 2, 1) := by decide +kernel
theorem dl_1381 : decode code 1381 = .ok (.iadd, 1) := by decide +kernel
theorem dl_1382 : decode code 1382 = .ok (.iaload, 1) := by decide +kernel
theorem dl_1383 : decode code 1383 = .ok (.aload_n 0, 1) := by decide +kernel
theorem dl_1384 : decode code 1384 = .ok (.iload_n 3, 1) := by decide +kernel
theorem dl_1385 : decode code 1385 = .ok (.iconst 3, 1) := by decide +kernel
theorem dl_1386 : decode code 1386 = .ok (.iadd, 1) := by decide +kernel
theorem dl_1387 : decode code 1387 = .ok (.iaload, 1) := by decide +kernel
theorem dl_1388 : decode code 1388 = .ok (.invokevirtual 162, 3) := by decide +kernel
theorem dl_1391 : decode code 1391 = .ok (.aload_n 2, 1) := by decide +kernel
theorem dl_1392 : decode code 1392 = .ok (.aload_n 0, 1) := by decide +kernel
theorem dl_1393 : decode code 1393 = .ok (.iload_n 3, 1) := by decide +kernel
theorem dl_1394 : decode code 1394 = .ok (.iconst 1, 1) := by decide +kernel
theorem dl_1395 : decode code 1395 = .ok (.iadd, 1) := by decide +kernel
theorem dl_1396 : decode code 1396 = .ok (.iaload, 1) := by decide +kernel
theorem dl_1397 : decode code 1397 = .ok (.aload_n 0, 1) := by decide +kernel
theorem dl_1398 : decode code 1398 = .ok (.iload_n 3, 1) := by decide +kernel
theorem dl_1399 : decode code 1399 = .ok (.iconst 2, 1) := by decide +kernel
theorem dl_1400 : decode code 1400 = .ok (.iadd, 1) := by decide +kernel
theorem dl_1401 : decode code 1401 = .ok (.iaload, 1) := by decide +kernel
theorem dl_1402 : decode code 1402 = .ok (.aload_n 0, 1) := by decide +kernel
theorem dl_1403 : decode code 1403 = .ok (.iload_n 3, 1) := by decide +kernel
theorem dl_1404 : decode code 1404 = .ok (.iconst 3, 1) := by decide +kernel
theorem dl_1405 : decode code 1405 = .ok (.iadd, 1) := by decide +kernel
theorem dl_1406 : decode code 1406 = .ok (.iaload, 1) := by decide +kernel
theorem dl_1407 : decode code 1407 = .ok (.invokevirtual 165, 3) := by decide +kernel
theorem dl_1410 : decode code 1410 = .ok (.if_icmp .eq 138, 3) := by decide +kernel
theorem dl_1413 : decode code 1413 = .ok (.iconst 0, 1) := by decide +kernel
theorem dl_1414 : decode code 1414 = .ok (.ireturn, 1) := by decide +kernel
theorem dl_1415 : decode code 1415 = .ok (.aload_n 1, 1) := by decide +kernel
theorem dl_1416 : decode code 1416 = .ok (.aload_n 0, 1) := by decide +kernel
theorem dl_1417 : decode code 1417 = .ok (.iload_n 3, 1) := by decide +kernel
theorem dl_1418 : decode code 1418 = .ok (.iconst 1, 1) := by decide +kernel
theorem dl_1419 : decode code 1419 = .ok (.iadd, 1) := by decide +kernel
theorem dl_1420 : decode code 1420 = .ok (.iaload, 1) := by decide +kernel
theorem dl_1421 : decode code 1421 = .ok (.aload_n 0, 1) := by decide +kernel
theorem dl_1422 : decode code 1422 = .ok (.iload_n 3, 1) := by decide +kernel
theorem dl_1423 : decode code 1423 = .ok (.iconst 2, 1) := by decide +kernel
theorem dl_1424 : decode code 1424 = .ok (.iadd, 1) := by decide +kernel
theorem dl_1425 : decode code 1425 = .ok (.iaload, 1) := by decide +kernel
theorem dl_1426 : decode code 1426 = .ok (.aload_n 0, 1) := by decide +kernel
theorem dl_1427 : decode code 1427 = .ok (.iload_n 3, 1) := by decide +kernel
theorem dl_1428 : decode code 1428 = .ok (.iconst 3, 1) := by decide +kernel
theorem dl_1429 : decode code 1429 = .ok (.iadd, 1) := by decide +kernel
theorem dl_1430 : decode code 1430 = .ok (.iaload, 1) := by decide +kernel
theorem dl_1431 : decode code 1431 = .ok (.aload_n 0, 1) := by decide +kernel
theorem dl_1432 : decode code 1432 = .ok (.iload_n 3, 1) := by decide +kernel
theorem dl_1433 : decode code 1433 = .ok (.iconst 4, 1) := by decide +kernel
theorem dl_1434 : decode code 1434 = .ok (.iadd, 1) := by decide +kernel
theorem dl_1435 : decode code 1435 = .ok (.iaload, 1) := by decide +kernel
theorem dl_1436 : decode code 1436 = .ok (.aload_n 0, 1) := by decide +kernel
theorem dl_1437 : decode code 1437 = .ok (.iload_n 3, 1) := by decide +kernel
theorem dl_1438 : decode code 1438 = .ok (.iconst 5, 1) := by decide +kernel
theorem dl_1439 : decode code 1439 = .ok (.iadd, 1) := by decide +kernel
theorem dl_1440 : decode code 1440 = .ok (.iaload, 1) := by decide +kernel
theorem dl_1441 : decode code 1441 = .ok (.invokevirtual 166, 3) := by decide +kernel
theorem dl_1444 : decode code 1444 = .ok (.aload_n 2, 1) := by decide +kernel
theorem dl_1445 : decode code 1445 = .ok (.aload_n 0, 1) := by decide +kernel
theorem dl_1446 : decode code 1446 = .ok (.iload_n 3, 1) := by decide +kernel
theorem dl_1447 : decode code 1447 = .ok (.iconst 1, 1) := by decide +kernel
theorem dl_1448 : decode code 1448 = .ok (.iadd, 1) := by decide +kernel
theorem dl_1449 : decode code 1449 = .ok (.iaload, 1) := by decide +kernel
theorem dl_1450 : decode code 1450 = .ok (.aload_n 0, 1) := by decide +kernel
theorem dl_1451 : decode code 1451 = .ok (.iload_n 3, 1) := by decide +kernel
theorem dl_1452 : decode code 1452 = .ok (.iconst 2, 1) := by decide +kernel
theorem dl_1453 : decode code 1453 = .ok (.iadd, 1) := by decide +kernel
theorem dl_1454 : decode code 1454 = .ok (.iaload, 1) := by decide +kernel
theorem dl_1455 : decode code 1455 = .ok (.aload_n 0, 1) := by decide +kernel
theorem dl_1456 : decode code 1456 = .ok (.iload_n 3, 1) := by decide +kernel
theorem dl_1457 : decode code 1457 = .ok (.iconst 3, 1) := by decide +kernel
theorem dl_1458 : decode code 1458 = .ok (.iadd, 1) := by decide +kernel
theorem dl_1459 : decode code 1459 = .ok (.iaload, 1) := by decide +kernel
theorem dl_1460 : decode code 1460 = .ok (.aload_n 0, 1) := by decide +kernel
theorem dl_1461 : decode code 1461 = .ok (.iload_n 3, 1) := by decide +kernel
theorem dl_1462 : decode code 1462 = .ok (.iconst 4, 1) := by decide +kernel
theorem dl_1463 : decode code 1463 = .ok (.iadd, 1) := by decide +kernel
theorem dl_1464 : decode code 1464 = .ok (.iaload, 1) := by decide +kernel
theorem dl_1465 : decode code 1465 = .ok (.aload_n 0, 1) := by decide +kernel
theorem dl_1466 : decode code 1466 = .ok (.iload_n 3, 1) := by decide +kernel
theorem dl_1467 : decode code 1467 = .ok (.iconst 5, 1) := by decide +kernel
theorem dl_1468 : decode code 1468 = .ok (.iadd, 1) := by decide +kernel
theorem dl_1469 : decode code 1469 = .ok (.iaload, 1) := by decide +kernel
theorem dl_1470 : decode code 1470 = .ok (.invokevirtual 170, 3) := by decide +kernel
theorem dl_1473 : decode code 1473 = .ok (.if_icmp .eq 75, 3) := by decide +kernel
theorem dl_1476 : decode code 1476 = .ok (.iconst 0, 1) := by decide +kernel
theorem dl_1477 : decode code 1477 = .ok (.ireturn, 1) := by decide +kernel
theorem dl_1478 : decode code 1478 = .ok (.aload_n 1, 1) := by decide +kernel
theorem dl_1479 : decode code 1479 = .ok (.aload_n 0, 1) := by decide +kernel
theorem dl_1480 : decode code 1480 = .ok (.iload_n 3, 1) := by decide +kernel
theorem dl_1481 : decode code 1481 = .ok (.iconst 1, 1) := by decide +kernel
theorem dl_1482 : decode code 1482 = .ok (.iadd, 1) := by decide +kernel
theorem dl_1483 : decode code 1483 = .ok (.iaload, 1) := by decide +kernel
theorem dl_1484 : decode code 1484 = .ok (.aload_n 0, 1) := by decide +kernel
theorem dl_1485 : decode code 1485 = .ok (.iload_n 3, 1) := by decide +kernel
theorem dl_1486 : decode code 1486 = .ok (.iconst 2, 1) := by decide +kernel
theorem dl_1487 : decode code 1487 = .ok (.iadd, 1) := by decide +kernel
theorem dl_1488 : decode code 1488 = .ok (.iaload, 1) := by decide +kernel
theorem dl_1489 : decode code 1489 = .ok (.invokevirtual 171, 3) := by decide +kernel
theorem dl_1492 : decode code 1492 = .ok (.aload_n 2, 1) := by decide +kernel
theorem dl_1493 : decode code 1493 = .ok (.aload_n 0, 1) := by decide +kernel
theorem dl_1494 : decode code 1494 = .ok (.iload_n 3, 1) := by decide +kernel
theorem dl_1495 : decode code 1495 = .ok (.iconst 1, 1) := by decide +kernel
theorem dl_1496 : decode code 1496 = .ok (.iadd, 1) := by decide +kernel
theorem dl_1497 : decode code 1497 = .ok (.iaload, 1) := by decide +kernel
theorem dl_1498 : decode code 1498 = .ok (.aload_n 0, 1) := by decide +kernel
theorem dl_1499 : decode code 1499 = .ok (.iload_n 3, 1) := by decide +kernel
theorem dl_1500 : decode code 1500 = .ok (.iconst 2, 1) := by decide +kernel
theorem dl_1501 : decode code 1501 = .ok (.iadd, 1) := by decide +kernel
theorem dl_1502 : decode code 1502 = .ok (.iaload, 1) := by decide +kernel
theorem dl_1503 : decode code 1503 = .ok (.invokevirtual 174, 3) := by decide +kernel
theorem dl_1506 : decode code 1506 = .ok (.if_icmp .eq 42, 3) := by decide +kernel
theorem dl_1509 : decode code 1509 = .ok (.iconst 0, 1) := by decide +kernel
theorem dl_1510 : decode code 1510 = .ok (.ireturn, 1) := by decide +kernel
theorem dl_1511 : decode code 1511 = .ok (.aload_n 1, 1) := by decide +kernel
theorem dl_1512 : decode code 1512 = .ok (.aload_n 0, 1) := by decide +kernel
theorem dl_1513 : decode code 1513 = .ok (.iload_n 3, 1) := by decide +kernel
theorem dl_1514 : decode code 1514 = .ok (.iconst 1, 1) := by decide +kernel
theorem dl_1515 : decode code 1515 = .ok (.iadd, 1) := by decide +kernel
theorem dl_1516 : decode code 1516 = .ok (.iaload, 1) := by decide +kernel
theorem dl_1517 : decode code 1517 = .ok (.invokevirtual 175, 3) := by decide +kernel
theorem dl_1520 : decode code 1520 = .ok (.aload_n 2, 1) := by decide +kernel
theorem dl_1521 : decode code 1521 = .ok (.aload_n 0, 1) := by decide +kernel
theorem dl_1522 : decode code 1522 = .ok (.iload_n 3, 1) := by decide +kernel
theorem dl_1523 : decode code 1523 = .ok (.iconst 1, 1) := by decide +kernel
theorem dl_1524 : decode code 1524 = .ok (.iadd, 1) := by decide +kernel
theorem dl_1525 : decode code 1525 = .ok (.iaload, 1) := by decide +kernel
theorem dl_1526 : decode code 1526 = .ok (.invokevirtual 178, 3) := by decide +kernel
theorem dl_1529 : decode code 1529 = .ok (.if_icmp .eq 19, 3) := by decide +kernel
theorem dl_1532 : decode code 1532 = .ok (.iconst 0, 1) := by decide +kernel
theorem dl_1533 : decode code 1533 = .ok (.ireturn, 1) := by decide +kernel
theorem dl_1534 : decode code 1534 = .ok (.aload_n 1, 1) := by decide +kernel
theorem dl_1535 : decode code 1535 = .ok (.invokevirtual 179, 3) := by decide +kernel
theorem dl_1538 : decode code 1538 = .ok (.aload_n 2, 1) := by decide +kernel
theorem dl_1539 : decode code 1539 = .ok (.invokevirtual 183, 3) := by decide +kernel
theorem dl_1542 : decode code 1542 = .ok (.lcmp, 1) := by decide +kernel
theorem dl_1543 : decode code 1543 = .ok (.ifCond .eq 5, 3) := by decide +kernel
theorem dl_1546 : decode code 1546 = .ok (.iconst 0, 1) := by decide +kernel
theorem dl_1547 : decode code 1547 = .ok (.ireturn, 1) := by decide +kernel
theorem dl_1548 : decode code 1548 = .ok (.iinc 3 6, 3) := by decide +kernel
theorem dl_1551 : decode code 1551 = .ok (.goto (-1533), 3) := by decide +kernel
theorem dl_1554 : decode code 1554 = .ok (.iconst 1, 1) := by decide +kernel
theorem dl_1555 : decode code 1555 = .ok (.ireturn, 1) := by decide +kernel
theorem lx_0 : (Jvm.Cond.methodLink "ThroughOthersLaw" (13 : Nat) ({ cls := "ThroughOthers", name := "persons", desc := "(I)I" } : Jvm.MethodName)) ∈ sd_tb := sd_in (List.mem_of_getElem? (i := 341) (by decide +kernel)) rfl
theorem lx_1 : (Jvm.Cond.methodLink "ThroughOthersLaw" (17 : Nat) ({ cls := "ThroughOthersModel", name := "persons", desc := "(I)I" } : Jvm.MethodName)) ∈ sd_tb := sd_in (List.mem_of_getElem? (i := 1110) (by decide +kernel)) rfl
theorem lx_2 : (Jvm.Cond.methodLink "ThroughOthersLaw" (18 : Nat) ({ cls := "ThroughOthers", name := "tie", desc := "(IIZ)I" } : Jvm.MethodName)) ∈ sd_tb := sd_in (List.mem_of_getElem? (i := 357) (by decide +kernel)) rfl
theorem lx_3 : (Jvm.Cond.methodLink "ThroughOthersLaw" (22 : Nat) ({ cls := "ThroughOthersModel", name := "tie", desc := "(IIZ)I" } : Jvm.MethodName)) ∈ sd_tb := sd_in (List.mem_of_getElem? (i := 1115) (by decide +kernel)) rfl
theorem lx_4 : (Jvm.Cond.methodLink "ThroughOthersLaw" (23 : Nat) ({ cls := "ThroughOthers", name := "kind", desc := "(II)I" } : Jvm.MethodName)) ∈ sd_tb := sd_in (List.mem_of_getElem? (i := 370) (by decide +kernel)) rfl
theorem lx_5 : (Jvm.Cond.methodLink "ThroughOthersLaw" (27 : Nat) ({ cls := "ThroughOthersModel", name := "kind", desc := "(II)I" } : Jvm.MethodName)) ∈ sd_tb := sd_in (List.mem_of_getElem? (i := 1127) (by decide +kernel)) rfl
theorem lx_6 : (Jvm.Cond.methodLink "ThroughOthersLaw" (28 : Nat) ({ cls := "ThroughOthers", name := "read", desc := "(II)I" } : Jvm.MethodName)) ∈ sd_tb := sd_in (List.mem_of_getElem? (i := 385) (by decide +kernel)) rfl
theorem lx_7 : (Jvm.Cond.methodLink "ThroughOthersLaw" (31 : Nat) ({ cls := "ThroughOthersModel", name := "read", desc := "(II)I" } : Jvm.MethodName)) ∈ sd_tb := sd_in (List.mem_of_getElem? (i := 1134) (by decide +kernel)) rfl
theorem lx_8 : (Jvm.Cond.methodLink "ThroughOthersLaw" (32 : Nat) ({ cls := "ThroughOthers", name := "about", desc := "(II)I" } : Jvm.MethodName)) ∈ sd_tb := sd_in (List.mem_of_getElem? (i := 408) (by decide +kernel)) rfl
theorem lx_9 : (Jvm.Cond.methodLink "ThroughOthersLaw" (35 : Nat) ({ cls := "ThroughOthersModel", name := "about", desc := "(II)I" } : Jvm.MethodName)) ∈ sd_tb := sd_in (List.mem_of_getElem? (i := 1138) (by decide +kernel)) rfl
theorem lx_10 : (Jvm.Cond.methodLink "ThroughOthersLaw" (36 : Nat) ({ cls := "ThroughOthers", name := "far", desc := "(II)I" } : Jvm.MethodName)) ∈ sd_tb := sd_in (List.mem_of_getElem? (i := 422) (by decide +kernel)) rfl
theorem lx_11 : (Jvm.Cond.methodLink "ThroughOthersLaw" (39 : Nat) ({ cls := "ThroughOthersModel", name := "far", desc := "(II)I" } : Jvm.MethodName)) ∈ sd_tb := sd_in (List.mem_of_getElem? (i := 1149) (by decide +kernel)) rfl
theorem lx_12 : (Jvm.Cond.methodLink "ThroughOthersLaw" (40 : Nat) ({ cls := "ThroughOthers", name := "set", desc := "(II)I" } : Jvm.MethodName)) ∈ sd_tb := sd_in (List.mem_of_getElem? (i := 434) (by decide +kernel)) rfl
theorem lx_13 : (Jvm.Cond.methodLink "ThroughOthersLaw" (43 : Nat) ({ cls := "ThroughOthersModel", name := "set", desc := "(II)I" } : Jvm.MethodName)) ∈ sd_tb := sd_in (List.mem_of_getElem? (i := 1161) (by decide +kernel)) rfl
theorem lx_14 : (Jvm.Cond.methodLink "ThroughOthersLaw" (44 : Nat) ({ cls := "ThroughOthers", name := "found", desc := "(II)J" } : Jvm.MethodName)) ∈ sd_tb := sd_in (List.mem_of_getElem? (i := 453) (by decide +kernel)) rfl
theorem lx_15 : (Jvm.Cond.methodLink "ThroughOthersLaw" (48 : Nat) ({ cls := "ThroughOthersModel", name := "found", desc := "(II)J" } : Jvm.MethodName)) ∈ sd_tb := sd_in (List.mem_of_getElem? (i := 1168) (by decide +kernel)) rfl
theorem lx_16 : (Jvm.Cond.methodLink "ThroughOthersLaw" (49 : Nat) ({ cls := "ThroughOthers", name := "both", desc := "(III)J" } : Jvm.MethodName)) ∈ sd_tb := sd_in (List.mem_of_getElem? (i := 492) (by decide +kernel)) rfl
theorem lx_17 : (Jvm.Cond.methodLink "ThroughOthersLaw" (53 : Nat) ({ cls := "ThroughOthersModel", name := "both", desc := "(III)J" } : Jvm.MethodName)) ∈ sd_tb := sd_in (List.mem_of_getElem? (i := 1208) (by decide +kernel)) rfl
theorem lx_18 : (Jvm.Cond.methodLink "ThroughOthersLaw" (54 : Nat) ({ cls := "ThroughOthers", name := "size", desc := "(II)J" } : Jvm.MethodName)) ∈ sd_tb := sd_in (List.mem_of_getElem? (i := 496) (by decide +kernel)) rfl
theorem lx_19 : (Jvm.Cond.methodLink "ThroughOthersLaw" (57 : Nat) ({ cls := "ThroughOthersModel", name := "size", desc := "(II)J" } : Jvm.MethodName)) ∈ sd_tb := sd_in (List.mem_of_getElem? (i := 1212) (by decide +kernel)) rfl
theorem lx_20 : (Jvm.Cond.methodLink "ThroughOthersLaw" (58 : Nat) ({ cls := "ThroughOthers", name := "kinds", desc := "(II)J" } : Jvm.MethodName)) ∈ sd_tb := sd_in (List.mem_of_getElem? (i := 504) (by decide +kernel)) rfl
theorem lx_21 : (Jvm.Cond.methodLink "ThroughOthersLaw" (61 : Nat) ({ cls := "ThroughOthersModel", name := "kinds", desc := "(II)J" } : Jvm.MethodName)) ∈ sd_tb := sd_in (List.mem_of_getElem? (i := 1216) (by decide +kernel)) rfl
theorem lx_22 : (Jvm.Cond.methodLink "ThroughOthersLaw" (62 : Nat) ({ cls := "ThroughOthers", name := "within", desc := "(II)J" } : Jvm.MethodName)) ∈ sd_tb := sd_in (List.mem_of_getElem? (i := 512) (by decide +kernel)) rfl
theorem lx_23 : (Jvm.Cond.methodLink "ThroughOthersLaw" (65 : Nat) ({ cls := "ThroughOthersModel", name := "within", desc := "(II)J" } : Jvm.MethodName)) ∈ sd_tb := sd_in (List.mem_of_getElem? (i := 1220) (by decide +kernel)) rfl
theorem lx_24 : (Jvm.Cond.methodLink "ThroughOthersLaw" (66 : Nat) ({ cls := "ThroughOthers", name := "at", desc := "(III)J" } : Jvm.MethodName)) ∈ sd_tb := sd_in (List.mem_of_getElem? (i := 539) (by decide +kernel)) rfl
theorem lx_25 : (Jvm.Cond.methodLink "ThroughOthersLaw" (69 : Nat) ({ cls := "ThroughOthersModel", name := "at", desc := "(III)J" } : Jvm.MethodName)) ∈ sd_tb := sd_in (List.mem_of_getElem? (i := 1224) (by decide +kernel)) rfl
theorem lx_26 : (Jvm.Cond.methodLink "ThroughOthersLaw" (70 : Nat) ({ cls := "ThroughOthers", name := "lasting", desc := "(II)J" } : Jvm.MethodName)) ∈ sd_tb := sd_in (List.mem_of_getElem? (i := 559) (by decide +kernel)) rfl
theorem lx_27 : (Jvm.Cond.methodLink "ThroughOthersLaw" (73 : Nat) ({ cls := "ThroughOthersModel", name := "lasting", desc := "(II)J" } : Jvm.MethodName)) ∈ sd_tb := sd_in (List.mem_of_getElem? (i := 1233) (by decide +kernel)) rfl
theorem lx_28 : (Jvm.Cond.methodLink "ThroughOthersLaw" (74 : Nat) ({ cls := "ThroughOthers", name := "strayed", desc := "(II)J" } : Jvm.MethodName)) ∈ sd_tb := sd_in (List.mem_of_getElem? (i := 569) (by decide +kernel)) rfl
theorem lx_29 : (Jvm.Cond.methodLink "ThroughOthersLaw" (77 : Nat) ({ cls := "ThroughOthersModel", name := "strayed", desc := "(II)J" } : Jvm.MethodName)) ∈ sd_tb := sd_in (List.mem_of_getElem? (i := 1241) (by decide +kernel)) rfl
theorem lx_30 : (Jvm.Cond.methodLink "ThroughOthersLaw" (78 : Nat) ({ cls := "ThroughOthers", name := "came", desc := "(IIII)I" } : Jvm.MethodName)) ∈ sd_tb := sd_in (List.mem_of_getElem? (i := 585) (by decide +kernel)) rfl
theorem lx_31 : (Jvm.Cond.methodLink "ThroughOthersLaw" (82 : Nat) ({ cls := "ThroughOthersModel", name := "came", desc := "(IIII)I" } : Jvm.MethodName)) ∈ sd_tb := sd_in (List.mem_of_getElem? (i := 1245) (by decide +kernel)) rfl
theorem lx_32 : (Jvm.Cond.methodLink "ThroughOthersLaw" (83 : Nat) ({ cls := "ThroughOthers", name := "takeBack", desc := "(II)I" } : Jvm.MethodName)) ∈ sd_tb := sd_in (List.mem_of_getElem? (i := 603) (by decide +kernel)) rfl
theorem lx_33 : (Jvm.Cond.methodLink "ThroughOthersLaw" (86 : Nat) ({ cls := "ThroughOthersModel", name := "takeBack", desc := "(II)I" } : Jvm.MethodName)) ∈ sd_tb := sd_in (List.mem_of_getElem? (i := 1254) (by decide +kernel)) rfl
theorem lx_34 : (Jvm.Cond.methodLink "ThroughOthersLaw" (87 : Nat) ({ cls := "ThroughOthers", name := "record", desc := "(II)I" } : Jvm.MethodName)) ∈ sd_tb := sd_in (List.mem_of_getElem? (i := 611) (by decide +kernel)) rfl
theorem lx_35 : (Jvm.Cond.methodLink "ThroughOthersLaw" (90 : Nat) ({ cls := "ThroughOthersModel", name := "record", desc := "(II)I" } : Jvm.MethodName)) ∈ sd_tb := sd_in (List.mem_of_getElem? (i := 1258) (by decide +kernel)) rfl
theorem lx_36 : (Jvm.Cond.methodLink "ThroughOthersLaw" (91 : Nat) ({ cls := "ThroughOthers", name := "share", desc := "(II)J" } : Jvm.MethodName)) ∈ sd_tb := sd_in (List.mem_of_getElem? (i := 619) (by decide +kernel)) rfl
theorem lx_37 : (Jvm.Cond.methodLink "ThroughOthersLaw" (94 : Nat) ({ cls := "ThroughOthersModel", name := "share", desc := "(II)J" } : Jvm.MethodName)) ∈ sd_tb := sd_in (List.mem_of_getElem? (i := 1270) (by decide +kernel)) rfl
theorem lx_38 : (Jvm.Cond.methodLink "ThroughOthersLaw" (95 : Nat) ({ cls := "ThroughOthers", name := "bounds", desc := "(III)J" } : Jvm.MethodName)) ∈ sd_tb := sd_in (List.mem_of_getElem? (i := 662) (by decide +kernel)) rfl
theorem lx_39 : (Jvm.Cond.methodLink "ThroughOthersLaw" (98 : Nat) ({ cls := "ThroughOthersModel", name := "bounds", desc := "(III)J" } : Jvm.MethodName)) ∈ sd_tb := sd_in (List.mem_of_getElem? (i := 1299) (by decide +kernel)) rfl
theorem lx_40 : (Jvm.Cond.methodLink "ThroughOthersLaw" (99 : Nat) ({ cls := "ThroughOthers", name := "leaving", desc := "(II)J" } : Jvm.MethodName)) ∈ sd_tb := sd_in (List.mem_of_getElem? (i := 671) (by decide +kernel)) rfl
theorem lx_41 : (Jvm.Cond.methodLink "ThroughOthersLaw" (102 : Nat) ({ cls := "ThroughOthersModel", name := "leaving", desc := "(II)J" } : Jvm.MethodName)) ∈ sd_tb := sd_in (List.mem_of_getElem? (i := 1303) (by decide +kernel)) rfl
theorem lx_42 : (Jvm.Cond.methodLink "ThroughOthersLaw" (103 : Nat) ({ cls := "ThroughOthers", name := "alike", desc := "(I)I" } : Jvm.MethodName)) ∈ sd_tb := sd_in (List.mem_of_getElem? (i := 683) (by decide +kernel)) rfl
theorem lx_43 : (Jvm.Cond.methodLink "ThroughOthersLaw" (106 : Nat) ({ cls := "ThroughOthersModel", name := "alike", desc := "(I)I" } : Jvm.MethodName)) ∈ sd_tb := sd_in (List.mem_of_getElem? (i := 1314) (by decide +kernel)) rfl
theorem lx_44 : (Jvm.Cond.methodLink "ThroughOthersLaw" (107 : Nat) ({ cls := "ThroughOthers", name := "forgot", desc := "(II)J" } : Jvm.MethodName)) ∈ sd_tb := sd_in (List.mem_of_getElem? (i := 721) (by decide +kernel)) rfl
theorem lx_45 : (Jvm.Cond.methodLink "ThroughOthersLaw" (110 : Nat) ({ cls := "ThroughOthersModel", name := "forgot", desc := "(II)J" } : Jvm.MethodName)) ∈ sd_tb := sd_in (List.mem_of_getElem? (i := 1338) (by decide +kernel)) rfl
theorem lx_46 : (Jvm.Cond.methodLink "ThroughOthersLaw" (111 : Nat) ({ cls := "ThroughOthers", name := "wave", desc := "(I)I" } : Jvm.MethodName)) ∈ sd_tb := sd_in (List.mem_of_getElem? (i := 739) (by decide +kernel)) rfl
theorem lx_47 : (Jvm.Cond.methodLink "ThroughOthersLaw" (114 : Nat) ({ cls := "ThroughOthersModel", name := "wave", desc := "(I)I" } : Jvm.MethodName)) ∈ sd_tb := sd_in (List.mem_of_getElem? (i := 1343) (by decide +kernel)) rfl
theorem lx_48 : (Jvm.Cond.methodLink "ThroughOthersLaw" (115 : Nat) ({ cls := "ThroughOthers", name := "type", desc := "(II)I" } : Jvm.MethodName)) ∈ sd_tb := sd_in (List.mem_of_getElem? (i := 747) (by decide +kernel)) rfl
theorem lx_49 : (Jvm.Cond.methodLink "ThroughOthersLaw" (118 : Nat) ({ cls := "ThroughOthersModel", name := "type", desc := "(II)I" } : Jvm.MethodName)) ∈ sd_tb := sd_in (List.mem_of_getElem? (i := 1348) (by decide +kernel)) rfl
theorem lx_50 : (Jvm.Cond.methodLink "ThroughOthersLaw" (119 : Nat) ({ cls := "ThroughOthers", name := "wipe", desc := "(I)I" } : Jvm.MethodName)) ∈ sd_tb := sd_in (List.mem_of_getElem? (i := 758) (by decide +kernel)) rfl
theorem lx_51 : (Jvm.Cond.methodLink "ThroughOthersLaw" (122 : Nat) ({ cls := "ThroughOthersModel", name := "wipe", desc := "(I)I" } : Jvm.MethodName)) ∈ sd_tb := sd_in (List.mem_of_getElem? (i := 1355) (by decide +kernel)) rfl
theorem lx_52 : (Jvm.Cond.methodLink "ThroughOthersLaw" (123 : Nat) ({ cls := "ThroughOthers", name := "clash", desc := "(II)I" } : Jvm.MethodName)) ∈ sd_tb := sd_in (List.mem_of_getElem? (i := 762) (by decide +kernel)) rfl
theorem lx_53 : (Jvm.Cond.methodLink "ThroughOthersLaw" (126 : Nat) ({ cls := "ThroughOthersModel", name := "clash", desc := "(II)I" } : Jvm.MethodName)) ∈ sd_tb := sd_in (List.mem_of_getElem? (i := 1359) (by decide +kernel)) rfl
theorem lx_54 : (Jvm.Cond.methodLink "ThroughOthersLaw" (127 : Nat) ({ cls := "ThroughOthers", name := "least", desc := "()I" } : Jvm.MethodName)) ∈ sd_tb := sd_in (List.mem_of_getElem? (i := 771) (by decide +kernel)) rfl
theorem lx_55 : (Jvm.Cond.methodLink "ThroughOthersLaw" (131 : Nat) ({ cls := "ThroughOthersModel", name := "least", desc := "()I" } : Jvm.MethodName)) ∈ sd_tb := sd_in (List.mem_of_getElem? (i := 1367) (by decide +kernel)) rfl
theorem lx_56 : (Jvm.Cond.methodLink "ThroughOthersLaw" (132 : Nat) ({ cls := "ThroughOthers", name := "ones", desc := "(I)I" } : Jvm.MethodName)) ∈ sd_tb := sd_in (List.mem_of_getElem? (i := 794) (by decide +kernel)) rfl
theorem lx_57 : (Jvm.Cond.methodLink "ThroughOthersLaw" (135 : Nat) ({ cls := "ThroughOthersModel", name := "ones", desc := "(I)I" } : Jvm.MethodName)) ∈ sd_tb := sd_in (List.mem_of_getElem? (i := 1383) (by decide +kernel)) rfl
theorem lx_58 : (Jvm.Cond.methodLink "ThroughOthersLaw" (136 : Nat) ({ cls := "ThroughOthers", name := "reach", desc := "(I)I" } : Jvm.MethodName)) ∈ sd_tb := sd_in (List.mem_of_getElem? (i := 802) (by decide +kernel)) rfl
theorem lx_59 : (Jvm.Cond.methodLink "ThroughOthersLaw" (139 : Nat) ({ cls := "ThroughOthersModel", name := "reach", desc := "(I)I" } : Jvm.MethodName)) ∈ sd_tb := sd_in (List.mem_of_getElem? (i := 1387) (by decide +kernel)) rfl
theorem lx_60 : (Jvm.Cond.methodLink "ThroughOthersLaw" (140 : Nat) ({ cls := "ThroughOthers", name := "parts", desc := "(I)I" } : Jvm.MethodName)) ∈ sd_tb := sd_in (List.mem_of_getElem? (i := 810) (by decide +kernel)) rfl
theorem lx_61 : (Jvm.Cond.methodLink "ThroughOthersLaw" (143 : Nat) ({ cls := "ThroughOthersModel", name := "parts", desc := "(I)I" } : Jvm.MethodName)) ∈ sd_tb := sd_in (List.mem_of_getElem? (i := 1392) (by decide +kernel)) rfl
theorem lx_62 : (Jvm.Cond.methodLink "ThroughOthersLaw" (144 : Nat) ({ cls := "ThroughOthers", name := "narrow", desc := "(I)J" } : Jvm.MethodName)) ∈ sd_tb := sd_in (List.mem_of_getElem? (i := 824) (by decide +kernel)) rfl
theorem lx_63 : (Jvm.Cond.methodLink "ThroughOthersLaw" (148 : Nat) ({ cls := "ThroughOthersModel", name := "narrow", desc := "(I)J" } : Jvm.MethodName)) ∈ sd_tb := sd_in (List.mem_of_getElem? (i := 1404) (by decide +kernel)) rfl
theorem lx_64 : (Jvm.Cond.methodLink "ThroughOthersLaw" (149 : Nat) ({ cls := "ThroughOthers", name := "sheet", desc := "(III)I" } : Jvm.MethodName)) ∈ sd_tb := sd_in (List.mem_of_getElem? (i := 839) (by decide +kernel)) rfl
theorem lx_65 : (Jvm.Cond.methodLink "ThroughOthersLaw" (153 : Nat) ({ cls := "ThroughOthersModel", name := "sheet", desc := "(III)I" } : Jvm.MethodName)) ∈ sd_tb := sd_in (List.mem_of_getElem? (i := 1070) (by decide +kernel)) rfl
theorem lx_66 : (Jvm.Cond.methodLink "ThroughOthersLaw" (154 : Nat) ({ cls := "ThroughOthers", name := "lose", desc := "(I)I" } : Jvm.MethodName)) ∈ sd_tb := sd_in (List.mem_of_getElem? (i := 850) (by decide +kernel)) rfl
theorem lx_67 : (Jvm.Cond.methodLink "ThroughOthersLaw" (157 : Nat) ({ cls := "ThroughOthersModel", name := "lose", desc := "(I)I" } : Jvm.MethodName)) ∈ sd_tb := sd_in (List.mem_of_getElem? (i := 1086) (by decide +kernel)) rfl
theorem lx_68 : (Jvm.Cond.methodLink "ThroughOthersLaw" (158 : Nat) ({ cls := "ThroughOthers", name := "lay", desc := "(IIII)I" } : Jvm.MethodName)) ∈ sd_tb := sd_in (List.mem_of_getElem? (i := 854) (by decide +kernel)) rfl
theorem lx_69 : (Jvm.Cond.methodLink "ThroughOthersLaw" (161 : Nat) ({ cls := "ThroughOthersModel", name := "lay", desc := "(IIII)I" } : Jvm.MethodName)) ∈ sd_tb := sd_in (List.mem_of_getElem? (i := 1090) (by decide +kernel)) rfl
theorem lx_70 : (Jvm.Cond.methodLink "ThroughOthersLaw" (162 : Nat) ({ cls := "ThroughOthers", name := "get", desc := "(III)I" } : Jvm.MethodName)) ∈ sd_tb := sd_in (List.mem_of_getElem? (i := 867) (by decide +kernel)) rfl
theorem lx_71 : (Jvm.Cond.methodLink "ThroughOthersLaw" (165 : Nat) ({ cls := "ThroughOthersModel", name := "get", desc := "(III)I" } : Jvm.MethodName)) ∈ sd_tb := sd_in (List.mem_of_getElem? (i := 1101) (by decide +kernel)) rfl
theorem lx_72 : (Jvm.Cond.methodLink "ThroughOthersLaw" (166 : Nat) ({ cls := "ThroughOthers", name := "copy", desc := "(IIIII)I" } : Jvm.MethodName)) ∈ sd_tb := sd_in (List.mem_of_getElem? (i := 872) (by decide +kernel)) rfl
theorem lx_73 : (Jvm.Cond.methodLink "ThroughOthersLaw" (170 : Nat) ({ cls := "ThroughOthersModel", name := "copy", desc := "(IIIII)I" } : Jvm.MethodName)) ∈ sd_tb := sd_in (List.mem_of_getElem? (i := 1106) (by decide +kernel)) rfl
theorem lx_74 : (Jvm.Cond.methodLink "ThroughOthersLaw" (171 : Nat) ({ cls := "ThroughOthers", name := "write", desc := "(II)I" } : Jvm.MethodName)) ∈ sd_tb := sd_in (List.mem_of_getElem? (i := 881) (by decide +kernel)) rfl
theorem lx_75 : (Jvm.Cond.methodLink "ThroughOthersLaw" (174 : Nat) ({ cls := "ThroughOthersModel", name := "write", desc := "(II)I" } : Jvm.MethodName)) ∈ sd_tb := sd_in (List.mem_of_getElem? (i := 1412) (by decide +kernel)) rfl
theorem lx_76 : (Jvm.Cond.methodLink "ThroughOthersLaw" (175 : Nat) ({ cls := "ThroughOthers", name := "count", desc := "(I)I" } : Jvm.MethodName)) ∈ sd_tb := sd_in (List.mem_of_getElem? (i := 885) (by decide +kernel)) rfl
theorem lx_77 : (Jvm.Cond.methodLink "ThroughOthersLaw" (178 : Nat) ({ cls := "ThroughOthersModel", name := "count", desc := "(I)I" } : Jvm.MethodName)) ∈ sd_tb := sd_in (List.mem_of_getElem? (i := 1416) (by decide +kernel)) rfl
theorem lx_78 : (Jvm.Cond.methodLink "ThroughOthersLaw" (179 : Nat) ({ cls := "ThroughOthers", name := "digest", desc := "()J" } : Jvm.MethodName)) ∈ sd_tb := sd_in (List.mem_of_getElem? (i := 893) (by decide +kernel)) rfl
theorem lx_79 : (Jvm.Cond.methodLink "ThroughOthersLaw" (183 : Nat) ({ cls := "ThroughOthersModel", name := "digest", desc := "()J" } : Jvm.MethodName)) ∈ sd_tb := sd_in (List.mem_of_getElem? (i := 1420) (by decide +kernel)) rfl
theorem lc_cmp (r : Int64) : lg_cmp r r = 0 := by
  unfold lg_cmp
  simp
theorem lc_w (x : Int32) : ∃ w : Int32, ((x = 0 ∧ w = 0) ∨ (¬ x = 0 ∧ w = 1)) ∧ inR w 2 := by
  by_cases h : x = 0
  · exact ⟨0, Or.inl ⟨h, rfl⟩, 0, by decide, rfl⟩
  · exact ⟨1, Or.inr ⟨h, rfl⟩, 1, by decide, rfl⟩
section LCB
variable {p : Program} {l : Launch} {e : Env} {s : State} {m : MethodId} {below : List Frame} {meth : Method} {c : Code} {b L : Nat} {xs : Nat → Int32} {ad : Nat → Nat} {cA : Nat → ClassId} {D : va_G} {Q : State → Prop} {H : Heap} {locs : List Loc} {ls : Array Slot} {σ : Sg} {k : Nat}
theorem lc_bit {pc t1 t2 : Nat} {rest : List Value} (hx : p.tables.exec = Jvm.exec) (hb : c.code = code) (d1 : decode code pc = .ok (.ifCond .eq 7, 3)) (h1 : (pc : Int) + 7 = ((pc + 7 : Nat) : Int)) (d2 : decode code (pc + 3) = .ok (.iconst 1, 1)) (d3 : decode code (pc + 4) = .ok (.goto 4, 3)) (h2 : ((pc + 4 : Nat) : Int) + 4 = ((pc + 8 : Nat) : Int)) (d4 : decode code (pc + 7) = .ok (.iconst 0, 1)) {w w0 : Int32} (hw : (w0 = 0 ∧ w = 0) ∨ (¬ w0 = 0 ∧ w = 1))
    (kk : W p l e room_1 s m #[Value.ref b] below meth c H locs 70 6996 Q (F0 m (pc + 8) ls (.int w :: rest))) : W p l e room_1 s m #[Value.ref b] below meth c H locs 70 6996 Q (F0 m pc ls (.int w0 :: rest)) := by
  refine lv_if_eq (tgt := pc + 7) hx hb d1 h1 (fun h => ?_) (fun h => ?_)
  · rcases hw with ⟨-, rfl⟩ | ⟨q, -⟩
    · exact lv_iconst (v := 0) hx hb d4 (by decide +kernel) kk
    · exact absurd h q
  · rcases hw with ⟨q, -⟩ | ⟨-, rfl⟩
    · exact absurd q h
    · refine lv_iconst (v := 1) hx hb d2 (by decide +kernel) ?_
      exact lv_goto (tgt := pc + 8) hx hb d3 h2 kk
theorem lc_0 (C : lc_C p s m meth c b L xs ad cA D) (hH : lc_S s ad cA D σ H locs) (hl : lc_L ls b ad k) (hk : 6 * k + 6 ≤ L) (hI : INV k σ) (kk : ∀ (τ : Sg) (H1 : Heap) (locs1 : List Loc), INV (k + 1) τ → lc_S s ad cA D τ H1 locs1 → W p l e room_1 s m #[Value.ref b] below meth c H1 locs1 70 6996 Q (F0 m 1548 ls [])) : W p l e room_1 s m #[Value.ref b] below meth c H locs 70 6996 Q (F0 m 208 ls []) := by
  have hx := C.1
  have hb := C.2.1
  have hk9 : k < 512 := by have := C.2.2.2.2.2.2.2.2.2.2.2.2; omega
  obtain ⟨r, σ1, σ2, g1, g2, g3⟩ := I_persons hk9 hI (xs (6 * k + 1))
  refine lv_aload_n hx hb dl_208 rfl (lv_at hl 2 rfl) ?_
  refine lc_arg C hH hl hk 1 (by decide) rfl dl_209 dl_210 dl_211 dl_212 dl_213 ?_
  refine lc_call C hH hl.1 (M := 1) (o := 0) (q := mi_TO_persons) (as := [.int (xs (6 * k + 1))]) (r := (some (.int r), σ1)) rfl lx_0 rfl rfl (by decide) rfl g1 (Nat.le_of_ble_eq_true rfl) dl_214 (fun H locs hH => ?_)
  refine lv_aload_n hx hb dl_217 rfl (lv_at hl 1 rfl) ?_
  refine lc_arg C hH hl hk 1 (by decide) rfl dl_218 dl_219 dl_220 dl_221 dl_222 ?_
  refine lc_call C hH hl.1 (M := 140) (o := 39) (q := mi_Mod_persons) (as := [.int (xs (6 * k + 1))]) (r := (some (.int r), σ2)) rfl lx_1 rfl rfl (by decide) rfl g2 (Nat.le_of_ble_eq_true rfl) dl_223 (fun H locs hH => ?_)
  exact lv_icmp_eq (tgt := 1548) hx hb dl_226 (by decide) (fun _ => kk σ2 H locs g3 hH) (fun h => absurd rfl h)
theorem lc_1 (C : lc_C p s m meth c b L xs ad cA D) (hH : lc_S s ad cA D σ H locs) (hl : lc_L ls b ad k) (hk : 6 * k + 6 ≤ L) (hI : INV k σ) (kk : ∀ (τ : Sg) (H1 : Heap) (locs1 : List Loc), INV (k + 1) τ → lc_S s ad cA D τ H1 locs1 → W p l e room_1 s m #[Value.ref b] below meth c H1 locs1 70 6996 Q (F0 m 1548 ls [])) : W p l e room_1 s m #[Value.ref b] below meth c H locs 70 6996 Q (F0 m 231 ls []) := by
  have hx := C.1
  have hb := C.2.1
  have hk9 : k < 512 := by have := C.2.2.2.2.2.2.2.2.2.2.2.2; omega
  obtain ⟨w, ew, hw⟩ := lc_w (xs (6 * k + 3))
  obtain ⟨r, σ1, σ2, g1, g2, g3⟩ := I_tie hk9 hI (xs (6 * k + 1)) (xs (6 * k + 2)) (w) hw
  refine lv_aload_n hx hb dl_231 rfl (lv_at hl 2 rfl) ?_
  refine lc_arg C hH hl hk 1 (by decide) rfl dl_232 dl_233 dl_234 dl_235 dl_236 ?_
  refine lc_arg C hH hl hk 2 (by decide) rfl dl_237 dl_238 dl_239 dl_240 dl_241 ?_
  refine lc_arg C hH hl hk 3 (by decide) rfl dl_242 dl_243 dl_244 dl_245 dl_246 ?_
  refine lc_bit hx hb dl_247 (by decide) dl_250 dl_251 (by decide) dl_254 (w := w) (w0 := xs (6 * k + 3)) ew ?_
  refine lc_call C hH hl.1 (M := 5) (o := 0) (q := mi_TO_tie) (as := [.int (xs (6 * k + 1)), .int (xs (6 * k + 2)), .int (w)]) (r := (some (.int r), σ1)) rfl lx_2 rfl rfl (by decide) rfl g1 (Nat.le_of_ble_eq_true rfl) dl_255 (fun H locs hH => ?_)
  refine lv_aload_n hx hb dl_258 rfl (lv_at hl 1 rfl) ?_
  refine lc_arg C hH hl hk 1 (by decide) rfl dl_259 dl_260 dl_261 dl_262 dl_263 ?_
  refine lc_arg C hH hl hk 2 (by decide) rfl dl_264 dl_265 dl_266 dl_267 dl_268 ?_
  refine lc_arg C hH hl hk 3 (by decide) rfl dl_269 dl_270 dl_271 dl_272 dl_273 ?_
  refine lc_bit hx hb dl_274 (by decide) dl_277 dl_278 (by decide) dl_281 (w := w) (w0 := xs (6 * k + 3)) ew ?_
  refine lc_call C hH hl.1 (M := 141) (o := 39) (q := mi_Mod_tie) (as := [.int (xs (6 * k + 1)), .int (xs (6 * k + 2)), .int (w)]) (r := (some (.int r), σ2)) rfl lx_3 rfl rfl (by decide) rfl g2 (Nat.le_of_ble_eq_true rfl) dl_282 (fun H locs hH => ?_)
  exact lv_icmp_eq (tgt := 1548) hx hb dl_285 (by decide) (fun _ => kk σ2 H locs g3 hH) (fun h => absurd rfl h)
theorem lc_2 (C : lc_C p s m meth c b L xs ad cA D) (hH : lc_S s ad cA D σ H locs) (hl : lc_L ls b ad k) (hk : 6 * k + 6 ≤ L) (hI : INV k σ) (kk : ∀ (τ : Sg) (H1 : Heap) (locs1 : List Loc), INV (k + 1) τ → lc_S s ad cA D τ H1 locs1 → W p l e room_1 s m #[Value.ref b] below meth c H1 locs1 70 6996 Q (F0 m 1548 ls [])) : W p l e room_1 s m #[Value.ref b] below meth c H locs 70 6996 Q (F0 m 290 ls []) := by
  have hx := C.1
  have hb := C.2.1
  obtain ⟨r, σ1, σ2, g1, g2, g3⟩ := I_kind hI (xs (6 * k + 1)) (xs (6 * k + 2))
  refine lv_aload_n hx hb dl_290 rfl (lv_at hl 2 rfl) ?_
  refine lc_arg C hH hl hk 1 (by decide) rfl dl_291 dl_292 dl_293 dl_294 dl_295 ?_
  refine lc_arg C hH hl hk 2 (by decide) rfl dl_296 dl_297 dl_298 dl_299 dl_300 ?_
  refine lc_call C hH hl.1 (M := 8) (o := 0) (q := mi_TO_kind) (as := [.int (xs (6 * k + 1)), .int (xs (6 * k + 2))]) (r := (some (.int r), σ1)) rfl lx_4 rfl rfl (by decide) rfl g1 (Nat.le_of_ble_eq_true rfl) dl_301 (fun H locs hH => ?_)
  refine lv_aload_n hx hb dl_304 rfl (lv_at hl 1 rfl) ?_
  refine lc_arg C hH hl hk 1 (by decide) rfl dl_305 dl_306 dl_307 dl_308 dl_309 ?_
  refine lc_arg C hH hl hk 2 (by decide) rfl dl_310 dl_311 dl_312 dl_313 dl_314 ?_
  refine lc_call C hH hl.1 (M := 144) (o := 39) (q := mi_Mod_kind) (as := [.int (xs (6 * k + 1)), .int (xs (6 * k + 2))]) (r := (some (.int r), σ2)) rfl lx_5 rfl rfl (by decide) rfl g2 (Nat.le_of_ble_eq_true rfl) dl_315 (fun H locs hH => ?_)
  exact lv_icmp_eq (tgt := 1548) hx hb dl_318 (by decide) (fun _ => kk σ2 H locs g3 hH) (fun h => absurd rfl h)
theorem lc_3 (C : lc_C p s m meth c b L xs ad cA D) (hH : lc_S s ad cA D σ H locs) (hl : lc_L ls b ad k) (hk : 6 * k + 6 ≤ L) (hI : INV k σ) (kk : ∀ (τ : Sg) (H1 : Heap) (locs1 : List Loc), INV (k + 1) τ → lc_S s ad cA D τ H1 locs1 → W p l e room_1 s m #[Value.ref b] below meth c H1 locs1 70 6996 Q (F0 m 1548 ls [])) : W p l e room_1 s m #[Value.ref b] below meth c H locs 70 6996 Q (F0 m 323 ls []) := by
  have hx := C.1
  have hb := C.2.1
  have hk9 : k < 512 := by have := C.2.2.2.2.2.2.2.2.2.2.2.2; omega
  obtain ⟨r, σ1, σ2, g1, g2, g3⟩ := I_read hk9 hI (xs (6 * k + 1)) (xs (6 * k + 2))
  refine lv_aload_n hx hb dl_323 rfl (lv_at hl 2 rfl) ?_
  refine lc_arg C hH hl hk 1 (by decide) rfl dl_324 dl_325 dl_326 dl_327 dl_328 ?_
  refine lc_arg C hH hl hk 2 (by decide) rfl dl_329 dl_330 dl_331 dl_332 dl_333 ?_
  refine lc_call C hH hl.1 (M := 12) (o := 0) (q := mi_TO_read) (as := [.int (xs (6 * k + 1)), .int (xs (6 * k + 2))]) (r := (some (.int r), σ1)) rfl lx_6 rfl rfl (by decide) rfl g1 (Nat.le_of_ble_eq_true rfl) dl_334 (fun H locs hH => ?_)
  refine lv_aload_n hx hb dl_337 rfl (lv_at hl 1 rfl) ?_
  refine lc_arg C hH hl hk 1 (by decide) rfl dl_338 dl_339 dl_340 dl_341 dl_342 ?_
  refine lc_arg C hH hl hk 2 (by decide) rfl dl_343 dl_344 dl_345 dl_346 dl_347 ?_
  refine lc_call C hH hl.1 (M := 146) (o := 39) (q := mi_Mod_read) (as := [.int (xs (6 * k + 1)), .int (xs (6 * k + 2))]) (r := (some (.int r), σ2)) rfl lx_7 rfl rfl (by decide) rfl g2 (Nat.le_of_ble_eq_true rfl) dl_348 (fun H locs hH => ?_)
  exact lv_icmp_eq (tgt := 1548) hx hb dl_351 (by decide) (fun _ => kk σ2 H locs g3 hH) (fun h => absurd rfl h)
theorem lc_4 (C : lc_C p s m meth c b L xs ad cA D) (hH : lc_S s ad cA D σ H locs) (hl : lc_L ls b ad k) (hk : 6 * k + 6 ≤ L) (hI : INV k σ) (kk : ∀ (τ : Sg) (H1 : Heap) (locs1 : List Loc), INV (k + 1) τ → lc_S s ad cA D τ H1 locs1 → W p l e room_1 s m #[Value.ref b] below meth c H1 locs1 70 6996 Q (F0 m 1548 ls [])) : W p l e room_1 s m #[Value.ref b] below meth c H locs 70 6996 Q (F0 m 356 ls []) := by
  have hx := C.1
  have hb := C.2.1
  obtain ⟨r, σ1, σ2, g1, g2, g3⟩ := I_about hI (xs (6 * k + 1)) (xs (6 * k + 2))
  refine lv_aload_n hx hb dl_356 rfl (lv_at hl 2 rfl) ?_
  refine lc_arg C hH hl hk 1 (by decide) rfl dl_357 dl_358 dl_359 dl_360 dl_361 ?_
  refine lc_arg C hH hl hk 2 (by decide) rfl dl_362 dl_363 dl_364 dl_365 dl_366 ?_
  refine lc_call C hH hl.1 (M := 17) (o := 0) (q := mi_TO_about) (as := [.int (xs (6 * k + 1)), .int (xs (6 * k + 2))]) (r := (some (.int r), σ1)) rfl lx_8 rfl rfl (by decide) rfl g1 (Nat.le_of_ble_eq_true rfl) dl_367 (fun H locs hH => ?_)
  refine lv_aload_n hx hb dl_370 rfl (lv_at hl 1 rfl) ?_
  refine lc_arg C hH hl hk 1 (by decide) rfl dl_371 dl_372 dl_373 dl_374 dl_375 ?_
  refine lc_arg C hH hl hk 2 (by decide) rfl dl_376 dl_377 dl_378 dl_379 dl_380 ?_
  refine lc_call C hH hl.1 (M := 147) (o := 39) (q := mi_Mod_about) (as := [.int (xs (6 * k + 1)), .int (xs (6 * k + 2))]) (r := (some (.int r), σ2)) rfl lx_9 rfl rfl (by decide) rfl g2 (Nat.le_of_ble_eq_true rfl) dl_381 (fun H locs hH => ?_)
  exact lv_icmp_eq (tgt := 1548) hx hb dl_384 (by decide) (fun _ => kk σ2 H locs g3 hH) (fun h => absurd rfl h)
theorem lc_5 (C : lc_C p s m meth c b L xs ad cA D) (hH : lc_S s ad cA D σ H locs) (hl : lc_L ls b ad k) (hk : 6 * k + 6 ≤ L) (hI : INV k σ) (kk : ∀ (τ : Sg) (H1 : Heap) (locs1 : List Loc), INV (k + 1) τ → lc_S s ad cA D τ H1 locs1 → W p l e room_1 s m #[Value.ref b] below meth c H1 locs1 70 6996 Q (F0 m 1548 ls [])) : W p l e room_1 s m #[Value.ref b] below meth c H locs 70 6996 Q (F0 m 389 ls []) := by
  have hx := C.1
  have hb := C.2.1
  obtain ⟨r, σ1, σ2, g1, g2, g3⟩ := I_far hI (xs (6 * k + 1)) (xs (6 * k + 2))
  refine lv_aload_n hx hb dl_389 rfl (lv_at hl 2 rfl) ?_
  refine lc_arg C hH hl hk 1 (by decide) rfl dl_390 dl_391 dl_392 dl_393 dl_394 ?_
  refine lc_arg C hH hl hk 2 (by decide) rfl dl_395 dl_396 dl_397 dl_398 dl_399 ?_
  refine lc_call C hH hl.1 (M := 20) (o := 0) (q := mi_TO_far) (as := [.int (xs (6 * k + 1)), .int (xs (6 * k + 2))]) (r := (some (.int r), σ1)) rfl lx_10 rfl rfl (by decide) rfl g1 (Nat.le_of_ble_eq_true rfl) dl_400 (fun H locs hH => ?_)
  refine lv_aload_n hx hb dl_403 rfl (lv_at hl 1 rfl) ?_
  refine lc_arg C hH hl hk 1 (by decide) rfl dl_404 dl_405 dl_406 dl_407 dl_408 ?_
  refine lc_arg C hH hl hk 2 (by decide) rfl dl_409 dl_410 dl_411 dl_412 dl_413 ?_
  refine lc_call C hH hl.1 (M := 150) (o := 39) (q := mi_Mod_far) (as := [.int (xs (6 * k + 1)), .int (xs (6 * k + 2))]) (r := (some (.int r), σ2)) rfl lx_11 rfl rfl (by decide) rfl g2 (Nat.le_of_ble_eq_true rfl) dl_414 (fun H locs hH => ?_)
  exact lv_icmp_eq (tgt := 1548) hx hb dl_417 (by decide) (fun _ => kk σ2 H locs g3 hH) (fun h => absurd rfl h)
theorem lc_6 (C : lc_C p s m meth c b L xs ad cA D) (hH : lc_S s ad cA D σ H locs) (hl : lc_L ls b ad k) (hk : 6 * k + 6 ≤ L) (hI : INV k σ) (kk : ∀ (τ : Sg) (H1 : Heap) (locs1 : List Loc), INV (k + 1) τ → lc_S s ad cA D τ H1 locs1 → W p l e room_1 s m #[Value.ref b] below meth c H1 locs1 70 6996 Q (F0 m 1548 ls [])) : W p l e room_1 s m #[Value.ref b] below meth c H locs 70 6996 Q (F0 m 422 ls []) := by
  have hx := C.1
  have hb := C.2.1
  obtain ⟨r, σ1, σ2, g1, g2, g3⟩ := I_set hI (xs (6 * k + 1)) (xs (6 * k + 2))
  refine lv_aload_n hx hb dl_422 rfl (lv_at hl 2 rfl) ?_
  refine lc_arg C hH hl hk 1 (by decide) rfl dl_423 dl_424 dl_425 dl_426 dl_427 ?_
  refine lc_arg C hH hl hk 2 (by decide) rfl dl_428 dl_429 dl_430 dl_431 dl_432 ?_
  refine lc_call C hH hl.1 (M := 23) (o := 0) (q := mi_TO_set) (as := [.int (xs (6 * k + 1)), .int (xs (6 * k + 2))]) (r := (some (.int r), σ1)) rfl lx_12 rfl rfl (by decide) rfl g1 (Nat.le_of_ble_eq_true rfl) dl_433 (fun H locs hH => ?_)
  refine lv_aload_n hx hb dl_436 rfl (lv_at hl 1 rfl) ?_
  refine lc_arg C hH hl hk 1 (by decide) rfl dl_437 dl_438 dl_439 dl_440 dl_441 ?_
  refine lc_arg C hH hl hk 2 (by decide) rfl dl_442 dl_443 dl_444 dl_445 dl_446 ?_
  refine lc_call C hH hl.1 (M := 153) (o := 39) (q := mi_Mod_set) (as := [.int (xs (6 * k + 1)), .int (xs (6 * k + 2))]) (r := (some (.int r), σ2)) rfl lx_13 rfl rfl (by decide) rfl g2 (Nat.le_of_ble_eq_true rfl) dl_447 (fun H locs hH => ?_)
  exact lv_icmp_eq (tgt := 1548) hx hb dl_450 (by decide) (fun _ => kk σ2 H locs g3 hH) (fun h => absurd rfl h)
theorem lc_7 (C : lc_C p s m meth c b L xs ad cA D) (hH : lc_S s ad cA D σ H locs) (hl : lc_L ls b ad k) (hk : 6 * k + 6 ≤ L) (hI : INV k σ) (kk : ∀ (τ : Sg) (H1 : Heap) (locs1 : List Loc), INV (k + 1) τ → lc_S s ad cA D τ H1 locs1 → W p l e room_1 s m #[Value.ref b] below meth c H1 locs1 70 6996 Q (F0 m 1548 ls [])) : W p l e room_1 s m #[Value.ref b] below meth c H locs 70 6996 Q (F0 m 455 ls []) := by
  have hx := C.1
  have hb := C.2.1
  obtain ⟨r, σ1, σ2, g1, g2, g3⟩ := I_found hI (xs (6 * k + 1)) (xs (6 * k + 2))
  refine lv_aload_n hx hb dl_455 rfl (lv_at hl 2 rfl) ?_
  refine lc_arg C hH hl hk 1 (by decide) rfl dl_456 dl_457 dl_458 dl_459 dl_460 ?_
  refine lc_arg C hH hl hk 2 (by decide) rfl dl_461 dl_462 dl_463 dl_464 dl_465 ?_
  refine lc_call C hH hl.1 (M := 28) (o := 0) (q := mi_TO_found) (as := [.int (xs (6 * k + 1)), .int (xs (6 * k + 2))]) (r := (some (.long r), σ1)) rfl lx_14 rfl rfl (by decide) rfl g1 (Nat.le_of_ble_eq_true rfl) dl_466 (fun H locs hH => ?_)
  refine lv_aload_n hx hb dl_469 rfl (lv_at hl 1 rfl) ?_
  refine lc_arg C hH hl hk 1 (by decide) rfl dl_470 dl_471 dl_472 dl_473 dl_474 ?_
  refine lc_arg C hH hl hk 2 (by decide) rfl dl_475 dl_476 dl_477 dl_478 dl_479 ?_
  refine lc_call C hH hl.1 (M := 154) (o := 39) (q := mi_Mod_found) (as := [.int (xs (6 * k + 1)), .int (xs (6 * k + 2))]) (r := (some (.long r), σ2)) rfl lx_15 rfl rfl (by decide) rfl g2 (Nat.le_of_ble_eq_true rfl) dl_480 (fun H locs hH => ?_)
  refine W.lcmp hx hb dl_483 ?_
  exact lv_if_eq (tgt := 1548) hx hb dl_484 (by decide) (fun _ => kk σ2 H locs g3 hH) (fun h => absurd (lc_cmp r) h)
theorem lc_8 (C : lc_C p s m meth c b L xs ad cA D) (hH : lc_S s ad cA D σ H locs) (hl : lc_L ls b ad k) (hk : 6 * k + 6 ≤ L) (hI : INV k σ) (kk : ∀ (τ : Sg) (H1 : Heap) (locs1 : List Loc), INV (k + 1) τ → lc_S s ad cA D τ H1 locs1 → W p l e room_1 s m #[Value.ref b] below meth c H1 locs1 70 6996 Q (F0 m 1548 ls [])) : W p l e room_1 s m #[Value.ref b] below meth c H locs 70 6996 Q (F0 m 489 ls []) := by
  have hx := C.1
  have hb := C.2.1
  obtain ⟨r, σ1, σ2, g1, g2, g3⟩ := I_both hI (xs (6 * k + 1)) (xs (6 * k + 2)) (xs (6 * k + 3))
  refine lv_aload_n hx hb dl_489 rfl (lv_at hl 2 rfl) ?_
  refine lc_arg C hH hl hk 1 (by decide) rfl dl_490 dl_491 dl_492 dl_493 dl_494 ?_
  refine lc_arg C hH hl hk 2 (by decide) rfl dl_495 dl_496 dl_497 dl_498 dl_499 ?_
  refine lc_arg C hH hl hk 3 (by decide) rfl dl_500 dl_501 dl_502 dl_503 dl_504 ?_
  refine lc_call C hH hl.1 (M := 38) (o := 0) (q := mi_TO_both) (as := [.int (xs (6 * k + 1)), .int (xs (6 * k + 2)), .int (xs (6 * k + 3))]) (r := (some (.long r), σ1)) rfl lx_16 rfl rfl (by decide) rfl g1 (Nat.le_of_ble_eq_true rfl) dl_505 (fun H locs hH => ?_)
  refine lv_aload_n hx hb dl_508 rfl (lv_at hl 1 rfl) ?_
  refine lc_arg C hH hl hk 1 (by decide) rfl dl_509 dl_510 dl_511 dl_512 dl_513 ?_
  refine lc_arg C hH hl hk 2 (by decide) rfl dl_514 dl_515 dl_516 dl_517 dl_518 ?_
  refine lc_arg C hH hl hk 3 (by decide) rfl dl_519 dl_520 dl_521 dl_522 dl_523 ?_
  refine lc_call C hH hl.1 (M := 164) (o := 39) (q := mi_Mod_both) (as := [.int (xs (6 * k + 1)), .int (xs (6 * k + 2)), .int (xs (6 * k + 3))]) (r := (some (.long r), σ2)) rfl lx_17 rfl rfl (by decide) rfl g2 (Nat.le_of_ble_eq_true rfl) dl_524 (fun H locs hH => ?_)
  refine W.lcmp hx hb dl_527 ?_
  exact lv_if_eq (tgt := 1548) hx hb dl_528 (by decide) (fun _ => kk σ2 H locs g3 hH) (fun h => absurd (lc_cmp r) h)
theorem lc_9 (C : lc_C p s m meth c b L xs ad cA D) (hH : lc_S s ad cA D σ H locs) (hl : lc_L ls b ad k) (hk : 6 * k + 6 ≤ L) (hI : INV k σ) (kk : ∀ (τ : Sg) (H1 : Heap) (locs1 : List Loc), INV (k + 1) τ → lc_S s ad cA D τ H1 locs1 → W p l e room_1 s m #[Value.ref b] below meth c H1 locs1 70 6996 Q (F0 m 1548 ls [])) : W p l e room_1 s m #[Value.ref b] below meth c H locs 70 6996 Q (F0 m 533 ls []) := by
  have hx := C.1
  have hb := C.2.1
  obtain ⟨r, σ1, σ2, g1, g2, g3⟩ := I_size hI (xs (6 * k + 1)) (xs (6 * k + 2))
  refine lv_aload_n hx hb dl_533 rfl (lv_at hl 2 rfl) ?_
  refine lc_arg C hH hl hk 1 (by decide) rfl dl_534 dl_535 dl_536 dl_537 dl_538 ?_
  refine lc_arg C hH hl hk 2 (by decide) rfl dl_539 dl_540 dl_541 dl_542 dl_543 ?_
  refine lc_call C hH hl.1 (M := 39) (o := 0) (q := mi_TO_size) (as := [.int (xs (6 * k + 1)), .int (xs (6 * k + 2))]) (r := (some (.long r), σ1)) rfl lx_18 rfl rfl (by decide) rfl g1 (Nat.le_of_ble_eq_true rfl) dl_544 (fun H locs hH => ?_)
  refine lv_aload_n hx hb dl_547 rfl (lv_at hl 1 rfl) ?_
  refine lc_arg C hH hl hk 1 (by decide) rfl dl_548 dl_549 dl_550 dl_551 dl_552 ?_
  refine lc_arg C hH hl hk 2 (by decide) rfl dl_553 dl_554 dl_555 dl_556 dl_557 ?_
  refine lc_call C hH hl.1 (M := 165) (o := 39) (q := mi_Mod_size) (as := [.int (xs (6 * k + 1)), .int (xs (6 * k + 2))]) (r := (some (.long r), σ2)) rfl lx_19 rfl rfl (by decide) rfl g2 (Nat.le_of_ble_eq_true rfl) dl_558 (fun H locs hH => ?_)
  refine W.lcmp hx hb dl_561 ?_
  exact lv_if_eq (tgt := 1548) hx hb dl_562 (by decide) (fun _ => kk σ2 H locs g3 hH) (fun h => absurd (lc_cmp r) h)
theorem lc_10 (C : lc_C p s m meth c b L xs ad cA D) (hH : lc_S s ad cA D σ H locs) (hl : lc_L ls b ad k) (hk : 6 * k + 6 ≤ L) (hI : INV k σ) (kk : ∀ (τ : Sg) (H1 : Heap) (locs1 : List Loc), INV (k + 1) τ → lc_S s ad cA D τ H1 locs1 → W p l e room_1 s m #[Value.ref b] below meth c H1 locs1 70 6996 Q (F0 m 1548 ls [])) : W p l e room_1 s m #[Value.ref b] below meth c H locs 70 6996 Q (F0 m 567 ls []) := by
  have hx := C.1
  have hb := C.2.1
  obtain ⟨r, σ1, σ2, g1, g2, g3⟩ := I_kinds hI (xs (6 * k + 1)) (xs (6 * k + 2))
  refine lv_aload_n hx hb dl_567 rfl (lv_at hl 2 rfl) ?_
  refine lc_arg C hH hl hk 1 (by decide) rfl dl_568 dl_569 dl_570 dl_571 dl_572 ?_
  refine lc_arg C hH hl hk 2 (by decide) rfl dl_573 dl_574 dl_575 dl_576 dl_577 ?_
  refine lc_call C hH hl.1 (M := 41) (o := 0) (q := mi_TO_kinds) (as := [.int (xs (6 * k + 1)), .int (xs (6 * k + 2))]) (r := (some (.long r), σ1)) rfl lx_20 rfl rfl (by decide) rfl g1 (Nat.le_of_ble_eq_true rfl) dl_578 (fun H locs hH => ?_)
  refine lv_aload_n hx hb dl_581 rfl (lv_at hl 1 rfl) ?_
  refine lc_arg C hH hl hk 1 (by decide) rfl dl_582 dl_583 dl_584 dl_585 dl_586 ?_
  refine lc_arg C hH hl hk 2 (by decide) rfl dl_587 dl_588 dl_589 dl_590 dl_591 ?_
  refine lc_call C hH hl.1 (M := 166) (o := 39) (q := mi_Mod_kinds) (as := [.int (xs (6 * k + 1)), .int (xs (6 * k + 2))]) (r := (some (.long r), σ2)) rfl lx_21 rfl rfl (by decide) rfl g2 (Nat.le_of_ble_eq_true rfl) dl_592 (fun H locs hH => ?_)
  refine W.lcmp hx hb dl_595 ?_
  exact lv_if_eq (tgt := 1548) hx hb dl_596 (by decide) (fun _ => kk σ2 H locs g3 hH) (fun h => absurd (lc_cmp r) h)
theorem lc_11 (C : lc_C p s m meth c b L xs ad cA D) (hH : lc_S s ad cA D σ H locs) (hl : lc_L ls b ad k) (hk : 6 * k + 6 ≤ L) (hI : INV k σ) (kk : ∀ (τ : Sg) (H1 : Heap) (locs1 : List Loc), INV (k + 1) τ → lc_S s ad cA D τ H1 locs1 → W p l e room_1 s m #[Value.ref b] below meth c H1 locs1 70 6996 Q (F0 m 1548 ls [])) : W p l e room_1 s m #[Value.ref b] below meth c H locs 70 6996 Q (F0 m 601 ls []) := by
  have hx := C.1
  have hb := C.2.1
  obtain ⟨r, σ1, σ2, g1, g2, g3⟩ := I_within hI (xs (6 * k + 1)) (xs (6 * k + 2))
  refine lv_aload_n hx hb dl_601 rfl (lv_at hl 2 rfl) ?_
  refine lc_arg C hH hl hk 1 (by decide) rfl dl_602 dl_603 dl_604 dl_605 dl_606 ?_
  refine lc_arg C hH hl hk 2 (by decide) rfl dl_607 dl_608 dl_609 dl_610 dl_611 ?_
  refine lc_call C hH hl.1 (M := 43) (o := 0) (q := mi_TO_within) (as := [.int (xs (6 * k + 1)), .int (xs (6 * k + 2))]) (r := (some (.long r), σ1)) rfl lx_22 rfl rfl (by decide) rfl g1 (Nat.le_of_ble_eq_true rfl) dl_612 (fun H locs hH => ?_)
  refine lv_aload_n hx hb dl_615 rfl (lv_at hl 1 rfl) ?_
  refine lc_arg C hH hl hk 1 (by decide) rfl dl_616 dl_617 dl_618 dl_619 dl_620 ?_
  refine lc_arg C hH hl hk 2 (by decide) rfl dl_621 dl_622 dl_623 dl_624 dl_625 ?_
  refine lc_call C hH hl.1 (M := 167) (o := 39) (q := mi_Mod_within) (as := [.int (xs (6 * k + 1)), .int (xs (6 * k + 2))]) (r := (some (.long r), σ2)) rfl lx_23 rfl rfl (by decide) rfl g2 (Nat.le_of_ble_eq_true rfl) dl_626 (fun H locs hH => ?_)
  refine W.lcmp hx hb dl_629 ?_
  exact lv_if_eq (tgt := 1548) hx hb dl_630 (by decide) (fun _ => kk σ2 H locs g3 hH) (fun h => absurd (lc_cmp r) h)
theorem lc_12 (C : lc_C p s m meth c b L xs ad cA D) (hH : lc_S s ad cA D σ H locs) (hl : lc_L ls b ad k) (hk : 6 * k + 6 ≤ L) (hI : INV k σ) (kk : ∀ (τ : Sg) (H1 : Heap) (locs1 : List Loc), INV (k + 1) τ → lc_S s ad cA D τ H1 locs1 → W p l e room_1 s m #[Value.ref b] below meth c H1 locs1 70 6996 Q (F0 m 1548 ls [])) : W p l e room_1 s m #[Value.ref b] below meth c H locs 70 6996 Q (F0 m 635 ls []) := by
  have hx := C.1
  have hb := C.2.1
  obtain ⟨r, σ1, σ2, g1, g2, g3⟩ := I_at hI (xs (6 * k + 1)) (xs (6 * k + 2)) (xs (6 * k + 3))
  refine lv_aload_n hx hb dl_635 rfl (lv_at hl 2 rfl) ?_
  refine lc_arg C hH hl hk 1 (by decide) rfl dl_636 dl_637 dl_638 dl_639 dl_640 ?_
  refine lc_arg C hH hl hk 2 (by decide) rfl dl_641 dl_642 dl_643 dl_644 dl_645 ?_
  refine lc_arg C hH hl hk 3 (by decide) rfl dl_646 dl_647 dl_648 dl_649 dl_650 ?_
  refine lc_call C hH hl.1 (M := 48) (o := 0) (q := mi_TO_at) (as := [.int (xs (6 * k + 1)), .int (xs (6 * k + 2)), .int (xs (6 * k + 3))]) (r := (some (.long r), σ1)) rfl lx_24 rfl rfl (by decide) rfl g1 (Nat.le_of_ble_eq_true rfl) dl_651 (fun H locs hH => ?_)
  refine lv_aload_n hx hb dl_654 rfl (lv_at hl 1 rfl) ?_
  refine lc_arg C hH hl hk 1 (by decide) rfl dl_655 dl_656 dl_657 dl_658 dl_659 ?_
  refine lc_arg C hH hl hk 2 (by decide) rfl dl_660 dl_661 dl_662 dl_663 dl_664 ?_
  refine lc_arg C hH hl hk 3 (by decide) rfl dl_665 dl_666 dl_667 dl_668 dl_669 ?_
  refine lc_call C hH hl.1 (M := 168) (o := 39) (q := mi_Mod_at) (as := [.int (xs (6 * k + 1)), .int (xs (6 * k + 2)), .int (xs (6 * k + 3))]) (r := (some (.long r), σ2)) rfl lx_25 rfl rfl (by decide) rfl g2 (Nat.le_of_ble_eq_true rfl) dl_670 (fun H locs hH => ?_)
  refine W.lcmp hx hb dl_673 ?_
  exact lv_if_eq (tgt := 1548) hx hb dl_674 (by decide) (fun _ => kk σ2 H locs g3 hH) (fun h => absurd (lc_cmp r) h)
theorem lc_13 (C : lc_C p s m meth c b L xs ad cA D) (hH : lc_S s ad cA D σ H locs) (hl : lc_L ls b ad k) (hk : 6 * k + 6 ≤ L) (hI : INV k σ) (kk : ∀ (τ : Sg) (H1 : Heap) (locs1 : List Loc), INV (k + 1) τ → lc_S s ad cA D τ H1 locs1 → W p l e room_1 s m #[Value.ref b] below meth c H1 locs1 70 6996 Q (F0 m 1548 ls [])) : W p l e room_1 s m #[Value.ref b] below meth c H locs 70 6996 Q (F0 m 679 ls []) := by
  have hx := C.1
  have hb := C.2.1
  obtain ⟨r, σ1, σ2, g1, g2, g3⟩ := I_lasting hI (xs (6 * k + 1)) (xs (6 * k + 2))
  refine lv_aload_n hx hb dl_679 rfl (lv_at hl 2 rfl) ?_
  refine lc_arg C hH hl hk 1 (by decide) rfl dl_680 dl_681 dl_682 dl_683 dl_684 ?_
  refine lc_arg C hH hl hk 2 (by decide) rfl dl_685 dl_686 dl_687 dl_688 dl_689 ?_
  refine lc_call C hH hl.1 (M := 51) (o := 0) (q := mi_TO_lasting) (as := [.int (xs (6 * k + 1)), .int (xs (6 * k + 2))]) (r := (some (.long r), σ1)) rfl lx_26 rfl rfl (by decide) rfl g1 (Nat.le_of_ble_eq_true rfl) dl_690 (fun H locs hH => ?_)
  refine lv_aload_n hx hb dl_693 rfl (lv_at hl 1 rfl) ?_
  refine lc_arg C hH hl hk 1 (by decide) rfl dl_694 dl_695 dl_696 dl_697 dl_698 ?_
  refine lc_arg C hH hl hk 2 (by decide) rfl dl_699 dl_700 dl_701 dl_702 dl_703 ?_
  refine lc_call C hH hl.1 (M := 170) (o := 39) (q := mi_Mod_lasting) (as := [.int (xs (6 * k + 1)), .int (xs (6 * k + 2))]) (r := (some (.long r), σ2)) rfl lx_27 rfl rfl (by decide) rfl g2 (Nat.le_of_ble_eq_true rfl) dl_704 (fun H locs hH => ?_)
  refine W.lcmp hx hb dl_707 ?_
  exact lv_if_eq (tgt := 1548) hx hb dl_708 (by decide) (fun _ => kk σ2 H locs g3 hH) (fun h => absurd (lc_cmp r) h)
theorem lc_14 (C : lc_C p s m meth c b L xs ad cA D) (hH : lc_S s ad cA D σ H locs) (hl : lc_L ls b ad k) (hk : 6 * k + 6 ≤ L) (hI : INV k σ) (kk : ∀ (τ : Sg) (H1 : Heap) (locs1 : List Loc), INV (k + 1) τ → lc_S s ad cA D τ H1 locs1 → W p l e room_1 s m #[Value.ref b] below meth c H1 locs1 70 6996 Q (F0 m 1548 ls [])) : W p l e room_1 s m #[Value.ref b] below meth c H locs 70 6996 Q (F0 m 713 ls []) := by
  have hx := C.1
  have hb := C.2.1
  obtain ⟨r, σ1, σ2, g1, g2, g3⟩ := I_strayed hI (xs (6 * k + 1)) (xs (6 * k + 2))
  refine lv_aload_n hx hb dl_713 rfl (lv_at hl 2 rfl) ?_
  refine lc_arg C hH hl hk 1 (by decide) rfl dl_714 dl_715 dl_716 dl_717 dl_718 ?_
  refine lc_arg C hH hl hk 2 (by decide) rfl dl_719 dl_720 dl_721 dl_722 dl_723 ?_
  refine lc_call C hH hl.1 (M := 53) (o := 0) (q := mi_TO_strayed) (as := [.int (xs (6 * k + 1)), .int (xs (6 * k + 2))]) (r := (some (.long r), σ1)) rfl lx_28 rfl rfl (by decide) rfl g1 (Nat.le_of_ble_eq_true rfl) dl_724 (fun H locs hH => ?_)
  refine lv_aload_n hx hb dl_727 rfl (lv_at hl 1 rfl) ?_
  refine lc_arg C hH hl hk 1 (by decide) rfl dl_728 dl_729 dl_730 dl_731 dl_732 ?_
  refine lc_arg C hH hl hk 2 (by decide) rfl dl_733 dl_734 dl_735 dl_736 dl_737 ?_
  refine lc_call C hH hl.1 (M := 172) (o := 39) (q := mi_Mod_strayed) (as := [.int (xs (6 * k + 1)), .int (xs (6 * k + 2))]) (r := (some (.long r), σ2)) rfl lx_29 rfl rfl (by decide) rfl g2 (Nat.le_of_ble_eq_true rfl) dl_738 (fun H locs hH => ?_)
  refine W.lcmp hx hb dl_741 ?_
  exact lv_if_eq (tgt := 1548) hx hb dl_742 (by decide) (fun _ => kk σ2 H locs g3 hH) (fun h => absurd (lc_cmp r) h)
theorem lc_15 (C : lc_C p s m meth c b L xs ad cA D) (hH : lc_S s ad cA D σ H locs) (hl : lc_L ls b ad k) (hk : 6 * k + 6 ≤ L) (hI : INV k σ) (kk : ∀ (τ : Sg) (H1 : Heap) (locs1 : List Loc), INV (k + 1) τ → lc_S s ad cA D τ H1 locs1 → W p l e room_1 s m #[Value.ref b] below meth c H1 locs1 70 6996 Q (F0 m 1548 ls [])) : W p l e room_1 s m #[Value.ref b] below meth c H locs 70 6996 Q (F0 m 747 ls []) := by
  have hx := C.1
  have hb := C.2.1
  obtain ⟨r, σ1, σ2, g1, g2, g3⟩ := I_came hI (xs (6 * k + 1)) (xs (6 * k + 2)) (xs (6 * k + 3)) (xs (6 * k + 4))
  refine lv_aload_n hx hb dl_747 rfl (lv_at hl 2 rfl) ?_
  refine lc_arg C hH hl hk 1 (by decide) rfl dl_748 dl_749 dl_750 dl_751 dl_752 ?_
  refine lc_arg C hH hl hk 2 (by decide) rfl dl_753 dl_754 dl_755 dl_756 dl_757 ?_
  refine lc_arg C hH hl hk 3 (by decide) rfl dl_758 dl_759 dl_760 dl_761 dl_762 ?_
  refine lc_arg C hH hl hk 4 (by decide) rfl dl_763 dl_764 dl_765 dl_766 dl_767 ?_
  refine lc_call C hH hl.1 (M := 56) (o := 0) (q := mi_TO_came) (as := [.int (xs (6 * k + 1)), .int (xs (6 * k + 2)), .int (xs (6 * k + 3)), .int (xs (6 * k + 4))]) (r := (some (.int r), σ1)) rfl lx_30 rfl rfl (by decide) rfl g1 (Nat.le_of_ble_eq_true rfl) dl_768 (fun H locs hH => ?_)
  refine lv_aload_n hx hb dl_771 rfl (lv_at hl 1 rfl) ?_
  refine lc_arg C hH hl hk 1 (by decide) rfl dl_772 dl_773 dl_774 dl_775 dl_776 ?_
  refine lc_arg C hH hl hk 2 (by decide) rfl dl_777 dl_778 dl_779 dl_780 dl_781 ?_
  refine lc_arg C hH hl hk 3 (by decide) rfl dl_782 dl_783 dl_784 dl_785 dl_786 ?_
  refine lc_arg C hH hl hk 4 (by decide) rfl dl_787 dl_788 dl_789 dl_790 dl_791 ?_
  refine lc_call C hH hl.1 (M := 173) (o := 39) (q := mi_Mod_came) (as := [.int (xs (6 * k + 1)), .int (xs (6 * k + 2)), .int (xs (6 * k + 3)), .int (xs (6 * k + 4))]) (r := (some (.int r), σ2)) rfl lx_31 rfl rfl (by decide) rfl g2 (Nat.le_of_ble_eq_true rfl) dl_792 (fun H locs hH => ?_)
  exact lv_icmp_eq (tgt := 1548) hx hb dl_795 (by decide) (fun _ => kk σ2 H locs g3 hH) (fun h => absurd rfl h)
theorem lc_16 (C : lc_C p s m meth c b L xs ad cA D) (hH : lc_S s ad cA D σ H locs) (hl : lc_L ls b ad k) (hk : 6 * k + 6 ≤ L) (hI : INV k σ) (kk : ∀ (τ : Sg) (H1 : Heap) (locs1 : List Loc), INV (k + 1) τ → lc_S s ad cA D τ H1 locs1 → W p l e room_1 s m #[Value.ref b] below meth c H1 locs1 70 6996 Q (F0 m 1548 ls [])) : W p l e room_1 s m #[Value.ref b] below meth c H locs 70 6996 Q (F0 m 800 ls []) := by
  have hx := C.1
  have hb := C.2.1
  obtain ⟨r, σ1, σ2, g1, g2, g3⟩ := I_takeBack hI (xs (6 * k + 1)) (xs (6 * k + 2))
  refine lv_aload_n hx hb dl_800 rfl (lv_at hl 2 rfl) ?_
  refine lc_arg C hH hl hk 1 (by decide) rfl dl_801 dl_802 dl_803 dl_804 dl_805 ?_
  refine lc_arg C hH hl hk 2 (by decide) rfl dl_806 dl_807 dl_808 dl_809 dl_810 ?_
  refine lc_call C hH hl.1 (M := 60) (o := 0) (q := mi_TO_takeBack) (as := [.int (xs (6 * k + 1)), .int (xs (6 * k + 2))]) (r := (some (.int r), σ1)) rfl lx_32 rfl rfl (by decide) rfl g1 (Nat.le_of_ble_eq_true rfl) dl_811 (fun H locs hH => ?_)
  refine lv_aload_n hx hb dl_814 rfl (lv_at hl 1 rfl) ?_
  refine lc_arg C hH hl hk 1 (by decide) rfl dl_815 dl_816 dl_817 dl_818 dl_819 ?_
  refine lc_arg C hH hl hk 2 (by decide) rfl dl_820 dl_821 dl_822 dl_823 dl_824 ?_
  refine lc_call C hH hl.1 (M := 175) (o := 39) (q := mi_Mod_takeBack) (as := [.int (xs (6 * k + 1)), .int (xs (6 * k + 2))]) (r := (some (.int r), σ2)) rfl lx_33 rfl rfl (by decide) rfl g2 (Nat.le_of_ble_eq_true rfl) dl_825 (fun H locs hH => ?_)
  exact lv_icmp_eq (tgt := 1548) hx hb dl_828 (by decide) (fun _ => kk σ2 H locs g3 hH) (fun h => absurd rfl h)
theorem lc_17 (C : lc_C p s m meth c b L xs ad cA D) (hH : lc_S s ad cA D σ H locs) (hl : lc_L ls b ad k) (hk : 6 * k + 6 ≤ L) (hI : INV k σ) (kk : ∀ (τ : Sg) (H1 : Heap) (locs1 : List Loc), INV (k + 1) τ → lc_S s ad cA D τ H1 locs1 → W p l e room_1 s m #[Value.ref b] below meth c H1 locs1 70 6996 Q (F0 m 1548 ls [])) : W p l e room_1 s m #[Value.ref b] below meth c H locs 70 6996 Q (F0 m 833 ls []) := by
  have hx := C.1
  have hb := C.2.1
  obtain ⟨r, σ1, σ2, g1, g2, g3⟩ := I_record hI (xs (6 * k + 1)) (xs (6 * k + 2))
  refine lv_aload_n hx hb dl_833 rfl (lv_at hl 2 rfl) ?_
  refine lc_arg C hH hl hk 1 (by decide) rfl dl_834 dl_835 dl_836 dl_837 dl_838 ?_
  refine lc_arg C hH hl hk 2 (by decide) rfl dl_839 dl_840 dl_841 dl_842 dl_843 ?_
  refine lc_call C hH hl.1 (M := 62) (o := 0) (q := mi_TO_record) (as := [.int (xs (6 * k + 1)), .int (xs (6 * k + 2))]) (r := (some (.int r), σ1)) rfl lx_34 rfl rfl (by decide) rfl g1 (Nat.le_of_ble_eq_true rfl) dl_844 (fun H locs hH => ?_)
  refine lv_aload_n hx hb dl_847 rfl (lv_at hl 1 rfl) ?_
  refine lc_arg C hH hl hk 1 (by decide) rfl dl_848 dl_849 dl_850 dl_851 dl_852 ?_
  refine lc_arg C hH hl hk 2 (by decide) rfl dl_853 dl_854 dl_855 dl_856 dl_857 ?_
  refine lc_call C hH hl.1 (M := 176) (o := 39) (q := mi_Mod_record) (as := [.int (xs (6 * k + 1)), .int (xs (6 * k + 2))]) (r := (some (.int r), σ2)) rfl lx_35 rfl rfl (by decide) rfl g2 (Nat.le_of_ble_eq_true rfl) dl_858 (fun H locs hH => ?_)
  exact lv_icmp_eq (tgt := 1548) hx hb dl_861 (by decide) (fun _ => kk σ2 H locs g3 hH) (fun h => absurd rfl h)
theorem lc_18 (C : lc_C p s m meth c b L xs ad cA D) (hH : lc_S s ad cA D σ H locs) (hl : lc_L ls b ad k) (hk : 6 * k + 6 ≤ L) (hI : INV k σ) (kk : ∀ (τ : Sg) (H1 : Heap) (locs1 : List Loc), INV (k + 1) τ → lc_S s ad cA D τ H1 locs1 → W p l e room_1 s m #[Value.ref b] below meth c H1 locs1 70 6996 Q (F0 m 1548 ls [])) : W p l e room_1 s m #[Value.ref b] below meth c H locs 70 6996 Q (F0 m 866 ls []) := by
  have hx := C.1
  have hb := C.2.1
  obtain ⟨r, σ1, σ2, g1, g2, g3⟩ := I_share hI (xs (6 * k + 1)) (xs (6 * k + 2))
  refine lv_aload_n hx hb dl_866 rfl (lv_at hl 2 rfl) ?_
  refine lc_arg C hH hl hk 1 (by decide) rfl dl_867 dl_868 dl_869 dl_870 dl_871 ?_
  refine lc_arg C hH hl hk 2 (by decide) rfl dl_872 dl_873 dl_874 dl_875 dl_876 ?_
  refine lc_call C hH hl.1 (M := 64) (o := 0) (q := mi_TO_share) (as := [.int (xs (6 * k + 1)), .int (xs (6 * k + 2))]) (r := (some (.long r), σ1)) rfl lx_36 rfl rfl (by decide) rfl g1 (Nat.le_of_ble_eq_true rfl) dl_877 (fun H locs hH => ?_)
  refine lv_aload_n hx hb dl_880 rfl (lv_at hl 1 rfl) ?_
  refine lc_arg C hH hl hk 1 (by decide) rfl dl_881 dl_882 dl_883 dl_884 dl_885 ?_
  refine lc_arg C hH hl hk 2 (by decide) rfl dl_886 dl_887 dl_888 dl_889 dl_890 ?_
  refine lc_call C hH hl.1 (M := 179) (o := 39) (q := mi_Mod_share) (as := [.int (xs (6 * k + 1)), .int (xs (6 * k + 2))]) (r := (some (.long r), σ2)) rfl lx_37 rfl rfl (by decide) rfl g2 (Nat.le_of_ble_eq_true rfl) dl_891 (fun H locs hH => ?_)
  refine W.lcmp hx hb dl_894 ?_
  exact lv_if_eq (tgt := 1548) hx hb dl_895 (by decide) (fun _ => kk σ2 H locs g3 hH) (fun h => absurd (lc_cmp r) h)
theorem lc_19 (C : lc_C p s m meth c b L xs ad cA D) (hH : lc_S s ad cA D σ H locs) (hl : lc_L ls b ad k) (hk : 6 * k + 6 ≤ L) (hI : INV k σ) (kk : ∀ (τ : Sg) (H1 : Heap) (locs1 : List Loc), INV (k + 1) τ → lc_S s ad cA D τ H1 locs1 → W p l e room_1 s m #[Value.ref b] below meth c H1 locs1 70 6996 Q (F0 m 1548 ls [])) : W p l e room_1 s m #[Value.ref b] below meth c H locs 70 6996 Q (F0 m 900 ls []) := by
  have hx := C.1
  have hb := C.2.1
  obtain ⟨r, σ1, σ2, g1, g2, g3⟩ := I_bounds hI (xs (6 * k + 1)) (xs (6 * k + 2)) (xs (6 * k + 3))
  refine lv_aload_n hx hb dl_900 rfl (lv_at hl 2 rfl) ?_
  refine lc_arg C hH hl hk 1 (by decide) rfl dl_901 dl_902 dl_903 dl_904 dl_905 ?_
  refine lc_arg C hH hl hk 2 (by decide) rfl dl_906 dl_907 dl_908 dl_909 dl_910 ?_
  refine lc_arg C hH hl hk 3 (by decide) rfl dl_911 dl_912 dl_913 dl_914 dl_915 ?_
  refine lc_call C hH hl.1 (M := 74) (o := 0) (q := mi_TO_bounds) (as := [.int (xs (6 * k + 1)), .int (xs (6 * k + 2)), .int (xs (6 * k + 3))]) (r := (some (.long r), σ1)) rfl lx_38 rfl rfl (by decide) rfl g1 (Nat.le_of_ble_eq_true rfl) dl_916 (fun H locs hH => ?_)
  refine lv_aload_n hx hb dl_919 rfl (lv_at hl 1 rfl) ?_
  refine lc_arg C hH hl hk 1 (by decide) rfl dl_920 dl_921 dl_922 dl_923 dl_924 ?_
  refine lc_arg C hH hl hk 2 (by decide) rfl dl_925 dl_926 dl_927 dl_928 dl_929 ?_
  refine lc_arg C hH hl hk 3 (by decide) rfl dl_930 dl_931 dl_932 dl_933 dl_934 ?_
  refine lc_call C hH hl.1 (M := 186) (o := 39) (q := mi_Mod_bounds) (as := [.int (xs (6 * k + 1)), .int (xs (6 * k + 2)), .int (xs (6 * k + 3))]) (r := (some (.long r), σ2)) rfl lx_39 rfl rfl (by decide) rfl g2 (Nat.le_of_ble_eq_true rfl) dl_935 (fun H locs hH => ?_)
  refine W.lcmp hx hb dl_938 ?_
  exact lv_if_eq (tgt := 1548) hx hb dl_939 (by decide) (fun _ => kk σ2 H locs g3 hH) (fun h => absurd (lc_cmp r) h)
theorem lc_20 (C : lc_C p s m meth c b L xs ad cA D) (hH : lc_S s ad cA D σ H locs) (hl : lc_L ls b ad k) (hk : 6 * k + 6 ≤ L) (hI : INV k σ) (kk : ∀ (τ : Sg) (H1 : Heap) (locs1 : List Loc), INV (k + 1) τ → lc_S s ad cA D τ H1 locs1 → W p l e room_1 s m #[Value.ref b] below meth c H1 locs1 70 6996 Q (F0 m 1548 ls [])) : W p l e room_1 s m #[Value.ref b] below meth c H locs 70 6996 Q (F0 m 944 ls []) := by
  have hx := C.1
  have hb := C.2.1
  obtain ⟨r, σ1, σ2, g1, g2, g3⟩ := I_leaving hI (xs (6 * k + 1)) (xs (6 * k + 2))
  refine lv_aload_n hx hb dl_944 rfl (lv_at hl 2 rfl) ?_
  refine lc_arg C hH hl hk 1 (by decide) rfl dl_945 dl_946 dl_947 dl_948 dl_949 ?_
  refine lc_arg C hH hl hk 2 (by decide) rfl dl_950 dl_951 dl_952 dl_953 dl_954 ?_
  refine lc_call C hH hl.1 (M := 76) (o := 0) (q := mi_TO_leaving) (as := [.int (xs (6 * k + 1)), .int (xs (6 * k + 2))]) (r := (some (.long r), σ1)) rfl lx_40 rfl rfl (by decide) rfl g1 (Nat.le_of_ble_eq_true rfl) dl_955 (fun H locs hH => ?_)
  refine lv_aload_n hx hb dl_958 rfl (lv_at hl 1 rfl) ?_
  refine lc_arg C hH hl hk 1 (by decide) rfl dl_959 dl_960 dl_961 dl_962 dl_963 ?_
  refine lc_arg C hH hl hk 2 (by decide) rfl dl_964 dl_965 dl_966 dl_967 dl_968 ?_
  refine lc_call C hH hl.1 (M := 187) (o := 39) (q := mi_Mod_leaving) (as := [.int (xs (6 * k + 1)), .int (xs (6 * k + 2))]) (r := (some (.long r), σ2)) rfl lx_41 rfl rfl (by decide) rfl g2 (Nat.le_of_ble_eq_true rfl) dl_969 (fun H locs hH => ?_)
  refine W.lcmp hx hb dl_972 ?_
  exact lv_if_eq (tgt := 1548) hx hb dl_973 (by decide) (fun _ => kk σ2 H locs g3 hH) (fun h => absurd (lc_cmp r) h)
theorem lc_21 (C : lc_C p s m meth c b L xs ad cA D) (hH : lc_S s ad cA D σ H locs) (hl : lc_L ls b ad k) (hk : 6 * k + 6 ≤ L) (hI : INV k σ) (kk : ∀ (τ : Sg) (H1 : Heap) (locs1 : List Loc), INV (k + 1) τ → lc_S s ad cA D τ H1 locs1 → W p l e room_1 s m #[Value.ref b] below meth c H1 locs1 70 6996 Q (F0 m 1548 ls [])) : W p l e room_1 s m #[Value.ref b] below meth c H locs 70 6996 Q (F0 m 978 ls []) := by
  have hx := C.1
  have hb := C.2.1
  obtain ⟨r, σ1, σ2, g1, g2, g3⟩ := I_alike hI (xs (6 * k + 1))
  refine lv_aload_n hx hb dl_978 rfl (lv_at hl 2 rfl) ?_
  refine lc_arg C hH hl hk 1 (by decide) rfl dl_979 dl_980 dl_981 dl_982 dl_983 ?_
  refine lc_call C hH hl.1 (M := 79) (o := 0) (q := mi_TO_alike) (as := [.int (xs (6 * k + 1))]) (r := (some (.int r), σ1)) rfl lx_42 rfl rfl (by decide) rfl g1 (Nat.le_of_ble_eq_true rfl) dl_984 (fun H locs hH => ?_)
  refine lv_aload_n hx hb dl_987 rfl (lv_at hl 1 rfl) ?_
  refine lc_arg C hH hl hk 1 (by decide) rfl dl_988 dl_989 dl_990 dl_991 dl_992 ?_
  refine lc_call C hH hl.1 (M := 190) (o := 39) (q := mi_Mod_alike) (as := [.int (xs (6 * k + 1))]) (r := (some (.int r), σ2)) rfl lx_43 rfl rfl (by decide) rfl g2 (Nat.le_of_ble_eq_true rfl) dl_993 (fun H locs hH => ?_)
  exact lv_icmp_eq (tgt := 1548) hx hb dl_996 (by decide) (fun _ => kk σ2 H locs g3 hH) (fun h => absurd rfl h)
theorem lc_22 (C : lc_C p s m meth c b L xs ad cA D) (hH : lc_S s ad cA D σ H locs) (hl : lc_L ls b ad k) (hk : 6 * k + 6 ≤ L) (hI : INV k σ) (kk : ∀ (τ : Sg) (H1 : Heap) (locs1 : List Loc), INV (k + 1) τ → lc_S s ad cA D τ H1 locs1 → W p l e room_1 s m #[Value.ref b] below meth c H1 locs1 70 6996 Q (F0 m 1548 ls [])) : W p l e room_1 s m #[Value.ref b] below meth c H locs 70 6996 Q (F0 m 1001 ls []) := by
  have hx := C.1
  have hb := C.2.1
  obtain ⟨r, σ1, σ2, g1, g2, g3⟩ := I_forgot hI (xs (6 * k + 1)) (xs (6 * k + 2))
  refine lv_aload_n hx hb dl_1001 rfl (lv_at hl 2 rfl) ?_
  refine lc_arg C hH hl hk 1 (by decide) rfl dl_1002 dl_1003 dl_1004 dl_1005 dl_1006 ?_
  refine lc_arg C hH hl hk 2 (by decide) rfl dl_1007 dl_1008 dl_1009 dl_1010 dl_1011 ?_
  refine lc_call C hH hl.1 (M := 88) (o := 0) (q := mi_TO_forgot) (as := [.int (xs (6 * k + 1)), .int (xs (6 * k + 2))]) (r := (some (.long r), σ1)) rfl lx_44 rfl rfl (by decide) rfl g1 (Nat.le_of_ble_eq_true rfl) dl_1012 (fun H locs hH => ?_)
  refine lv_aload_n hx hb dl_1015 rfl (lv_at hl 1 rfl) ?_
  refine lc_arg C hH hl hk 1 (by decide) rfl dl_1016 dl_1017 dl_1018 dl_1019 dl_1020 ?_
  refine lc_arg C hH hl hk 2 (by decide) rfl dl_1021 dl_1022 dl_1023 dl_1024 dl_1025 ?_
  refine lc_call C hH hl.1 (M := 196) (o := 39) (q := mi_Mod_forgot) (as := [.int (xs (6 * k + 1)), .int (xs (6 * k + 2))]) (r := (some (.long r), σ2)) rfl lx_45 rfl rfl (by decide) rfl g2 (Nat.le_of_ble_eq_true rfl) dl_1026 (fun H locs hH => ?_)
  refine W.lcmp hx hb dl_1029 ?_
  exact lv_if_eq (tgt := 1548) hx hb dl_1030 (by decide) (fun _ => kk σ2 H locs g3 hH) (fun h => absurd (lc_cmp r) h)
theorem lc_23 (C : lc_C p s m meth c b L xs ad cA D) (hH : lc_S s ad cA D σ H locs) (hl : lc_L ls b ad k) (hk : 6 * k + 6 ≤ L) (hI : INV k σ) (kk : ∀ (τ : Sg) (H1 : Heap) (locs1 : List Loc), INV (k + 1) τ → lc_S s ad cA D τ H1 locs1 → W p l e room_1 s m #[Value.ref b] below meth c H1 locs1 70 6996 Q (F0 m 1548 ls [])) : W p l e room_1 s m #[Value.ref b] below meth c H locs 70 6996 Q (F0 m 1035 ls []) := by
  have hx := C.1
  have hb := C.2.1
  obtain ⟨r, σ1, σ2, g1, g2, g3⟩ := I_wave hI (xs (6 * k + 1))
  refine lv_aload_n hx hb dl_1035 rfl (lv_at hl 2 rfl) ?_
  refine lc_arg C hH hl hk 1 (by decide) rfl dl_1036 dl_1037 dl_1038 dl_1039 dl_1040 ?_
  refine lc_call C hH hl.1 (M := 91) (o := 0) (q := mi_TO_wave) (as := [.int (xs (6 * k + 1))]) (r := (some (.int r), σ1)) rfl lx_46 rfl rfl (by decide) rfl g1 (Nat.le_of_ble_eq_true rfl) dl_1041 (fun H locs hH => ?_)
  refine lv_aload_n hx hb dl_1044 rfl (lv_at hl 1 rfl) ?_
  refine lc_arg C hH hl hk 1 (by decide) rfl dl_1045 dl_1046 dl_1047 dl_1048 dl_1049 ?_
  refine lc_call C hH hl.1 (M := 197) (o := 39) (q := mi_Mod_wave) (as := [.int (xs (6 * k + 1))]) (r := (some (.int r), σ2)) rfl lx_47 rfl rfl (by decide) rfl g2 (Nat.le_of_ble_eq_true rfl) dl_1050 (fun H locs hH => ?_)
  exact lv_icmp_eq (tgt := 1548) hx hb dl_1053 (by decide) (fun _ => kk σ2 H locs g3 hH) (fun h => absurd rfl h)
theorem lc_24 (C : lc_C p s m meth c b L xs ad cA D) (hH : lc_S s ad cA D σ H locs) (hl : lc_L ls b ad k) (hk : 6 * k + 6 ≤ L) (hI : INV k σ) (kk : ∀ (τ : Sg) (H1 : Heap) (locs1 : List Loc), INV (k + 1) τ → lc_S s ad cA D τ H1 locs1 → W p l e room_1 s m #[Value.ref b] below meth c H1 locs1 70 6996 Q (F0 m 1548 ls [])) : W p l e room_1 s m #[Value.ref b] below meth c H locs 70 6996 Q (F0 m 1058 ls []) := by
  have hx := C.1
  have hb := C.2.1
  obtain ⟨r, σ1, σ2, g1, g2, g3⟩ := I_type hI (xs (6 * k + 1)) (xs (6 * k + 2))
  refine lv_aload_n hx hb dl_1058 rfl (lv_at hl 2 rfl) ?_
  refine lc_arg C hH hl hk 1 (by decide) rfl dl_1059 dl_1060 dl_1061 dl_1062 dl_1063 ?_
  refine lc_arg C hH hl hk 2 (by decide) rfl dl_1064 dl_1065 dl_1066 dl_1067 dl_1068 ?_
  refine lc_call C hH hl.1 (M := 93) (o := 0) (q := mi_TO_type) (as := [.int (xs (6 * k + 1)), .int (xs (6 * k + 2))]) (r := (some (.int r), σ1)) rfl lx_48 rfl rfl (by decide) rfl g1 (Nat.le_of_ble_eq_true rfl) dl_1069 (fun H locs hH => ?_)
  refine lv_aload_n hx hb dl_1072 rfl (lv_at hl 1 rfl) ?_
  refine lc_arg C hH hl hk 1 (by decide) rfl dl_1073 dl_1074 dl_1075 dl_1076 dl_1077 ?_
  refine lc_arg C hH hl hk 2 (by decide) rfl dl_1078 dl_1079 dl_1080 dl_1081 dl_1082 ?_
  refine lc_call C hH hl.1 (M := 198) (o := 39) (q := mi_Mod_type) (as := [.int (xs (6 * k + 1)), .int (xs (6 * k + 2))]) (r := (some (.int r), σ2)) rfl lx_49 rfl rfl (by decide) rfl g2 (Nat.le_of_ble_eq_true rfl) dl_1083 (fun H locs hH => ?_)
  exact lv_icmp_eq (tgt := 1548) hx hb dl_1086 (by decide) (fun _ => kk σ2 H locs g3 hH) (fun h => absurd rfl h)
theorem lc_25 (C : lc_C p s m meth c b L xs ad cA D) (hH : lc_S s ad cA D σ H locs) (hl : lc_L ls b ad k) (hk : 6 * k + 6 ≤ L) (hI : INV k σ) (kk : ∀ (τ : Sg) (H1 : Heap) (locs1 : List Loc), INV (k + 1) τ → lc_S s ad cA D τ H1 locs1 → W p l e room_1 s m #[Value.ref b] below meth c H1 locs1 70 6996 Q (F0 m 1548 ls [])) : W p l e room_1 s m #[Value.ref b] below meth c H locs 70 6996 Q (F0 m 1091 ls []) := by
  have hx := C.1
  have hb := C.2.1
  obtain ⟨r, σ1, σ2, g1, g2, g3⟩ := I_wipe hI (xs (6 * k + 1))
  refine lv_aload_n hx hb dl_1091 rfl (lv_at hl 2 rfl) ?_
  refine lc_arg C hH hl hk 1 (by decide) rfl dl_1092 dl_1093 dl_1094 dl_1095 dl_1096 ?_
  refine lc_call C hH hl.1 (M := 96) (o := 0) (q := mi_TO_wipe) (as := [.int (xs (6 * k + 1))]) (r := (some (.int r), σ1)) rfl lx_50 rfl rfl (by decide) rfl g1 (Nat.le_of_ble_eq_true rfl) dl_1097 (fun H locs hH => ?_)
  refine lv_aload_n hx hb dl_1100 rfl (lv_at hl 1 rfl) ?_
  refine lc_arg C hH hl hk 1 (by decide) rfl dl_1101 dl_1102 dl_1103 dl_1104 dl_1105 ?_
  refine lc_call C hH hl.1 (M := 199) (o := 39) (q := mi_Mod_wipe) (as := [.int (xs (6 * k + 1))]) (r := (some (.int r), σ2)) rfl lx_51 rfl rfl (by decide) rfl g2 (Nat.le_of_ble_eq_true rfl) dl_1106 (fun H locs hH => ?_)
  exact lv_icmp_eq (tgt := 1548) hx hb dl_1109 (by decide) (fun _ => kk σ2 H locs g3 hH) (fun h => absurd rfl h)
theorem lc_26 (C : lc_C p s m meth c b L xs ad cA D) (hH : lc_S s ad cA D σ H locs) (hl : lc_L ls b ad k) (hk : 6 * k + 6 ≤ L) (hI : INV k σ) (kk : ∀ (τ : Sg) (H1 : Heap) (locs1 : List Loc), INV (k + 1) τ → lc_S s ad cA D τ H1 locs1 → W p l e room_1 s m #[Value.ref b] below meth c H1 locs1 70 6996 Q (F0 m 1548 ls [])) : W p l e room_1 s m #[Value.ref b] below meth c H locs 70 6996 Q (F0 m 1114 ls []) := by
  have hx := C.1
  have hb := C.2.1
  obtain ⟨r, σ1, σ2, g1, g2, g3⟩ := I_clash hI (xs (6 * k + 1)) (xs (6 * k + 2))
  refine lv_aload_n hx hb dl_1114 rfl (lv_at hl 2 rfl) ?_
  refine lc_arg C hH hl hk 1 (by decide) rfl dl_1115 dl_1116 dl_1117 dl_1118 dl_1119 ?_
  refine lc_arg C hH hl hk 2 (by decide) rfl dl_1120 dl_1121 dl_1122 dl_1123 dl_1124 ?_
  refine lc_call C hH hl.1 (M := 97) (o := 0) (q := mi_TO_clash) (as := [.int (xs (6 * k + 1)), .int (xs (6 * k + 2))]) (r := (some (.int r), σ1)) rfl lx_52 rfl rfl (by decide) rfl g1 (Nat.le_of_ble_eq_true rfl) dl_1125 (fun H locs hH => ?_)
  refine lv_aload_n hx hb dl_1128 rfl (lv_at hl 1 rfl) ?_
  refine lc_arg C hH hl hk 1 (by decide) rfl dl_1129 dl_1130 dl_1131 dl_1132 dl_1133 ?_
  refine lc_arg C hH hl hk 2 (by decide) rfl dl_1134 dl_1135 dl_1136 dl_1137 dl_1138 ?_
  refine lc_call C hH hl.1 (M := 200) (o := 39) (q := mi_Mod_clash) (as := [.int (xs (6 * k + 1)), .int (xs (6 * k + 2))]) (r := (some (.int r), σ2)) rfl lx_53 rfl rfl (by decide) rfl g2 (Nat.le_of_ble_eq_true rfl) dl_1139 (fun H locs hH => ?_)
  exact lv_icmp_eq (tgt := 1548) hx hb dl_1142 (by decide) (fun _ => kk σ2 H locs g3 hH) (fun h => absurd rfl h)
theorem lc_27 (C : lc_C p s m meth c b L xs ad cA D) (hH : lc_S s ad cA D σ H locs) (hl : lc_L ls b ad k) (hk : 6 * k + 6 ≤ L) (hI : INV k σ) (kk : ∀ (τ : Sg) (H1 : Heap) (locs1 : List Loc), INV (k + 1) τ → lc_S s ad cA D τ H1 locs1 → W p l e room_1 s m #[Value.ref b] below meth c H1 locs1 70 6996 Q (F0 m 1548 ls [])) : W p l e room_1 s m #[Value.ref b] below meth c H locs 70 6996 Q (F0 m 1147 ls []) := by
  have hx := C.1
  have hb := C.2.1
  obtain ⟨r, σ1, σ2, g1, g2, g3⟩ := I_least hI
  refine lv_aload_n hx hb dl_1147 rfl (lv_at hl 2 rfl) ?_
  refine lc_call C hH hl.1 (M := 99) (o := 0) (q := mi_TO_least) (as := []) (r := (some (.int r), σ1)) rfl lx_54 rfl rfl (by decide) rfl g1 (Nat.le_of_ble_eq_true rfl) dl_1148 (fun H locs hH => ?_)
  refine lv_aload_n hx hb dl_1151 rfl (lv_at hl 1 rfl) ?_
  refine lc_call C hH hl.1 (M := 202) (o := 39) (q := mi_Mod_least) (as := []) (r := (some (.int r), σ2)) rfl lx_55 rfl rfl (by decide) rfl g2 (Nat.le_of_ble_eq_true rfl) dl_1152 (fun H locs hH => ?_)
  exact lv_icmp_eq (tgt := 1548) hx hb dl_1155 (by decide) (fun _ => kk σ2 H locs g3 hH) (fun h => absurd rfl h)
theorem lc_28 (C : lc_C p s m meth c b L xs ad cA D) (hH : lc_S s ad cA D σ H locs) (hl : lc_L ls b ad k) (hk : 6 * k + 6 ≤ L) (hI : INV k σ) (kk : ∀ (τ : Sg) (H1 : Heap) (locs1 : List Loc), INV (k + 1) τ → lc_S s ad cA D τ H1 locs1 → W p l e room_1 s m #[Value.ref b] below meth c H1 locs1 70 6996 Q (F0 m 1548 ls [])) : W p l e room_1 s m #[Value.ref b] below meth c H locs 70 6996 Q (F0 m 1160 ls []) := by
  have hx := C.1
  have hb := C.2.1
  obtain ⟨r, σ1, σ2, g1, g2, g3⟩ := I_ones hI (xs (6 * k + 1))
  refine lv_aload_n hx hb dl_1160 rfl (lv_at hl 2 rfl) ?_
  refine lc_arg C hH hl hk 1 (by decide) rfl dl_1161 dl_1162 dl_1163 dl_1164 dl_1165 ?_
  refine lc_call C hH hl.1 (M := 104) (o := 0) (q := mi_TO_ones) (as := [.int (xs (6 * k + 1))]) (r := (some (.int r), σ1)) rfl lx_56 rfl rfl (by decide) rfl g1 (Nat.le_of_ble_eq_true rfl) dl_1166 (fun H locs hH => ?_)
  refine lv_aload_n hx hb dl_1169 rfl (lv_at hl 1 rfl) ?_
  refine lc_arg C hH hl hk 1 (by decide) rfl dl_1170 dl_1171 dl_1172 dl_1173 dl_1174 ?_
  refine lc_call C hH hl.1 (M := 206) (o := 39) (q := mi_Mod_ones) (as := [.int (xs (6 * k + 1))]) (r := (some (.int r), σ2)) rfl lx_57 rfl rfl (by decide) rfl g2 (Nat.le_of_ble_eq_true rfl) dl_1175 (fun H locs hH => ?_)
  exact lv_icmp_eq (tgt := 1548) hx hb dl_1178 (by decide) (fun _ => kk σ2 H locs g3 hH) (fun h => absurd rfl h)
theorem lc_29 (C : lc_C p s m meth c b L xs ad cA D) (hH : lc_S s ad cA D σ H locs) (hl : lc_L ls b ad k) (hk : 6 * k + 6 ≤ L) (hI : INV k σ) (kk : ∀ (τ : Sg) (H1 : Heap) (locs1 : List Loc), INV (k + 1) τ → lc_S s ad cA D τ H1 locs1 → W p l e room_1 s m #[Value.ref b] below meth c H1 locs1 70 6996 Q (F0 m 1548 ls [])) : W p l e room_1 s m #[Value.ref b] below meth c H locs 70 6996 Q (F0 m 1183 ls []) := by
  have hx := C.1
  have hb := C.2.1
  obtain ⟨r, σ1, σ2, g1, g2, g3⟩ := I_reach hI (xs (6 * k + 1))
  refine lv_aload_n hx hb dl_1183 rfl (lv_at hl 2 rfl) ?_
  refine lc_arg C hH hl hk 1 (by decide) rfl dl_1184 dl_1185 dl_1186 dl_1187 dl_1188 ?_
  refine lc_call C hH hl.1 (M := 106) (o := 0) (q := mi_TO_reach) (as := [.int (xs (6 * k + 1))]) (r := (some (.int r), σ1)) rfl lx_58 rfl rfl (by decide) rfl g1 (Nat.le_of_ble_eq_true rfl) dl_1189 (fun H locs hH => ?_)
  refine lv_aload_n hx hb dl_1192 rfl (lv_at hl 1 rfl) ?_
  refine lc_arg C hH hl hk 1 (by decide) rfl dl_1193 dl_1194 dl_1195 dl_1196 dl_1197 ?_
  refine lc_call C hH hl.1 (M := 207) (o := 39) (q := mi_Mod_reach) (as := [.int (xs (6 * k + 1))]) (r := (some (.int r), σ2)) rfl lx_59 rfl rfl (by decide) rfl g2 (Nat.le_of_ble_eq_true rfl) dl_1198 (fun H locs hH => ?_)
  exact lv_icmp_eq (tgt := 1548) hx hb dl_1201 (by decide) (fun _ => kk σ2 H locs g3 hH) (fun h => absurd rfl h)
theorem lc_30 (C : lc_C p s m meth c b L xs ad cA D) (hH : lc_S s ad cA D σ H locs) (hl : lc_L ls b ad k) (hk : 6 * k + 6 ≤ L) (hI : INV k σ) (kk : ∀ (τ : Sg) (H1 : Heap) (locs1 : List Loc), INV (k + 1) τ → lc_S s ad cA D τ H1 locs1 → W p l e room_1 s m #[Value.ref b] below meth c H1 locs1 70 6996 Q (F0 m 1548 ls [])) : W p l e room_1 s m #[Value.ref b] below meth c H locs 70 6996 Q (F0 m 1206 ls []) := by
  have hx := C.1
  have hb := C.2.1
  obtain ⟨r, σ1, σ2, g1, g2, g3⟩ := I_parts hI (xs (6 * k + 1))
  refine lv_aload_n hx hb dl_1206 rfl (lv_at hl 2 rfl) ?_
  refine lc_arg C hH hl hk 1 (by decide) rfl dl_1207 dl_1208 dl_1209 dl_1210 dl_1211 ?_
  refine lc_call C hH hl.1 (M := 108) (o := 0) (q := mi_TO_parts) (as := [.int (xs (6 * k + 1))]) (r := (some (.int r), σ1)) rfl lx_60 rfl rfl (by decide) rfl g1 (Nat.le_of_ble_eq_true rfl) dl_1212 (fun H locs hH => ?_)
  refine lv_aload_n hx hb dl_1215 rfl (lv_at hl 1 rfl) ?_
  refine lc_arg C hH hl hk 1 (by decide) rfl dl_1216 dl_1217 dl_1218 dl_1219 dl_1220 ?_
  refine lc_call C hH hl.1 (M := 208) (o := 39) (q := mi_Mod_parts) (as := [.int (xs (6 * k + 1))]) (r := (some (.int r), σ2)) rfl lx_61 rfl rfl (by decide) rfl g2 (Nat.le_of_ble_eq_true rfl) dl_1221 (fun H locs hH => ?_)
  exact lv_icmp_eq (tgt := 1548) hx hb dl_1224 (by decide) (fun _ => kk σ2 H locs g3 hH) (fun h => absurd rfl h)
theorem lc_31 (C : lc_C p s m meth c b L xs ad cA D) (hH : lc_S s ad cA D σ H locs) (hl : lc_L ls b ad k) (hk : 6 * k + 6 ≤ L) (hI : INV k σ) (kk : ∀ (τ : Sg) (H1 : Heap) (locs1 : List Loc), INV (k + 1) τ → lc_S s ad cA D τ H1 locs1 → W p l e room_1 s m #[Value.ref b] below meth c H1 locs1 70 6996 Q (F0 m 1548 ls [])) : W p l e room_1 s m #[Value.ref b] below meth c H locs 70 6996 Q (F0 m 1229 ls []) := by
  have hx := C.1
  have hb := C.2.1
  obtain ⟨r, σ1, σ2, g1, g2, g3⟩ := I_narrow hI (xs (6 * k + 1))
  refine lv_aload_n hx hb dl_1229 rfl (lv_at hl 2 rfl) ?_
  refine lc_arg C hH hl hk 1 (by decide) rfl dl_1230 dl_1231 dl_1232 dl_1233 dl_1234 ?_
  refine lc_call C hH hl.1 (M := 111) (o := 0) (q := mi_TO_narrow) (as := [.int (xs (6 * k + 1))]) (r := (some (.long r), σ1)) rfl lx_62 rfl rfl (by decide) rfl g1 (Nat.le_of_ble_eq_true rfl) dl_1235 (fun H locs hH => ?_)
  refine lv_aload_n hx hb dl_1238 rfl (lv_at hl 1 rfl) ?_
  refine lc_arg C hH hl hk 1 (by decide) rfl dl_1239 dl_1240 dl_1241 dl_1242 dl_1243 ?_
  refine lc_call C hH hl.1 (M := 211) (o := 39) (q := mi_Mod_narrow) (as := [.int (xs (6 * k + 1))]) (r := (some (.long r), σ2)) rfl lx_63 rfl rfl (by decide) rfl g2 (Nat.le_of_ble_eq_true rfl) dl_1244 (fun H locs hH => ?_)
  refine W.lcmp hx hb dl_1247 ?_
  exact lv_if_eq (tgt := 1548) hx hb dl_1248 (by decide) (fun _ => kk σ2 H locs g3 hH) (fun h => absurd (lc_cmp r) h)
theorem lc_32 (C : lc_C p s m meth c b L xs ad cA D) (hH : lc_S s ad cA D σ H locs) (hl : lc_L ls b ad k) (hk : 6 * k + 6 ≤ L) (hI : INV k σ) (kk : ∀ (τ : Sg) (H1 : Heap) (locs1 : List Loc), INV (k + 1) τ → lc_S s ad cA D τ H1 locs1 → W p l e room_1 s m #[Value.ref b] below meth c H1 locs1 70 6996 Q (F0 m 1548 ls [])) : W p l e room_1 s m #[Value.ref b] below meth c H locs 70 6996 Q (F0 m 1253 ls []) := by
  have hx := C.1
  have hb := C.2.1
  obtain ⟨r, σ1, σ2, g1, g2, g3⟩ := I_sheet hI (xs (6 * k + 1)) (xs (6 * k + 2)) (xs (6 * k + 3))
  refine lv_aload_n hx hb dl_1253 rfl (lv_at hl 2 rfl) ?_
  refine lc_arg C hH hl hk 1 (by decide) rfl dl_1254 dl_1255 dl_1256 dl_1257 dl_1258 ?_
  refine lc_arg C hH hl hk 2 (by decide) rfl dl_1259 dl_1260 dl_1261 dl_1262 dl_1263 ?_
  refine lc_arg C hH hl hk 3 (by decide) rfl dl_1264 dl_1265 dl_1266 dl_1267 dl_1268 ?_
  refine lc_call C hH hl.1 (M := 114) (o := 0) (q := mi_TO_sheet) (as := [.int (xs (6 * k + 1)), .int (xs (6 * k + 2)), .int (xs (6 * k + 3))]) (r := (some (.int r), σ1)) rfl lx_64 rfl rfl (by decide) rfl g1 (Nat.le_of_ble_eq_true rfl) dl_1269 (fun H locs hH => ?_)
  refine lv_aload_n hx hb dl_1272 rfl (lv_at hl 1 rfl) ?_
  refine lc_arg C hH hl hk 1 (by decide) rfl dl_1273 dl_1274 dl_1275 dl_1276 dl_1277 ?_
  refine lc_arg C hH hl hk 2 (by decide) rfl dl_1278 dl_1279 dl_1280 dl_1281 dl_1282 ?_
  refine lc_arg C hH hl hk 3 (by decide) rfl dl_1283 dl_1284 dl_1285 dl_1286 dl_1287 ?_
  refine lc_call C hH hl.1 (M := 130) (o := 39) (q := mi_Mod_sheet) (as := [.int (xs (6 * k + 1)), .int (xs (6 * k + 2)), .int (xs (6 * k + 3))]) (r := (some (.int r), σ2)) rfl lx_65 rfl rfl (by decide) rfl g2 (Nat.le_of_ble_eq_true rfl) dl_1288 (fun H locs hH => ?_)
  exact lv_icmp_eq (tgt := 1548) hx hb dl_1291 (by decide) (fun _ => kk σ2 H locs g3 hH) (fun h => absurd rfl h)
theorem lc_33 (C : lc_C p s m meth c b L xs ad cA D) (hH : lc_S s ad cA D σ H locs) (hl : lc_L ls b ad k) (hk : 6 * k + 6 ≤ L) (hI : INV k σ) (kk : ∀ (τ : Sg) (H1 : Heap) (locs1 : List Loc), INV (k + 1) τ → lc_S s ad cA D τ H1 locs1 → W p l e room_1 s m #[Value.ref b] below meth c H1 locs1 70 6996 Q (F0 m 1548 ls [])) : W p l e room_1 s m #[Value.ref b] below meth c H locs 70 6996 Q (F0 m 1296 ls []) := by
  have hx := C.1
  have hb := C.2.1
  obtain ⟨r, σ1, σ2, g1, g2, g3⟩ := I_lose hI (xs (6 * k + 1))
  refine lv_aload_n hx hb dl_1296 rfl (lv_at hl 2 rfl) ?_
  refine lc_arg C hH hl hk 1 (by decide) rfl dl_1297 dl_1298 dl_1299 dl_1300 dl_1301 ?_
  refine lc_call C hH hl.1 (M := 117) (o := 0) (q := mi_TO_lose) (as := [.int (xs (6 * k + 1))]) (r := (some (.int r), σ1)) rfl lx_66 rfl rfl (by decide) rfl g1 (Nat.le_of_ble_eq_true rfl) dl_1302 (fun H locs hH => ?_)
  refine lv_aload_n hx hb dl_1305 rfl (lv_at hl 1 rfl) ?_
  refine lc_arg C hH hl hk 1 (by decide) rfl dl_1306 dl_1307 dl_1308 dl_1309 dl_1310 ?_
  refine lc_call C hH hl.1 (M := 134) (o := 39) (q := mi_Mod_lose) (as := [.int (xs (6 * k + 1))]) (r := (some (.int r), σ2)) rfl lx_67 rfl rfl (by decide) rfl g2 (Nat.le_of_ble_eq_true rfl) dl_1311 (fun H locs hH => ?_)
  exact lv_icmp_eq (tgt := 1548) hx hb dl_1314 (by decide) (fun _ => kk σ2 H locs g3 hH) (fun h => absurd rfl h)
theorem lc_34 (C : lc_C p s m meth c b L xs ad cA D) (hH : lc_S s ad cA D σ H locs) (hl : lc_L ls b ad k) (hk : 6 * k + 6 ≤ L) (hI : INV k σ) (kk : ∀ (τ : Sg) (H1 : Heap) (locs1 : List Loc), INV (k + 1) τ → lc_S s ad cA D τ H1 locs1 → W p l e room_1 s m #[Value.ref b] below meth c H1 locs1 70 6996 Q (F0 m 1548 ls [])) : W p l e room_1 s m #[Value.ref b] below meth c H locs 70 6996 Q (F0 m 1319 ls []) := by
  have hx := C.1
  have hb := C.2.1
  obtain ⟨r, σ1, σ2, g1, g2, g3⟩ := I_lay hI (xs (6 * k + 1)) (xs (6 * k + 2)) (xs (6 * k + 3)) (xs (6 * k + 4))
  refine lv_aload_n hx hb dl_1319 rfl (lv_at hl 2 rfl) ?_
  refine lc_arg C hH hl hk 1 (by decide) rfl dl_1320 dl_1321 dl_1322 dl_1323 dl_1324 ?_
  refine lc_arg C hH hl hk 2 (by decide) rfl dl_1325 dl_1326 dl_1327 dl_1328 dl_1329 ?_
  refine lc_arg C hH hl hk 3 (by decide) rfl dl_1330 dl_1331 dl_1332 dl_1333 dl_1334 ?_
  refine lc_arg C hH hl hk 4 (by decide) rfl dl_1335 dl_1336 dl_1337 dl_1338 dl_1339 ?_
  refine lc_call C hH hl.1 (M := 118) (o := 0) (q := mi_TO_lay) (as := [.int (xs (6 * k + 1)), .int (xs (6 * k + 2)), .int (xs (6 * k + 3)), .int (xs (6 * k + 4))]) (r := (some (.int r), σ1)) rfl lx_68 rfl rfl (by decide) rfl g1 (Nat.le_of_ble_eq_true rfl) dl_1340 (fun H locs hH => ?_)
  refine lv_aload_n hx hb dl_1343 rfl (lv_at hl 1 rfl) ?_
  refine lc_arg C hH hl hk 1 (by decide) rfl dl_1344 dl_1345 dl_1346 dl_1347 dl_1348 ?_
  refine lc_arg C hH hl hk 2 (by decide) rfl dl_1349 dl_1350 dl_1351 dl_1352 dl_1353 ?_
  refine lc_arg C hH hl hk 3 (by decide) rfl dl_1354 dl_1355 dl_1356 dl_1357 dl_1358 ?_
  refine lc_arg C hH hl hk 4 (by decide) rfl dl_1359 dl_1360 dl_1361 dl_1362 dl_1363 ?_
  refine lc_call C hH hl.1 (M := 135) (o := 39) (q := mi_Mod_lay) (as := [.int (xs (6 * k + 1)), .int (xs (6 * k + 2)), .int (xs (6 * k + 3)), .int (xs (6 * k + 4))]) (r := (some (.int r), σ2)) rfl lx_69 rfl rfl (by decide) rfl g2 (Nat.le_of_ble_eq_true rfl) dl_1364 (fun H locs hH => ?_)
  exact lv_icmp_eq (tgt := 1548) hx hb dl_1367 (by decide) (fun _ => kk σ2 H locs g3 hH) (fun h => absurd rfl h)
theorem lc_35 (C : lc_C p s m meth c b L xs ad cA D) (hH : lc_S s ad cA D σ H locs) (hl : lc_L ls b ad k) (hk : 6 * k + 6 ≤ L) (hI : INV k σ) (kk : ∀ (τ : Sg) (H1 : Heap) (locs1 : List Loc), INV (k + 1) τ → lc_S s ad cA D τ H1 locs1 → W p l e room_1 s m #[Value.ref b] below meth c H1 locs1 70 6996 Q (F0 m 1548 ls [])) : W p l e room_1 s m #[Value.ref b] below meth c H locs 70 6996 Q (F0 m 1372 ls []) := by
  have hx := C.1
  have hb := C.2.1
  obtain ⟨r, σ1, σ2, g1, g2, g3⟩ := I_get hI (xs (6 * k + 1)) (xs (6 * k + 2)) (xs (6 * k + 3))
  refine lv_aload_n hx hb dl_1372 rfl (lv_at hl 2 rfl) ?_
  refine lc_arg C hH hl hk 1 (by decide) rfl dl_1373 dl_1374 dl_1375 dl_1376 dl_1377 ?_
  refine lc_arg C hH hl hk 2 (by decide) rfl dl_1378 dl_1379 dl_1380 dl_1381 dl_1382 ?_
  refine lc_arg C hH hl hk 3 (by decide) rfl dl_1383 dl_1384 dl_1385 dl_1386 dl_1387 ?_
  refine lc_call C hH hl.1 (M := 121) (o := 0) (q := mi_TO_get) (as := [.int (xs (6 * k + 1)), .int (xs (6 * k + 2)), .int (xs (6 * k + 3))]) (r := (some (.int r), σ1)) rfl lx_70 rfl rfl (by decide) rfl g1 (Nat.le_of_ble_eq_true rfl) dl_1388 (fun H locs hH => ?_)
  refine lv_aload_n hx hb dl_1391 rfl (lv_at hl 1 rfl) ?_
  refine lc_arg C hH hl hk 1 (by decide) rfl dl_1392 dl_1393 dl_1394 dl_1395 dl_1396 ?_
  refine lc_arg C hH hl hk 2 (by decide) rfl dl_1397 dl_1398 dl_1399 dl_1400 dl_1401 ?_
  refine lc_arg C hH hl hk 3 (by decide) rfl dl_1402 dl_1403 dl_1404 dl_1405 dl_1406 ?_
  refine lc_call C hH hl.1 (M := 138) (o := 39) (q := mi_Mod_get) (as := [.int (xs (6 * k + 1)), .int (xs (6 * k + 2)), .int (xs (6 * k + 3))]) (r := (some (.int r), σ2)) rfl lx_71 rfl rfl (by decide) rfl g2 (Nat.le_of_ble_eq_true rfl) dl_1407 (fun H locs hH => ?_)
  exact lv_icmp_eq (tgt := 1548) hx hb dl_1410 (by decide) (fun _ => kk σ2 H locs g3 hH) (fun h => absurd rfl h)
theorem lc_36 (C : lc_C p s m meth c b L xs ad cA D) (hH : lc_S s ad cA D σ H locs) (hl : lc_L ls b ad k) (hk : 6 * k + 6 ≤ L) (hI : INV k σ) (kk : ∀ (τ : Sg) (H1 : Heap) (locs1 : List Loc), INV (k + 1) τ → lc_S s ad cA D τ H1 locs1 → W p l e room_1 s m #[Value.ref b] below meth c H1 locs1 70 6996 Q (F0 m 1548 ls [])) : W p l e room_1 s m #[Value.ref b] below meth c H locs 70 6996 Q (F0 m 1415 ls []) := by
  have hx := C.1
  have hb := C.2.1
  obtain ⟨r, σ1, σ2, g1, g2, g3⟩ := I_copy hI (xs (6 * k + 1)) (xs (6 * k + 2)) (xs (6 * k + 3)) (xs (6 * k + 4)) (xs (6 * k + 5))
  refine lv_aload_n hx hb dl_1415 rfl (lv_at hl 2 rfl) ?_
  refine lc_arg C hH hl hk 1 (by decide) rfl dl_1416 dl_1417 dl_1418 dl_1419 dl_1420 ?_
  refine lc_arg C hH hl hk 2 (by decide) rfl dl_1421 dl_1422 dl_1423 dl_1424 dl_1425 ?_
  refine lc_arg C hH hl hk 3 (by decide) rfl dl_1426 dl_1427 dl_1428 dl_1429 dl_1430 ?_
  refine lc_arg C hH hl hk 4 (by decide) rfl dl_1431 dl_1432 dl_1433 dl_1434 dl_1435 ?_
  refine lc_arg C hH hl hk 5 (by decide) rfl dl_1436 dl_1437 dl_1438 dl_1439 dl_1440 ?_
  refine lc_call C hH hl.1 (M := 122) (o := 0) (q := mi_TO_copy) (as := [.int (xs (6 * k + 1)), .int (xs (6 * k + 2)), .int (xs (6 * k + 3)), .int (xs (6 * k + 4)), .int (xs (6 * k + 5))]) (r := (some (.int r), σ1)) rfl lx_72 rfl rfl (by decide) rfl g1 (Nat.le_of_ble_eq_true rfl) dl_1441 (fun H locs hH => ?_)
  refine lv_aload_n hx hb dl_1444 rfl (lv_at hl 1 rfl) ?_
  refine lc_arg C hH hl hk 1 (by decide) rfl dl_1445 dl_1446 dl_1447 dl_1448 dl_1449 ?_
  refine lc_arg C hH hl hk 2 (by decide) rfl dl_1450 dl_1451 dl_1452 dl_1453 dl_1454 ?_
  refine lc_arg C hH hl hk 3 (by decide) rfl dl_1455 dl_1456 dl_1457 dl_1458 dl_1459 ?_
  refine lc_arg C hH hl hk 4 (by decide) rfl dl_1460 dl_1461 dl_1462 dl_1463 dl_1464 ?_
  refine lc_arg C hH hl hk 5 (by decide) rfl dl_1465 dl_1466 dl_1467 dl_1468 dl_1469 ?_
  refine lc_call C hH hl.1 (M := 139) (o := 39) (q := mi_Mod_copy) (as := [.int (xs (6 * k + 1)), .int (xs (6 * k + 2)), .int (xs (6 * k + 3)), .int (xs (6 * k + 4)), .int (xs (6 * k + 5))]) (r := (some (.int r), σ2)) rfl lx_73 rfl rfl (by decide) rfl g2 (Nat.le_of_ble_eq_true rfl) dl_1470 (fun H locs hH => ?_)
  exact lv_icmp_eq (tgt := 1548) hx hb dl_1473 (by decide) (fun _ => kk σ2 H locs g3 hH) (fun h => absurd rfl h)
theorem lc_37 (C : lc_C p s m meth c b L xs ad cA D) (hH : lc_S s ad cA D σ H locs) (hl : lc_L ls b ad k) (hk : 6 * k + 6 ≤ L) (hI : INV k σ) (kk : ∀ (τ : Sg) (H1 : Heap) (locs1 : List Loc), INV (k + 1) τ → lc_S s ad cA D τ H1 locs1 → W p l e room_1 s m #[Value.ref b] below meth c H1 locs1 70 6996 Q (F0 m 1548 ls [])) : W p l e room_1 s m #[Value.ref b] below meth c H locs 70 6996 Q (F0 m 1478 ls []) := by
  have hx := C.1
  have hb := C.2.1
  obtain ⟨r, σ1, σ2, g1, g2, g3⟩ := I_write hI (xs (6 * k + 1)) (xs (6 * k + 2))
  refine lv_aload_n hx hb dl_1478 rfl (lv_at hl 2 rfl) ?_
  refine lc_arg C hH hl hk 1 (by decide) rfl dl_1479 dl_1480 dl_1481 dl_1482 dl_1483 ?_
  refine lc_arg C hH hl hk 2 (by decide) rfl dl_1484 dl_1485 dl_1486 dl_1487 dl_1488 ?_
  refine lc_call C hH hl.1 (M := 124) (o := 0) (q := mi_TO_write) (as := [.int (xs (6 * k + 1)), .int (xs (6 * k + 2))]) (r := (some (.int r), σ1)) rfl lx_74 rfl rfl (by decide) rfl g1 (Nat.le_of_ble_eq_true rfl) dl_1489 (fun H locs hH => ?_)
  refine lv_aload_n hx hb dl_1492 rfl (lv_at hl 1 rfl) ?_
  refine lc_arg C hH hl hk 1 (by decide) rfl dl_1493 dl_1494 dl_1495 dl_1496 dl_1497 ?_
  refine lc_arg C hH hl hk 2 (by decide) rfl dl_1498 dl_1499 dl_1500 dl_1501 dl_1502 ?_
  refine lc_call C hH hl.1 (M := 213) (o := 39) (q := mi_Mod_write) (as := [.int (xs (6 * k + 1)), .int (xs (6 * k + 2))]) (r := (some (.int r), σ2)) rfl lx_75 rfl rfl (by decide) rfl g2 (Nat.le_of_ble_eq_true rfl) dl_1503 (fun H locs hH => ?_)
  exact lv_icmp_eq (tgt := 1548) hx hb dl_1506 (by decide) (fun _ => kk σ2 H locs g3 hH) (fun h => absurd rfl h)
theorem lc_38 (C : lc_C p s m meth c b L xs ad cA D) (hH : lc_S s ad cA D σ H locs) (hl : lc_L ls b ad k) (hk : 6 * k + 6 ≤ L) (hI : INV k σ) (kk : ∀ (τ : Sg) (H1 : Heap) (locs1 : List Loc), INV (k + 1) τ → lc_S s ad cA D τ H1 locs1 → W p l e room_1 s m #[Value.ref b] below meth c H1 locs1 70 6996 Q (F0 m 1548 ls [])) : W p l e room_1 s m #[Value.ref b] below meth c H locs 70 6996 Q (F0 m 1511 ls []) := by
  have hx := C.1
  have hb := C.2.1
  obtain ⟨r, σ1, σ2, g1, g2, g3⟩ := I_count hI (xs (6 * k + 1))
  refine lv_aload_n hx hb dl_1511 rfl (lv_at hl 2 rfl) ?_
  refine lc_arg C hH hl hk 1 (by decide) rfl dl_1512 dl_1513 dl_1514 dl_1515 dl_1516 ?_
  refine lc_call C hH hl.1 (M := 125) (o := 0) (q := mi_TO_count) (as := [.int (xs (6 * k + 1))]) (r := (some (.int r), σ1)) rfl lx_76 rfl rfl (by decide) rfl g1 (Nat.le_of_ble_eq_true rfl) dl_1517 (fun H locs hH => ?_)
  refine lv_aload_n hx hb dl_1520 rfl (lv_at hl 1 rfl) ?_
  refine lc_arg C hH hl hk 1 (by decide) rfl dl_1521 dl_1522 dl_1523 dl_1524 dl_1525 ?_
  refine lc_call C hH hl.1 (M := 214) (o := 39) (q := mi_Mod_count) (as := [.int (xs (6 * k + 1))]) (r := (some (.int r), σ2)) rfl lx_77 rfl rfl (by decide) rfl g2 (Nat.le_of_ble_eq_true rfl) dl_1526 (fun H locs hH => ?_)
  exact lv_icmp_eq (tgt := 1548) hx hb dl_1529 (by decide) (fun _ => kk σ2 H locs g3 hH) (fun h => absurd rfl h)
theorem lc_39 (C : lc_C p s m meth c b L xs ad cA D) (hH : lc_S s ad cA D σ H locs) (hl : lc_L ls b ad k) (hk : 6 * k + 6 ≤ L) (hI : INV k σ) (kk : ∀ (τ : Sg) (H1 : Heap) (locs1 : List Loc), INV (k + 1) τ → lc_S s ad cA D τ H1 locs1 → W p l e room_1 s m #[Value.ref b] below meth c H1 locs1 70 6996 Q (F0 m 1548 ls [])) : W p l e room_1 s m #[Value.ref b] below meth c H locs 70 6996 Q (F0 m 1534 ls []) := by
  have hx := C.1
  have hb := C.2.1
  obtain ⟨r, σ1, σ2, g1, g2, g3⟩ := I_digest hI
  refine lv_aload_n hx hb dl_1534 rfl (lv_at hl 2 rfl) ?_
  refine lc_call C hH hl.1 (M := 127) (o := 0) (q := mi_TO_digest) (as := []) (r := (some (.long r), σ1)) rfl lx_78 rfl rfl (by decide) rfl g1 (Nat.le_of_ble_eq_true rfl) dl_1535 (fun H locs hH => ?_)
  refine lv_aload_n hx hb dl_1538 rfl (lv_at hl 1 rfl) ?_
  refine lc_call C hH hl.1 (M := 215) (o := 39) (q := mi_Mod_digest) (as := []) (r := (some (.long r), σ2)) rfl lx_79 rfl rfl (by decide) rfl g2 (Nat.le_of_ble_eq_true rfl) dl_1539 (fun H locs hH => ?_)
  refine W.lcmp hx hb dl_1542 ?_
  exact lv_if_eq (tgt := 1548) hx hb dl_1543 (by decide) (fun _ => kk σ2 H locs g3 hH) (fun h => absurd (lc_cmp r) h)
end LCB
