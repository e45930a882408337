theorem dL_law_0 : de mL_law 0 (.new 7) 3 := by decide +kernel
theorem dL_law_3 : de mL_law 3 (.dup) 1 := by decide +kernel
theorem dL_law_4 : de mL_law 4 (.invokespecial 9) 3 := by decide +kernel
theorem dL_law_7 : de mL_law 7 (.astore_n 1) 1 := by decide +kernel
theorem dL_law_8 : de mL_law 8 (.new 10) 3 := by decide +kernel
theorem dL_law_11 : de mL_law 11 (.dup) 1 := by decide +kernel
theorem dL_law_12 : de mL_law 12 (.invokespecial 12) 3 := by decide +kernel
theorem dL_law_15 : de mL_law 15 (.astore_n 2) 1 := by decide +kernel
theorem dL_law_16 : de mL_law 16 (.iconst 0) 1 := by decide +kernel
theorem dL_law_17 : de mL_law 17 (.istore_n 3) 1 := by decide +kernel
theorem dL_law_18 : de mL_law 18 (.iload_n 3) 1 := by decide +kernel
theorem dL_law_19 : de mL_law 19 (.aload_n 0) 1 := by decide +kernel
theorem dL_law_20 : de mL_law 20 (.arraylength) 1 := by decide +kernel
theorem dL_law_21 : de mL_law 21 (.bipush 6) 2 := by decide +kernel
theorem dL_law_23 : de mL_law 23 (.isub) 1 := by decide +kernel
theorem dL_law_24 : de mL_law 24 (.if_icmp .gt 1899) 3 := by decide +kernel
theorem dL_law_27 : de mL_law 27 (.aload_n 0) 1 := by decide +kernel
theorem dL_law_28 : de mL_law 28 (.iload_n 3) 1 := by decide +kernel
theorem dL_law_29 : de mL_law 29 (.iaload) 1 := by decide +kernel
theorem dL_law_30 : de mL_law 30 (.bipush 63) 2 := by decide +kernel
theorem dL_law_32 : de mL_law 32 (.iand) 1 := by decide +kernel
theorem dL_law_33 : de mL_law 33 (.tableswitch 1884 0 40 #[179, 212, 225, 258, 291, 315, 388, 461, 504, 547, 590, 633, 666, 699, 742, 805, 858, 891, 944, 997, 1030, 1063, 1126, 1169, 1202, 1235, 1288, 1331, 1364, 1397, 1440, 1463, 1506, 1529, 1562, 1605, 1678, 1712, 1775, 1808, 1861]) 179 := by decide +kernel
theorem dL_law_212 : de mL_law 212 (.aload_n 1) 1 := by decide +kernel
theorem dL_law_213 : de mL_law 213 (.aload_n 0) 1 := by decide +kernel
theorem dL_law_214 : de mL_law 214 (.iload_n 3) 1 := by decide +kernel
theorem dL_law_215 : de mL_law 215 (.iconst 1) 1 := by decide +kernel
theorem dL_law_216 : de mL_law 216 (.iadd) 1 := by decide +kernel
theorem dL_law_217 : de mL_law 217 (.iaload) 1 := by decide +kernel
theorem dL_law_218 : de mL_law 218 (.aload_n 0) 1 := by decide +kernel
theorem dL_law_219 : de mL_law 219 (.iload_n 3) 1 := by decide +kernel
theorem dL_law_220 : de mL_law 220 (.iconst 2) 1 := by decide +kernel
theorem dL_law_221 : de mL_law 221 (.iadd) 1 := by decide +kernel
theorem dL_law_222 : de mL_law 222 (.iaload) 1 := by decide +kernel
theorem dL_law_223 : de mL_law 223 (.invokevirtual 13) 3 := by decide +kernel
theorem dL_law_226 : de mL_law 226 (.aload_n 2) 1 := by decide +kernel
theorem dL_law_227 : de mL_law 227 (.aload_n 0) 1 := by decide +kernel
theorem dL_law_228 : de mL_law 228 (.iload_n 3) 1 := by decide +kernel
theorem dL_law_229 : de mL_law 229 (.iconst 1) 1 := by decide +kernel
theorem dL_law_230 : de mL_law 230 (.iadd) 1 := by decide +kernel
theorem dL_law_231 : de mL_law 231 (.iaload) 1 := by decide +kernel
theorem dL_law_232 : de mL_law 232 (.aload_n 0) 1 := by decide +kernel
theorem dL_law_233 : de mL_law 233 (.iload_n 3) 1 := by decide +kernel
theorem dL_law_234 : de mL_law 234 (.iconst 2) 1 := by decide +kernel
theorem dL_law_235 : de mL_law 235 (.iadd) 1 := by decide +kernel
theorem dL_law_236 : de mL_law 236 (.iaload) 1 := by decide +kernel
theorem dL_law_237 : de mL_law 237 (.invokevirtual 17) 3 := by decide +kernel
theorem dL_law_240 : de mL_law 240 (.if_icmp .eq 1677) 3 := by decide +kernel
theorem dL_law_243 : de mL_law 243 (.iconst 0) 1 := by decide +kernel
theorem dL_law_244 : de mL_law 244 (.ireturn) 1 := by decide +kernel
theorem dL_law_245 : de mL_law 245 (.aload_n 1) 1 := by decide +kernel
theorem dL_law_246 : de mL_law 246 (.invokevirtual 18) 3 := by decide +kernel
theorem dL_law_249 : de mL_law 249 (.aload_n 2) 1 := by decide +kernel
theorem dL_law_250 : de mL_law 250 (.invokevirtual 22) 3 := by decide +kernel
theorem dL_law_253 : de mL_law 253 (.if_icmp .eq 1664) 3 := by decide +kernel
theorem dL_law_256 : de mL_law 256 (.iconst 0) 1 := by decide +kernel
theorem dL_law_257 : de mL_law 257 (.ireturn) 1 := by decide +kernel
theorem dL_law_258 : de mL_law 258 (.aload_n 1) 1 := by decide +kernel
theorem dL_law_259 : de mL_law 259 (.aload_n 0) 1 := by decide +kernel
theorem dL_law_260 : de mL_law 260 (.iload_n 3) 1 := by decide +kernel
theorem dL_law_261 : de mL_law 261 (.iconst 1) 1 := by decide +kernel
theorem dL_law_262 : de mL_law 262 (.iadd) 1 := by decide +kernel
theorem dL_law_263 : de mL_law 263 (.iaload) 1 := by decide +kernel
theorem dL_law_264 : de mL_law 264 (.aload_n 0) 1 := by decide +kernel
theorem dL_law_265 : de mL_law 265 (.iload_n 3) 1 := by decide +kernel
theorem dL_law_266 : de mL_law 266 (.iconst 2) 1 := by decide +kernel
theorem dL_law_267 : de mL_law 267 (.iadd) 1 := by decide +kernel
theorem dL_law_268 : de mL_law 268 (.iaload) 1 := by decide +kernel
theorem dL_law_269 : de mL_law 269 (.invokevirtual 23) 3 := by decide +kernel
theorem dL_law_272 : de mL_law 272 (.aload_n 2) 1 := by decide +kernel
theorem dL_law_273 : de mL_law 273 (.aload_n 0) 1 := by decide +kernel
theorem dL_law_274 : de mL_law 274 (.iload_n 3) 1 := by decide +kernel
theorem dL_law_275 : de mL_law 275 (.iconst 1) 1 := by decide +kernel
theorem dL_law_276 : de mL_law 276 (.iadd) 1 := by decide +kernel
theorem dL_law_277 : de mL_law 277 (.iaload) 1 := by decide +kernel
theorem dL_law_278 : de mL_law 278 (.aload_n 0) 1 := by decide +kernel
theorem dL_law_279 : de mL_law 279 (.iload_n 3) 1 := by decide +kernel
theorem dL_law_280 : de mL_law 280 (.iconst 2) 1 := by decide +kernel
theorem dL_law_281 : de mL_law 281 (.iadd) 1 := by decide +kernel
theorem dL_law_282 : de mL_law 282 (.iaload) 1 := by decide +kernel
theorem dL_law_283 : de mL_law 283 (.invokevirtual 26) 3 := by decide +kernel
theorem dL_law_286 : de mL_law 286 (.if_icmp .eq 1631) 3 := by decide +kernel
theorem dL_law_289 : de mL_law 289 (.iconst 0) 1 := by decide +kernel
theorem dL_law_290 : de mL_law 290 (.ireturn) 1 := by decide +kernel
theorem dL_law_291 : de mL_law 291 (.aload_n 1) 1 := by decide +kernel
theorem dL_law_292 : de mL_law 292 (.aload_n 0) 1 := by decide +kernel
theorem dL_law_293 : de mL_law 293 (.iload_n 3) 1 := by decide +kernel
theorem dL_law_294 : de mL_law 294 (.iconst 1) 1 := by decide +kernel
theorem dL_law_295 : de mL_law 295 (.iadd) 1 := by decide +kernel
theorem dL_law_296 : de mL_law 296 (.iaload) 1 := by decide +kernel
theorem dL_law_297 : de mL_law 297 (.aload_n 0) 1 := by decide +kernel
theorem dL_law_298 : de mL_law 298 (.iload_n 3) 1 := by decide +kernel
theorem dL_law_299 : de mL_law 299 (.iconst 2) 1 := by decide +kernel
theorem dL_law_300 : de mL_law 300 (.iadd) 1 := by decide +kernel
theorem dL_law_301 : de mL_law 301 (.iaload) 1 := by decide +kernel
theorem dL_law_302 : de mL_law 302 (.invokevirtual 27) 3 := by decide +kernel
theorem dL_law_305 : de mL_law 305 (.aload_n 2) 1 := by decide +kernel
theorem dL_law_306 : de mL_law 306 (.aload_n 0) 1 := by decide +kernel
theorem dL_law_307 : de mL_law 307 (.iload_n 3) 1 := by decide +kernel
theorem dL_law_308 : de mL_law 308 (.iconst 1) 1 := by decide +kernel
theorem dL_law_309 : de mL_law 309 (.iadd) 1 := by decide +kernel
theorem dL_law_310 : de mL_law 310 (.iaload) 1 := by decide +kernel
theorem dL_law_311 : de mL_law 311 (.aload_n 0) 1 := by decide +kernel
theorem dL_law_312 : de mL_law 312 (.iload_n 3) 1 := by decide +kernel
theorem dL_law_313 : de mL_law 313 (.iconst 2) 1 := by decide +kernel
theorem dL_law_314 : de mL_law 314 (.iadd) 1 := by decide +kernel
theorem dL_law_315 : de mL_law 315 (.iaload) 1 := by decide +kernel
theorem dL_law_316 : de mL_law 316 (.invokevirtual 30) 3 := by decide +kernel
theorem dL_law_319 : de mL_law 319 (.if_icmp .eq 1598) 3 := by decide +kernel
theorem dL_law_322 : de mL_law 322 (.iconst 0) 1 := by decide +kernel
theorem dL_law_323 : de mL_law 323 (.ireturn) 1 := by decide +kernel
theorem dL_law_324 : de mL_law 324 (.aload_n 1) 1 := by decide +kernel
theorem dL_law_325 : de mL_law 325 (.aload_n 0) 1 := by decide +kernel
theorem dL_law_326 : de mL_law 326 (.iload_n 3) 1 := by decide +kernel
theorem dL_law_327 : de mL_law 327 (.iconst 1) 1 := by decide +kernel
theorem dL_law_328 : de mL_law 328 (.iadd) 1 := by decide +kernel
theorem dL_law_329 : de mL_law 329 (.iaload) 1 := by decide +kernel
theorem dL_law_330 : de mL_law 330 (.invokevirtual 31) 3 := by decide +kernel
theorem dL_law_333 : de mL_law 333 (.aload_n 2) 1 := by decide +kernel
theorem dL_law_334 : de mL_law 334 (.aload_n 0) 1 := by decide +kernel
theorem dL_law_335 : de mL_law 335 (.iload_n 3) 1 := by decide +kernel
theorem dL_law_336 : de mL_law 336 (.iconst 1) 1 := by decide +kernel
theorem dL_law_337 : de mL_law 337 (.iadd) 1 := by decide +kernel
theorem dL_law_338 : de mL_law 338 (.iaload) 1 := by decide +kernel
theorem dL_law_339 : de mL_law 339 (.invokevirtual 35) 3 := by decide +kernel
theorem dL_law_342 : de mL_law 342 (.lcmp) 1 := by decide +kernel
theorem dL_law_343 : de mL_law 343 (.ifCond .eq 1574) 3 := by decide +kernel
theorem dL_law_346 : de mL_law 346 (.iconst 0) 1 := by decide +kernel
theorem dL_law_347 : de mL_law 347 (.ireturn) 1 := by decide +kernel
theorem dL_law_348 : de mL_law 348 (.aload_n 1) 1 := by decide +kernel
theorem dL_law_349 : de mL_law 349 (.aload_n 0) 1 := by decide +kernel
theorem dL_law_350 : de mL_law 350 (.iload_n 3) 1 := by decide +kernel
theorem dL_law_351 : de mL_law 351 (.iconst 1) 1 := by decide +kernel
theorem dL_law_352 : de mL_law 352 (.iadd) 1 := by decide +kernel
theorem dL_law_353 : de mL_law 353 (.iaload) 1 := by decide +kernel
theorem dL_law_354 : de mL_law 354 (.aload_n 0) 1 := by decide +kernel
theorem dL_law_355 : de mL_law 355 (.iload_n 3) 1 := by decide +kernel
theorem dL_law_356 : de mL_law 356 (.iconst 2) 1 := by decide +kernel
theorem dL_law_357 : de mL_law 357 (.iadd) 1 := by decide +kernel
theorem dL_law_358 : de mL_law 358 (.iaload) 1 := by decide +kernel
theorem dL_law_359 : de mL_law 359 (.i2l) 1 := by decide +kernel
theorem dL_law_360 : de mL_law 360 (.bipush 32) 2 := by decide +kernel
theorem dL_law_362 : de mL_law 362 (.lshl) 1 := by decide +kernel
theorem dL_law_363 : de mL_law 363 (.aload_n 0) 1 := by decide +kernel
theorem dL_law_364 : de mL_law 364 (.iload_n 3) 1 := by decide +kernel
theorem dL_law_365 : de mL_law 365 (.iconst 3) 1 := by decide +kernel
theorem dL_law_366 : de mL_law 366 (.iadd) 1 := by decide +kernel
theorem dL_law_367 : de mL_law 367 (.iaload) 1 := by decide +kernel
theorem dL_law_368 : de mL_law 368 (.i2l) 1 := by decide +kernel
theorem dL_law_369 : de mL_law 369 (.ldc2_w 36) 3 := by decide +kernel
theorem dL_law_372 : de mL_law 372 (.land) 1 := by decide +kernel
theorem dL_law_373 : de mL_law 373 (.lor) 1 := by decide +kernel
theorem dL_law_374 : de mL_law 374 (.aload_n 0) 1 := by decide +kernel
theorem dL_law_375 : de mL_law 375 (.iload_n 3) 1 := by decide +kernel
theorem dL_law_376 : de mL_law 376 (.iconst 4) 1 := by decide +kernel
theorem dL_law_377 : de mL_law 377 (.iadd) 1 := by decide +kernel
theorem dL_law_378 : de mL_law 378 (.iaload) 1 := by decide +kernel
theorem dL_law_379 : de mL_law 379 (.invokevirtual 38) 3 := by decide +kernel
theorem dL_law_382 : de mL_law 382 (.aload_n 2) 1 := by decide +kernel
theorem dL_law_383 : de mL_law 383 (.aload_n 0) 1 := by decide +kernel
theorem dL_law_384 : de mL_law 384 (.iload_n 3) 1 := by decide +kernel
theorem dL_law_385 : de mL_law 385 (.iconst 1) 1 := by decide +kernel
theorem dL_law_386 : de mL_law 386 (.iadd) 1 := by decide +kernel
theorem dL_law_387 : de mL_law 387 (.iaload) 1 := by decide +kernel
theorem dL_law_388 : de mL_law 388 (.aload_n 0) 1 := by decide +kernel
theorem dL_law_389 : de mL_law 389 (.iload_n 3) 1 := by decide +kernel
theorem dL_law_390 : de mL_law 390 (.iconst 2) 1 := by decide +kernel
theorem dL_law_391 : de mL_law 391 (.iadd) 1 := by decide +kernel
theorem dL_law_392 : de mL_law 392 (.iaload) 1 := by decide +kernel
theorem dL_law_393 : de mL_law 393 (.i2l) 1 := by decide +kernel
theorem dL_law_394 : de mL_law 394 (.bipush 32) 2 := by decide +kernel
theorem dL_law_396 : de mL_law 396 (.lshl) 1 := by decide +kernel
theorem dL_law_397 : de mL_law 397 (.aload_n 0) 1 := by decide +kernel
theorem dL_law_398 : de mL_law 398 (.iload_n 3) 1 := by decide +kernel
theorem dL_law_399 : de mL_law 399 (.iconst 3) 1 := by decide +kernel
theorem dL_law_400 : de mL_law 400 (.iadd) 1 := by decide +kernel
theorem dL_law_401 : de mL_law 401 (.iaload) 1 := by decide +kernel
theorem dL_law_402 : de mL_law 402 (.i2l) 1 := by decide +kernel
theorem dL_law_403 : de mL_law 403 (.ldc2_w 36) 3 := by decide +kernel
theorem dL_law_406 : de mL_law 406 (.land) 1 := by decide +kernel
theorem dL_law_407 : de mL_law 407 (.lor) 1 := by decide +kernel
theorem dL_law_408 : de mL_law 408 (.aload_n 0) 1 := by decide +kernel
theorem dL_law_409 : de mL_law 409 (.iload_n 3) 1 := by decide +kernel
theorem dL_law_410 : de mL_law 410 (.iconst 4) 1 := by decide +kernel
theorem dL_law_411 : de mL_law 411 (.iadd) 1 := by decide +kernel
theorem dL_law_412 : de mL_law 412 (.iaload) 1 := by decide +kernel
theorem dL_law_413 : de mL_law 413 (.invokevirtual 42) 3 := by decide +kernel
theorem dL_law_416 : de mL_law 416 (.if_icmp .eq 1501) 3 := by decide +kernel
theorem dL_law_419 : de mL_law 419 (.iconst 0) 1 := by decide +kernel
theorem dL_law_420 : de mL_law 420 (.ireturn) 1 := by decide +kernel
theorem dL_law_421 : de mL_law 421 (.aload_n 1) 1 := by decide +kernel
theorem dL_law_422 : de mL_law 422 (.aload_n 0) 1 := by decide +kernel
theorem dL_law_423 : de mL_law 423 (.iload_n 3) 1 := by decide +kernel
theorem dL_law_424 : de mL_law 424 (.iconst 1) 1 := by decide +kernel
theorem dL_law_425 : de mL_law 425 (.iadd) 1 := by decide +kernel
theorem dL_law_426 : de mL_law 426 (.iaload) 1 := by decide +kernel
theorem dL_law_427 : de mL_law 427 (.aload_n 0) 1 := by decide +kernel
theorem dL_law_428 : de mL_law 428 (.iload_n 3) 1 := by decide +kernel
theorem dL_law_429 : de mL_law 429 (.iconst 2) 1 := by decide +kernel
theorem dL_law_430 : de mL_law 430 (.iadd) 1 := by decide +kernel
theorem dL_law_431 : de mL_law 431 (.iaload) 1 := by decide +kernel
theorem dL_law_432 : de mL_law 432 (.i2l) 1 := by decide +kernel
theorem dL_law_433 : de mL_law 433 (.bipush 32) 2 := by decide +kernel
theorem dL_law_435 : de mL_law 435 (.lshl) 1 := by decide +kernel
theorem dL_law_436 : de mL_law 436 (.aload_n 0) 1 := by decide +kernel
theorem dL_law_437 : de mL_law 437 (.iload_n 3) 1 := by decide +kernel
theorem dL_law_438 : de mL_law 438 (.iconst 3) 1 := by decide +kernel
theorem dL_law_439 : de mL_law 439 (.iadd) 1 := by decide +kernel
theorem dL_law_440 : de mL_law 440 (.iaload) 1 := by decide +kernel
theorem dL_law_441 : de mL_law 441 (.i2l) 1 := by decide +kernel
theorem dL_law_442 : de mL_law 442 (.ldc2_w 36) 3 := by decide +kernel
theorem dL_law_445 : de mL_law 445 (.land) 1 := by decide +kernel
theorem dL_law_446 : de mL_law 446 (.lor) 1 := by decide +kernel
theorem dL_law_447 : de mL_law 447 (.aload_n 0) 1 := by decide +kernel
theorem dL_law_448 : de mL_law 448 (.iload_n 3) 1 := by decide +kernel
theorem dL_law_449 : de mL_law 449 (.iconst 4) 1 := by decide +kernel
theorem dL_law_450 : de mL_law 450 (.iadd) 1 := by decide +kernel
theorem dL_law_451 : de mL_law 451 (.iaload) 1 := by decide +kernel
theorem dL_law_452 : de mL_law 452 (.invokevirtual 43) 3 := by decide +kernel
theorem dL_law_455 : de mL_law 455 (.aload_n 2) 1 := by decide +kernel
theorem dL_law_456 : de mL_law 456 (.aload_n 0) 1 := by decide +kernel
theorem dL_law_457 : de mL_law 457 (.iload_n 3) 1 := by decide +kernel
theorem dL_law_458 : de mL_law 458 (.iconst 1) 1 := by decide +kernel
theorem dL_law_459 : de mL_law 459 (.iadd) 1 := by decide +kernel
theorem dL_law_460 : de mL_law 460 (.iaload) 1 := by decide +kernel
theorem dL_law_461 : de mL_law 461 (.aload_n 0) 1 := by decide +kernel
theorem dL_law_462 : de mL_law 462 (.iload_n 3) 1 := by decide +kernel
theorem dL_law_463 : de mL_law 463 (.iconst 2) 1 := by decide +kernel
theorem dL_law_464 : de mL_law 464 (.iadd) 1 := by decide +kernel
theorem dL_law_465 : de mL_law 465 (.iaload) 1 := by decide +kernel
theorem dL_law_466 : de mL_law 466 (.i2l) 1 := by decide +kernel
theorem dL_law_467 : de mL_law 467 (.bipush 32) 2 := by decide +kernel
theorem dL_law_469 : de mL_law 469 (.lshl) 1 := by decide +kernel
theorem dL_law_470 : de mL_law 470 (.aload_n 0) 1 := by decide +kernel
theorem dL_law_471 : de mL_law 471 (.iload_n 3) 1 := by decide +kernel
theorem dL_law_472 : de mL_law 472 (.iconst 3) 1 := by decide +kernel
theorem dL_law_473 : de mL_law 473 (.iadd) 1 := by decide +kernel
theorem dL_law_474 : de mL_law 474 (.iaload) 1 := by decide +kernel
theorem dL_law_475 : de mL_law 475 (.i2l) 1 := by decide +kernel
theorem dL_law_476 : de mL_law 476 (.ldc2_w 36) 3 := by decide +kernel
theorem dL_law_479 : de mL_law 479 (.land) 1 := by decide +kernel
theorem dL_law_480 : de mL_law 480 (.lor) 1 := by decide +kernel
theorem dL_law_481 : de mL_law 481 (.aload_n 0) 1 := by decide +kernel
theorem dL_law_482 : de mL_law 482 (.iload_n 3) 1 := by decide +kernel
theorem dL_law_483 : de mL_law 483 (.iconst 4) 1 := by decide +kernel
theorem dL_law_484 : de mL_law 484 (.iadd) 1 := by decide +kernel
theorem dL_law_485 : de mL_law 485 (.iaload) 1 := by decide +kernel
theorem dL_law_486 : de mL_law 486 (.invokevirtual 46) 3 := by decide +kernel
theorem dL_law_489 : de mL_law 489 (.if_icmp .eq 1428) 3 := by decide +kernel
theorem dL_law_492 : de mL_law 492 (.iconst 0) 1 := by decide +kernel
theorem dL_law_493 : de mL_law 493 (.ireturn) 1 := by decide +kernel
theorem dL_law_494 : de mL_law 494 (.aload_n 1) 1 := by decide +kernel
theorem dL_law_495 : de mL_law 495 (.aload_n 0) 1 := by decide +kernel
theorem dL_law_496 : de mL_law 496 (.iload_n 3) 1 := by decide +kernel
theorem dL_law_497 : de mL_law 497 (.iconst 1) 1 := by decide +kernel
theorem dL_law_498 : de mL_law 498 (.iadd) 1 := by decide +kernel
theorem dL_law_499 : de mL_law 499 (.iaload) 1 := by decide +kernel
theorem dL_law_500 : de mL_law 500 (.aload_n 0) 1 := by decide +kernel
theorem dL_law_501 : de mL_law 501 (.iload_n 3) 1 := by decide +kernel
theorem dL_law_502 : de mL_law 502 (.iconst 2) 1 := by decide +kernel
theorem dL_law_503 : de mL_law 503 (.iadd) 1 := by decide +kernel
theorem dL_law_504 : de mL_law 504 (.iaload) 1 := by decide +kernel
theorem dL_law_505 : de mL_law 505 (.aload_n 0) 1 := by decide +kernel
theorem dL_law_506 : de mL_law 506 (.iload_n 3) 1 := by decide +kernel
theorem dL_law_507 : de mL_law 507 (.iconst 3) 1 := by decide +kernel
theorem dL_law_508 : de mL_law 508 (.iadd) 1 := by decide +kernel
theorem dL_law_509 : de mL_law 509 (.iaload) 1 := by decide +kernel
theorem dL_law_510 : de mL_law 510 (.invokevirtual 47) 3 := by decide +kernel
theorem dL_law_513 : de mL_law 513 (.aload_n 2) 1 := by decide +kernel
theorem dL_law_514 : de mL_law 514 (.aload_n 0) 1 := by decide +kernel
theorem dL_law_515 : de mL_law 515 (.iload_n 3) 1 := by decide +kernel
theorem dL_law_516 : de mL_law 516 (.iconst 1) 1 := by decide +kernel
theorem dL_law_517 : de mL_law 517 (.iadd) 1 := by decide +kernel
theorem dL_law_518 : de mL_law 518 (.iaload) 1 := by decide +kernel
theorem dL_law_519 : de mL_law 519 (.aload_n 0) 1 := by decide +kernel
theorem dL_law_520 : de mL_law 520 (.iload_n 3) 1 := by decide +kernel
theorem dL_law_521 : de mL_law 521 (.iconst 2) 1 := by decide +kernel
theorem dL_law_522 : de mL_law 522 (.iadd) 1 := by decide +kernel
theorem dL_law_523 : de mL_law 523 (.iaload) 1 := by decide +kernel
theorem dL_law_524 : de mL_law 524 (.aload_n 0) 1 := by decide +kernel
theorem dL_law_525 : de mL_law 525 (.iload_n 3) 1 := by decide +kernel
theorem dL_law_526 : de mL_law 526 (.iconst 3) 1 := by decide +kernel
theorem dL_law_527 : de mL_law 527 (.iadd) 1 := by decide +kernel
theorem dL_law_528 : de mL_law 528 (.iaload) 1 := by decide +kernel
theorem dL_law_529 : de mL_law 529 (.invokevirtual 51) 3 := by decide +kernel
theorem dL_law_532 : de mL_law 532 (.if_icmp .eq 1385) 3 := by decide +kernel
theorem dL_law_535 : de mL_law 535 (.iconst 0) 1 := by decide +kernel
theorem dL_law_536 : de mL_law 536 (.ireturn) 1 := by decide +kernel
theorem dL_law_537 : de mL_law 537 (.aload_n 1) 1 := by decide +kernel
theorem dL_law_538 : de mL_law 538 (.aload_n 0) 1 := by decide +kernel
theorem dL_law_539 : de mL_law 539 (.iload_n 3) 1 := by decide +kernel
theorem dL_law_540 : de mL_law 540 (.iconst 1) 1 := by decide +kernel
theorem dL_law_541 : de mL_law 541 (.iadd) 1 := by decide +kernel
theorem dL_law_542 : de mL_law 542 (.iaload) 1 := by decide +kernel
theorem dL_law_543 : de mL_law 543 (.aload_n 0) 1 := by decide +kernel
theorem dL_law_544 : de mL_law 544 (.iload_n 3) 1 := by decide +kernel
theorem dL_law_545 : de mL_law 545 (.iconst 2) 1 := by decide +kernel
theorem dL_law_546 : de mL_law 546 (.iadd) 1 := by decide +kernel
theorem dL_law_547 : de mL_law 547 (.iaload) 1 := by decide +kernel
theorem dL_law_548 : de mL_law 548 (.aload_n 0) 1 := by decide +kernel
theorem dL_law_549 : de mL_law 549 (.iload_n 3) 1 := by decide +kernel
theorem dL_law_550 : de mL_law 550 (.iconst 3) 1 := by decide +kernel
theorem dL_law_551 : de mL_law 551 (.iadd) 1 := by decide +kernel
theorem dL_law_552 : de mL_law 552 (.iaload) 1 := by decide +kernel
theorem dL_law_553 : de mL_law 553 (.invokevirtual 52) 3 := by decide +kernel
theorem dL_law_556 : de mL_law 556 (.aload_n 2) 1 := by decide +kernel
theorem dL_law_557 : de mL_law 557 (.aload_n 0) 1 := by decide +kernel
theorem dL_law_558 : de mL_law 558 (.iload_n 3) 1 := by decide +kernel
theorem dL_law_559 : de mL_law 559 (.iconst 1) 1 := by decide +kernel
theorem dL_law_560 : de mL_law 560 (.iadd) 1 := by decide +kernel
theorem dL_law_561 : de mL_law 561 (.iaload) 1 := by decide +kernel
theorem dL_law_562 : de mL_law 562 (.aload_n 0) 1 := by decide +kernel
theorem dL_law_563 : de mL_law 563 (.iload_n 3) 1 := by decide +kernel
theorem dL_law_564 : de mL_law 564 (.iconst 2) 1 := by decide +kernel
theorem dL_law_565 : de mL_law 565 (.iadd) 1 := by decide +kernel
theorem dL_law_566 : de mL_law 566 (.iaload) 1 := by decide +kernel
theorem dL_law_567 : de mL_law 567 (.aload_n 0) 1 := by decide +kernel
theorem dL_law_568 : de mL_law 568 (.iload_n 3) 1 := by decide +kernel
theorem dL_law_569 : de mL_law 569 (.iconst 3) 1 := by decide +kernel
theorem dL_law_570 : de mL_law 570 (.iadd) 1 := by decide +kernel
theorem dL_law_571 : de mL_law 571 (.iaload) 1 := by decide +kernel
theorem dL_law_572 : de mL_law 572 (.invokevirtual 55) 3 := by decide +kernel
theorem dL_law_575 : de mL_law 575 (.if_icmp .eq 1342) 3 := by decide +kernel
theorem dL_law_578 : de mL_law 578 (.iconst 0) 1 := by decide +kernel
theorem dL_law_579 : de mL_law 579 (.ireturn) 1 := by decide +kernel
theorem dL_law_580 : de mL_law 580 (.aload_n 1) 1 := by decide +kernel
theorem dL_law_581 : de mL_law 581 (.aload_n 0) 1 := by decide +kernel
theorem dL_law_582 : de mL_law 582 (.iload_n 3) 1 := by decide +kernel
theorem dL_law_583 : de mL_law 583 (.iconst 1) 1 := by decide +kernel
theorem dL_law_584 : de mL_law 584 (.iadd) 1 := by decide +kernel
theorem dL_law_585 : de mL_law 585 (.iaload) 1 := by decide +kernel
theorem dL_law_586 : de mL_law 586 (.aload_n 0) 1 := by decide +kernel
theorem dL_law_587 : de mL_law 587 (.iload_n 3) 1 := by decide +kernel
theorem dL_law_588 : de mL_law 588 (.iconst 2) 1 := by decide +kernel
theorem dL_law_589 : de mL_law 589 (.iadd) 1 := by decide +kernel
theorem dL_law_590 : de mL_law 590 (.iaload) 1 := by decide +kernel
theorem dL_law_591 : de mL_law 591 (.aload_n 0) 1 := by decide +kernel
theorem dL_law_592 : de mL_law 592 (.iload_n 3) 1 := by decide +kernel
theorem dL_law_593 : de mL_law 593 (.iconst 3) 1 := by decide +kernel
theorem dL_law_594 : de mL_law 594 (.iadd) 1 := by decide +kernel
theorem dL_law_595 : de mL_law 595 (.iaload) 1 := by decide +kernel
theorem dL_law_596 : de mL_law 596 (.invokevirtual 56) 3 := by decide +kernel
theorem dL_law_599 : de mL_law 599 (.aload_n 2) 1 := by decide +kernel
theorem dL_law_600 : de mL_law 600 (.aload_n 0) 1 := by decide +kernel
theorem dL_law_601 : de mL_law 601 (.iload_n 3) 1 := by decide +kernel
theorem dL_law_602 : de mL_law 602 (.iconst 1) 1 := by decide +kernel
theorem dL_law_603 : de mL_law 603 (.iadd) 1 := by decide +kernel
theorem dL_law_604 : de mL_law 604 (.iaload) 1 := by decide +kernel
theorem dL_law_605 : de mL_law 605 (.aload_n 0) 1 := by decide +kernel
theorem dL_law_606 : de mL_law 606 (.iload_n 3) 1 := by decide +kernel
theorem dL_law_607 : de mL_law 607 (.iconst 2) 1 := by decide +kernel
theorem dL_law_608 : de mL_law 608 (.iadd) 1 := by decide +kernel
theorem dL_law_609 : de mL_law 609 (.iaload) 1 := by decide +kernel
theorem dL_law_610 : de mL_law 610 (.aload_n 0) 1 := by decide +kernel
theorem dL_law_611 : de mL_law 611 (.iload_n 3) 1 := by decide +kernel
theorem dL_law_612 : de mL_law 612 (.iconst 3) 1 := by decide +kernel
theorem dL_law_613 : de mL_law 613 (.iadd) 1 := by decide +kernel
theorem dL_law_614 : de mL_law 614 (.iaload) 1 := by decide +kernel
theorem dL_law_615 : de mL_law 615 (.invokevirtual 59) 3 := by decide +kernel
theorem dL_law_618 : de mL_law 618 (.if_icmp .eq 1299) 3 := by decide +kernel
theorem dL_law_621 : de mL_law 621 (.iconst 0) 1 := by decide +kernel
theorem dL_law_622 : de mL_law 622 (.ireturn) 1 := by decide +kernel
theorem dL_law_623 : de mL_law 623 (.aload_n 1) 1 := by decide +kernel
theorem dL_law_624 : de mL_law 624 (.aload_n 0) 1 := by decide +kernel
theorem dL_law_625 : de mL_law 625 (.iload_n 3) 1 := by decide +kernel
theorem dL_law_626 : de mL_law 626 (.iconst 1) 1 := by decide +kernel
theorem dL_law_627 : de mL_law 627 (.iadd) 1 := by decide +kernel
theorem dL_law_628 : de mL_law 628 (.iaload) 1 := by decide +kernel
theorem dL_law_629 : de mL_law 629 (.aload_n 0) 1 := by decide +kernel
theorem dL_law_630 : de mL_law 630 (.iload_n 3) 1 := by decide +kernel
theorem dL_law_631 : de mL_law 631 (.iconst 2) 1 := by decide +kernel
theorem dL_law_632 : de mL_law 632 (.iadd) 1 := by decide +kernel
theorem dL_law_633 : de mL_law 633 (.iaload) 1 := by decide +kernel
theorem dL_law_634 : de mL_law 634 (.aload_n 0) 1 := by decide +kernel
theorem dL_law_635 : de mL_law 635 (.iload_n 3) 1 := by decide +kernel
theorem dL_law_636 : de mL_law 636 (.iconst 3) 1 := by decide +kernel
theorem dL_law_637 : de mL_law 637 (.iadd) 1 := by decide +kernel
theorem dL_law_638 : de mL_law 638 (.iaload) 1 := by decide +kernel
theorem dL_law_639 : de mL_law 639 (.invokevirtual 60) 3 := by decide +kernel
theorem dL_law_642 : de mL_law 642 (.aload_n 2) 1 := by decide +kernel
theorem dL_law_643 : de mL_law 643 (.aload_n 0) 1 := by decide +kernel
theorem dL_law_644 : de mL_law 644 (.iload_n 3) 1 := by decide +kernel
theorem dL_law_645 : de mL_law 645 (.iconst 1) 1 := by decide +kernel
theorem dL_law_646 : de mL_law 646 (.iadd) 1 := by decide +kernel
theorem dL_law_647 : de mL_law 647 (.iaload) 1 := by decide +kernel
theorem dL_law_648 : de mL_law 648 (.aload_n 0) 1 := by decide +kernel
theorem dL_law_649 : de mL_law 649 (.iload_n 3) 1 := by decide +kernel
theorem dL_law_650 : de mL_law 650 (.iconst 2) 1 := by decide +kernel
theorem dL_law_651 : de mL_law 651 (.iadd) 1 := by decide +kernel
theorem dL_law_652 : de mL_law 652 (.iaload) 1 := by decide +kernel
theorem dL_law_653 : de mL_law 653 (.aload_n 0) 1 := by decide +kernel
theorem dL_law_654 : de mL_law 654 (.iload_n 3) 1 := by decide +kernel
theorem dL_law_655 : de mL_law 655 (.iconst 3) 1 := by decide +kernel
theorem dL_law_656 : de mL_law 656 (.iadd) 1 := by decide +kernel
theorem dL_law_657 : de mL_law 657 (.iaload) 1 := by decide +kernel
theorem dL_law_658 : de mL_law 658 (.invokevirtual 63) 3 := by decide +kernel
theorem dL_law_661 : de mL_law 661 (.if_icmp .eq 1256) 3 := by decide +kernel
theorem dL_law_664 : de mL_law 664 (.iconst 0) 1 := by decide +kernel
theorem dL_law_665 : de mL_law 665 (.ireturn) 1 := by decide +kernel
theorem dL_law_666 : de mL_law 666 (.aload_n 1) 1 := by decide +kernel
theorem dL_law_667 : de mL_law 667 (.aload_n 0) 1 := by decide +kernel
theorem dL_law_668 : de mL_law 668 (.iload_n 3) 1 := by decide +kernel
theorem dL_law_669 : de mL_law 669 (.iconst 1) 1 := by decide +kernel
theorem dL_law_670 : de mL_law 670 (.iadd) 1 := by decide +kernel
theorem dL_law_671 : de mL_law 671 (.iaload) 1 := by decide +kernel
theorem dL_law_672 : de mL_law 672 (.aload_n 0) 1 := by decide +kernel
theorem dL_law_673 : de mL_law 673 (.iload_n 3) 1 := by decide +kernel
theorem dL_law_674 : de mL_law 674 (.iconst 2) 1 := by decide +kernel
theorem dL_law_675 : de mL_law 675 (.iadd) 1 := by decide +kernel
theorem dL_law_676 : de mL_law 676 (.iaload) 1 := by decide +kernel
theorem dL_law_677 : de mL_law 677 (.invokevirtual 64) 3 := by decide +kernel
theorem dL_law_680 : de mL_law 680 (.aload_n 2) 1 := by decide +kernel
theorem dL_law_681 : de mL_law 681 (.aload_n 0) 1 := by decide +kernel
theorem dL_law_682 : de mL_law 682 (.iload_n 3) 1 := by decide +kernel
theorem dL_law_683 : de mL_law 683 (.iconst 1) 1 := by decide +kernel
theorem dL_law_684 : de mL_law 684 (.iadd) 1 := by decide +kernel
theorem dL_law_685 : de mL_law 685 (.iaload) 1 := by decide +kernel
theorem dL_law_686 : de mL_law 686 (.aload_n 0) 1 := by decide +kernel
theorem dL_law_687 : de mL_law 687 (.iload_n 3) 1 := by decide +kernel
theorem dL_law_688 : de mL_law 688 (.iconst 2) 1 := by decide +kernel
theorem dL_law_689 : de mL_law 689 (.iadd) 1 := by decide +kernel
theorem dL_law_690 : de mL_law 690 (.iaload) 1 := by decide +kernel
theorem dL_law_691 : de mL_law 691 (.invokevirtual 67) 3 := by decide +kernel
theorem dL_law_694 : de mL_law 694 (.if_icmp .eq 1223) 3 := by decide +kernel
theorem dL_law_697 : de mL_law 697 (.iconst 0) 1 := by decide +kernel
theorem dL_law_698 : de mL_law 698 (.ireturn) 1 := by decide +kernel
theorem dL_law_699 : de mL_law 699 (.aload_n 1) 1 := by decide +kernel
theorem dL_law_700 : de mL_law 700 (.aload_n 0) 1 := by decide +kernel
theorem dL_law_701 : de mL_law 701 (.iload_n 3) 1 := by decide +kernel
theorem dL_law_702 : de mL_law 702 (.iconst 1) 1 := by decide +kernel
theorem dL_law_703 : de mL_law 703 (.iadd) 1 := by decide +kernel
theorem dL_law_704 : de mL_law 704 (.iaload) 1 := by decide +kernel
theorem dL_law_705 : de mL_law 705 (.aload_n 0) 1 := by decide +kernel
theorem dL_law_706 : de mL_law 706 (.iload_n 3) 1 := by decide +kernel
theorem dL_law_707 : de mL_law 707 (.iconst 2) 1 := by decide +kernel
theorem dL_law_708 : de mL_law 708 (.iadd) 1 := by decide +kernel
theorem dL_law_709 : de mL_law 709 (.iaload) 1 := by decide +kernel
theorem dL_law_710 : de mL_law 710 (.invokevirtual 68) 3 := by decide +kernel
theorem dL_law_713 : de mL_law 713 (.aload_n 2) 1 := by decide +kernel
theorem dL_law_714 : de mL_law 714 (.aload_n 0) 1 := by decide +kernel
theorem dL_law_715 : de mL_law 715 (.iload_n 3) 1 := by decide +kernel
theorem dL_law_716 : de mL_law 716 (.iconst 1) 1 := by decide +kernel
theorem dL_law_717 : de mL_law 717 (.iadd) 1 := by decide +kernel
theorem dL_law_718 : de mL_law 718 (.iaload) 1 := by decide +kernel
theorem dL_law_719 : de mL_law 719 (.aload_n 0) 1 := by decide +kernel
theorem dL_law_720 : de mL_law 720 (.iload_n 3) 1 := by decide +kernel
theorem dL_law_721 : de mL_law 721 (.iconst 2) 1 := by decide +kernel
theorem dL_law_722 : de mL_law 722 (.iadd) 1 := by decide +kernel
theorem dL_law_723 : de mL_law 723 (.iaload) 1 := by decide +kernel
theorem dL_law_724 : de mL_law 724 (.invokevirtual 71) 3 := by decide +kernel
theorem dL_law_727 : de mL_law 727 (.if_icmp .eq 1190) 3 := by decide +kernel
theorem dL_law_730 : de mL_law 730 (.iconst 0) 1 := by decide +kernel
theorem dL_law_731 : de mL_law 731 (.ireturn) 1 := by decide +kernel
theorem dL_law_732 : de mL_law 732 (.aload_n 1) 1 := by decide +kernel
theorem dL_law_733 : de mL_law 733 (.aload_n 0) 1 := by decide +kernel
theorem dL_law_734 : de mL_law 734 (.iload_n 3) 1 := by decide +kernel
theorem dL_law_735 : de mL_law 735 (.iconst 1) 1 := by decide +kernel
theorem dL_law_736 : de mL_law 736 (.iadd) 1 := by decide +kernel
theorem dL_law_737 : de mL_law 737 (.iaload) 1 := by decide +kernel
theorem dL_law_738 : de mL_law 738 (.aload_n 0) 1 := by decide +kernel
theorem dL_law_739 : de mL_law 739 (.iload_n 3) 1 := by decide +kernel
theorem dL_law_740 : de mL_law 740 (.iconst 2) 1 := by decide +kernel
theorem dL_law_741 : de mL_law 741 (.iadd) 1 := by decide +kernel
theorem dL_law_742 : de mL_law 742 (.iaload) 1 := by decide +kernel
theorem dL_law_743 : de mL_law 743 (.aload_n 0) 1 := by decide +kernel
theorem dL_law_744 : de mL_law 744 (.iload_n 3) 1 := by decide +kernel
theorem dL_law_745 : de mL_law 745 (.iconst 3) 1 := by decide +kernel
theorem dL_law_746 : de mL_law 746 (.iadd) 1 := by decide +kernel
theorem dL_law_747 : de mL_law 747 (.iaload) 1 := by decide +kernel
theorem dL_law_748 : de mL_law 748 (.invokevirtual 72) 3 := by decide +kernel
theorem dL_law_751 : de mL_law 751 (.aload_n 2) 1 := by decide +kernel
theorem dL_law_752 : de mL_law 752 (.aload_n 0) 1 := by decide +kernel
theorem dL_law_753 : de mL_law 753 (.iload_n 3) 1 := by decide +kernel
theorem dL_law_754 : de mL_law 754 (.iconst 1) 1 := by decide +kernel
theorem dL_law_755 : de mL_law 755 (.iadd) 1 := by decide +kernel
theorem dL_law_756 : de mL_law 756 (.iaload) 1 := by decide +kernel
theorem dL_law_757 : de mL_law 757 (.aload_n 0) 1 := by decide +kernel
theorem dL_law_758 : de mL_law 758 (.iload_n 3) 1 := by decide +kernel
theorem dL_law_759 : de mL_law 759 (.iconst 2) 1 := by decide +kernel
theorem dL_law_760 : de mL_law 760 (.iadd) 1 := by decide +kernel
theorem dL_law_761 : de mL_law 761 (.iaload) 1 := by decide +kernel
theorem dL_law_762 : de mL_law 762 (.aload_n 0) 1 := by decide +kernel
theorem dL_law_763 : de mL_law 763 (.iload_n 3) 1 := by decide +kernel
theorem dL_law_764 : de mL_law 764 (.iconst 3) 1 := by decide +kernel
theorem dL_law_765 : de mL_law 765 (.iadd) 1 := by decide +kernel
theorem dL_law_766 : de mL_law 766 (.iaload) 1 := by decide +kernel
theorem dL_law_767 : de mL_law 767 (.invokevirtual 75) 3 := by decide +kernel
theorem dL_law_770 : de mL_law 770 (.if_icmp .eq 1147) 3 := by decide +kernel
theorem dL_law_773 : de mL_law 773 (.iconst 0) 1 := by decide +kernel
theorem dL_law_774 : de mL_law 774 (.ireturn) 1 := by decide +kernel
theorem dL_law_775 : de mL_law 775 (.aload_n 1) 1 := by decide +kernel
theorem dL_law_776 : de mL_law 776 (.aload_n 0) 1 := by decide +kernel
theorem dL_law_777 : de mL_law 777 (.iload_n 3) 1 := by decide +kernel
theorem dL_law_778 : de mL_law 778 (.iconst 1) 1 := by decide +kernel
theorem dL_law_779 : de mL_law 779 (.iadd) 1 := by decide +kernel
theorem dL_law_780 : de mL_law 780 (.iaload) 1 := by decide +kernel
theorem dL_law_781 : de mL_law 781 (.aload_n 0) 1 := by decide +kernel
theorem dL_law_782 : de mL_law 782 (.iload_n 3) 1 := by decide +kernel
theorem dL_law_783 : de mL_law 783 (.iconst 2) 1 := by decide +kernel
theorem dL_law_784 : de mL_law 784 (.iadd) 1 := by decide +kernel
theorem dL_law_785 : de mL_law 785 (.iaload) 1 := by decide +kernel
theorem dL_law_786 : de mL_law 786 (.aload_n 0) 1 := by decide +kernel
theorem dL_law_787 : de mL_law 787 (.iload_n 3) 1 := by decide +kernel
theorem dL_law_788 : de mL_law 788 (.iconst 3) 1 := by decide +kernel
theorem dL_law_789 : de mL_law 789 (.iadd) 1 := by decide +kernel
theorem dL_law_790 : de mL_law 790 (.iaload) 1 := by decide +kernel
theorem dL_law_791 : de mL_law 791 (.aload_n 0) 1 := by decide +kernel
theorem dL_law_792 : de mL_law 792 (.iload_n 3) 1 := by decide +kernel
theorem dL_law_793 : de mL_law 793 (.iconst 4) 1 := by decide +kernel
theorem dL_law_794 : de mL_law 794 (.iadd) 1 := by decide +kernel
theorem dL_law_795 : de mL_law 795 (.iaload) 1 := by decide +kernel
theorem dL_law_796 : de mL_law 796 (.aload_n 0) 1 := by decide +kernel
theorem dL_law_797 : de mL_law 797 (.iload_n 3) 1 := by decide +kernel
theorem dL_law_798 : de mL_law 798 (.iconst 5) 1 := by decide +kernel
theorem dL_law_799 : de mL_law 799 (.iadd) 1 := by decide +kernel
theorem dL_law_800 : de mL_law 800 (.iaload) 1 := by decide +kernel
theorem dL_law_801 : de mL_law 801 (.invokevirtual 76) 3 := by decide +kernel
theorem dL_law_804 : de mL_law 804 (.aload_n 2) 1 := by decide +kernel
theorem dL_law_805 : de mL_law 805 (.aload_n 0) 1 := by decide +kernel
theorem dL_law_806 : de mL_law 806 (.iload_n 3) 1 := by decide +kernel
theorem dL_law_807 : de mL_law 807 (.iconst 1) 1 := by decide +kernel
theorem dL_law_808 : de mL_law 808 (.iadd) 1 := by decide +kernel
theorem dL_law_809 : de mL_law 809 (.iaload) 1 := by decide +kernel
theorem dL_law_810 : de mL_law 810 (.aload_n 0) 1 := by decide +kernel
theorem dL_law_811 : de mL_law 811 (.iload_n 3) 1 := by decide +kernel
theorem dL_law_812 : de mL_law 812 (.iconst 2) 1 := by decide +kernel
theorem dL_law_813 : de mL_law 813 (.iadd) 1 := by decide +kernel
theorem dL_law_814 : de mL_law 814 (.iaload) 1 := by decide +kernel
theorem dL_law_815 : de mL_law 815 (.aload_n 0) 1 := by decide +kernel
theorem dL_law_816 : de mL_law 816 (.iload_n 3) 1 := by decide +kernel
theorem dL_law_817 : de mL_law 817 (.iconst 3) 1 := by decide +kernel
theorem dL_law_818 : de mL_law 818 (.iadd) 1 := by decide +kernel
theorem dL_law_819 : de mL_law 819 (.iaload) 1 := by decide +kernel
theorem dL_law_820 : de mL_law 820 (.aload_n 0) 1 := by decide +kernel
theorem dL_law_821 : de mL_law 821 (.iload_n 3) 1 := by decide +kernel
theorem dL_law_822 : de mL_law 822 (.iconst 4) 1 := by decide +kernel
theorem dL_law_823 : de mL_law 823 (.iadd) 1 := by decide +kernel
theorem dL_law_824 : de mL_law 824 (.iaload) 1 := by decide +kernel
theorem dL_law_825 : de mL_law 825 (.aload_n 0) 1 := by decide +kernel
theorem dL_law_826 : de mL_law 826 (.iload_n 3) 1 := by decide +kernel
theorem dL_law_827 : de mL_law 827 (.iconst 5) 1 := by decide +kernel
theorem dL_law_828 : de mL_law 828 (.iadd) 1 := by decide +kernel
theorem dL_law_829 : de mL_law 829 (.iaload) 1 := by decide +kernel
theorem dL_law_830 : de mL_law 830 (.invokevirtual 80) 3 := by decide +kernel
theorem dL_law_833 : de mL_law 833 (.if_icmp .eq 1084) 3 := by decide +kernel
theorem dL_law_836 : de mL_law 836 (.iconst 0) 1 := by decide +kernel
theorem dL_law_837 : de mL_law 837 (.ireturn) 1 := by decide +kernel
theorem dL_law_838 : de mL_law 838 (.aload_n 1) 1 := by decide +kernel
theorem dL_law_839 : de mL_law 839 (.aload_n 0) 1 := by decide +kernel
theorem dL_law_840 : de mL_law 840 (.iload_n 3) 1 := by decide +kernel
theorem dL_law_841 : de mL_law 841 (.iconst 1) 1 := by decide +kernel
theorem dL_law_842 : de mL_law 842 (.iadd) 1 := by decide +kernel
theorem dL_law_843 : de mL_law 843 (.iaload) 1 := by decide +kernel
theorem dL_law_844 : de mL_law 844 (.aload_n 0) 1 := by decide +kernel
theorem dL_law_845 : de mL_law 845 (.iload_n 3) 1 := by decide +kernel
theorem dL_law_846 : de mL_law 846 (.iconst 2) 1 := by decide +kernel
theorem dL_law_847 : de mL_law 847 (.iadd) 1 := by decide +kernel
theorem dL_law_848 : de mL_law 848 (.iaload) 1 := by decide +kernel
theorem dL_law_849 : de mL_law 849 (.aload_n 0) 1 := by decide +kernel
theorem dL_law_850 : de mL_law 850 (.iload_n 3) 1 := by decide +kernel
theorem dL_law_851 : de mL_law 851 (.iconst 3) 1 := by decide +kernel
theorem dL_law_852 : de mL_law 852 (.iadd) 1 := by decide +kernel
theorem dL_law_853 : de mL_law 853 (.iaload) 1 := by decide +kernel
theorem dL_law_854 : de mL_law 854 (.aload_n 0) 1 := by decide +kernel
theorem dL_law_855 : de mL_law 855 (.iload_n 3) 1 := by decide +kernel
theorem dL_law_856 : de mL_law 856 (.iconst 4) 1 := by decide +kernel
theorem dL_law_857 : de mL_law 857 (.iadd) 1 := by decide +kernel
theorem dL_law_858 : de mL_law 858 (.iaload) 1 := by decide +kernel
theorem dL_law_859 : de mL_law 859 (.invokevirtual 81) 3 := by decide +kernel
theorem dL_law_862 : de mL_law 862 (.aload_n 2) 1 := by decide +kernel
theorem dL_law_863 : de mL_law 863 (.aload_n 0) 1 := by decide +kernel
theorem dL_law_864 : de mL_law 864 (.iload_n 3) 1 := by decide +kernel
theorem dL_law_865 : de mL_law 865 (.iconst 1) 1 := by decide +kernel
theorem dL_law_866 : de mL_law 866 (.iadd) 1 := by decide +kernel
theorem dL_law_867 : de mL_law 867 (.iaload) 1 := by decide +kernel
theorem dL_law_868 : de mL_law 868 (.aload_n 0) 1 := by decide +kernel
theorem dL_law_869 : de mL_law 869 (.iload_n 3) 1 := by decide +kernel
theorem dL_law_870 : de mL_law 870 (.iconst 2) 1 := by decide +kernel
theorem dL_law_871 : de mL_law 871 (.iadd) 1 := by decide +kernel
theorem dL_law_872 : de mL_law 872 (.iaload) 1 := by decide +kernel
theorem dL_law_873 : de mL_law 873 (.aload_n 0) 1 := by decide +kernel
theorem dL_law_874 : de mL_law 874 (.iload_n 3) 1 := by decide +kernel
theorem dL_law_875 : de mL_law 875 (.iconst 3) 1 := by decide +kernel
theorem dL_law_876 : de mL_law 876 (.iadd) 1 := by decide +kernel
theorem dL_law_877 : de mL_law 877 (.iaload) 1 := by decide +kernel
theorem dL_law_878 : de mL_law 878 (.aload_n 0) 1 := by decide +kernel
theorem dL_law_879 : de mL_law 879 (.iload_n 3) 1 := by decide +kernel
theorem dL_law_880 : de mL_law 880 (.iconst 4) 1 := by decide +kernel
theorem dL_law_881 : de mL_law 881 (.iadd) 1 := by decide +kernel
theorem dL_law_882 : de mL_law 882 (.iaload) 1 := by decide +kernel
theorem dL_law_883 : de mL_law 883 (.invokevirtual 85) 3 := by decide +kernel
theorem dL_law_886 : de mL_law 886 (.if_icmp .eq 1031) 3 := by decide +kernel
theorem dL_law_889 : de mL_law 889 (.iconst 0) 1 := by decide +kernel
theorem dL_law_890 : de mL_law 890 (.ireturn) 1 := by decide +kernel
theorem dL_law_891 : de mL_law 891 (.aload_n 1) 1 := by decide +kernel
theorem dL_law_892 : de mL_law 892 (.aload_n 0) 1 := by decide +kernel
theorem dL_law_893 : de mL_law 893 (.iload_n 3) 1 := by decide +kernel
theorem dL_law_894 : de mL_law 894 (.iconst 1) 1 := by decide +kernel
theorem dL_law_895 : de mL_law 895 (.iadd) 1 := by decide +kernel
theorem dL_law_896 : de mL_law 896 (.iaload) 1 := by decide +kernel
theorem dL_law_897 : de mL_law 897 (.aload_n 0) 1 := by decide +kernel
theorem dL_law_898 : de mL_law 898 (.iload_n 3) 1 := by decide +kernel
theorem dL_law_899 : de mL_law 899 (.iconst 2) 1 := by decide +kernel
theorem dL_law_900 : de mL_law 900 (.iadd) 1 := by decide +kernel
theorem dL_law_901 : de mL_law 901 (.iaload) 1 := by decide +kernel
theorem dL_law_902 : de mL_law 902 (.invokevirtual 86) 3 := by decide +kernel
theorem dL_law_905 : de mL_law 905 (.aload_n 2) 1 := by decide +kernel
theorem dL_law_906 : de mL_law 906 (.aload_n 0) 1 := by decide +kernel
theorem dL_law_907 : de mL_law 907 (.iload_n 3) 1 := by decide +kernel
theorem dL_law_908 : de mL_law 908 (.iconst 1) 1 := by decide +kernel
theorem dL_law_909 : de mL_law 909 (.iadd) 1 := by decide +kernel
theorem dL_law_910 : de mL_law 910 (.iaload) 1 := by decide +kernel
theorem dL_law_911 : de mL_law 911 (.aload_n 0) 1 := by decide +kernel
theorem dL_law_912 : de mL_law 912 (.iload_n 3) 1 := by decide +kernel
theorem dL_law_913 : de mL_law 913 (.iconst 2) 1 := by decide +kernel
theorem dL_law_914 : de mL_law 914 (.iadd) 1 := by decide +kernel
theorem dL_law_915 : de mL_law 915 (.iaload) 1 := by decide +kernel
theorem dL_law_916 : de mL_law 916 (.invokevirtual 89) 3 := by decide +kernel
theorem dL_law_919 : de mL_law 919 (.if_icmp .eq 998) 3 := by decide +kernel
theorem dL_law_922 : de mL_law 922 (.iconst 0) 1 := by decide +kernel
theorem dL_law_923 : de mL_law 923 (.ireturn) 1 := by decide +kernel
theorem dL_law_924 : de mL_law 924 (.aload_n 1) 1 := by decide +kernel
theorem dL_law_925 : de mL_law 925 (.aload_n 0) 1 := by decide +kernel
theorem dL_law_926 : de mL_law 926 (.iload_n 3) 1 := by decide +kernel
theorem dL_law_927 : de mL_law 927 (.iconst 1) 1 := by decide +kernel
theorem dL_law_928 : de mL_law 928 (.iadd) 1 := by decide +kernel
theorem dL_law_929 : de mL_law 929 (.iaload) 1 := by decide +kernel
theorem dL_law_930 : de mL_law 930 (.aload_n 0) 1 := by decide +kernel
theorem dL_law_931 : de mL_law 931 (.iload_n 3) 1 := by decide +kernel
theorem dL_law_932 : de mL_law 932 (.iconst 2) 1 := by decide +kernel
theorem dL_law_933 : de mL_law 933 (.iadd) 1 := by decide +kernel
theorem dL_law_934 : de mL_law 934 (.iaload) 1 := by decide +kernel
theorem dL_law_935 : de mL_law 935 (.aload_n 0) 1 := by decide +kernel
theorem dL_law_936 : de mL_law 936 (.iload_n 3) 1 := by decide +kernel
theorem dL_law_937 : de mL_law 937 (.iconst 3) 1 := by decide +kernel
theorem dL_law_938 : de mL_law 938 (.iadd) 1 := by decide +kernel
theorem dL_law_939 : de mL_law 939 (.iaload) 1 := by decide +kernel
theorem dL_law_940 : de mL_law 940 (.aload_n 0) 1 := by decide +kernel
theorem dL_law_941 : de mL_law 941 (.iload_n 3) 1 := by decide +kernel
theorem dL_law_942 : de mL_law 942 (.iconst 4) 1 := by decide +kernel
theorem dL_law_943 : de mL_law 943 (.iadd) 1 := by decide +kernel
theorem dL_law_944 : de mL_law 944 (.iaload) 1 := by decide +kernel
theorem dL_law_945 : de mL_law 945 (.invokevirtual 90) 3 := by decide +kernel
theorem dL_law_948 : de mL_law 948 (.aload_n 2) 1 := by decide +kernel
theorem dL_law_949 : de mL_law 949 (.aload_n 0) 1 := by decide +kernel
theorem dL_law_950 : de mL_law 950 (.iload_n 3) 1 := by decide +kernel
theorem dL_law_951 : de mL_law 951 (.iconst 1) 1 := by decide +kernel
theorem dL_law_952 : de mL_law 952 (.iadd) 1 := by decide +kernel
theorem dL_law_953 : de mL_law 953 (.iaload) 1 := by decide +kernel
theorem dL_law_954 : de mL_law 954 (.aload_n 0) 1 := by decide +kernel
theorem dL_law_955 : de mL_law 955 (.iload_n 3) 1 := by decide +kernel
theorem dL_law_956 : de mL_law 956 (.iconst 2) 1 := by decide +kernel
theorem dL_law_957 : de mL_law 957 (.iadd) 1 := by decide +kernel
theorem dL_law_958 : de mL_law 958 (.iaload) 1 := by decide +kernel
theorem dL_law_959 : de mL_law 959 (.aload_n 0) 1 := by decide +kernel
theorem dL_law_960 : de mL_law 960 (.iload_n 3) 1 := by decide +kernel
theorem dL_law_961 : de mL_law 961 (.iconst 3) 1 := by decide +kernel
theorem dL_law_962 : de mL_law 962 (.iadd) 1 := by decide +kernel
theorem dL_law_963 : de mL_law 963 (.iaload) 1 := by decide +kernel
theorem dL_law_964 : de mL_law 964 (.aload_n 0) 1 := by decide +kernel
theorem dL_law_965 : de mL_law 965 (.iload_n 3) 1 := by decide +kernel
theorem dL_law_966 : de mL_law 966 (.iconst 4) 1 := by decide +kernel
theorem dL_law_967 : de mL_law 967 (.iadd) 1 := by decide +kernel
theorem dL_law_968 : de mL_law 968 (.iaload) 1 := by decide +kernel
theorem dL_law_969 : de mL_law 969 (.invokevirtual 93) 3 := by decide +kernel
theorem dL_law_972 : de mL_law 972 (.if_icmp .eq 945) 3 := by decide +kernel
theorem dL_law_975 : de mL_law 975 (.iconst 0) 1 := by decide +kernel
theorem dL_law_976 : de mL_law 976 (.ireturn) 1 := by decide +kernel
theorem dL_law_977 : de mL_law 977 (.aload_n 1) 1 := by decide +kernel
theorem dL_law_978 : de mL_law 978 (.aload_n 0) 1 := by decide +kernel
theorem dL_law_979 : de mL_law 979 (.iload_n 3) 1 := by decide +kernel
theorem dL_law_980 : de mL_law 980 (.iconst 1) 1 := by decide +kernel
theorem dL_law_981 : de mL_law 981 (.iadd) 1 := by decide +kernel
theorem dL_law_982 : de mL_law 982 (.iaload) 1 := by decide +kernel
theorem dL_law_983 : de mL_law 983 (.aload_n 0) 1 := by decide +kernel
theorem dL_law_984 : de mL_law 984 (.iload_n 3) 1 := by decide +kernel
theorem dL_law_985 : de mL_law 985 (.iconst 2) 1 := by decide +kernel
theorem dL_law_986 : de mL_law 986 (.iadd) 1 := by decide +kernel
theorem dL_law_987 : de mL_law 987 (.iaload) 1 := by decide +kernel
theorem dL_law_988 : de mL_law 988 (.aload_n 0) 1 := by decide +kernel
theorem dL_law_989 : de mL_law 989 (.iload_n 3) 1 := by decide +kernel
theorem dL_law_990 : de mL_law 990 (.iconst 3) 1 := by decide +kernel
theorem dL_law_991 : de mL_law 991 (.iadd) 1 := by decide +kernel
theorem dL_law_992 : de mL_law 992 (.iaload) 1 := by decide +kernel
theorem dL_law_993 : de mL_law 993 (.aload_n 0) 1 := by decide +kernel
theorem dL_law_994 : de mL_law 994 (.iload_n 3) 1 := by decide +kernel
theorem dL_law_995 : de mL_law 995 (.iconst 4) 1 := by decide +kernel
theorem dL_law_996 : de mL_law 996 (.iadd) 1 := by decide +kernel
theorem dL_law_997 : de mL_law 997 (.iaload) 1 := by decide +kernel
theorem dL_law_998 : de mL_law 998 (.invokevirtual 94) 3 := by decide +kernel
theorem dL_law_1001 : de mL_law 1001 (.aload_n 2) 1 := by decide +kernel
theorem dL_law_1002 : de mL_law 1002 (.aload_n 0) 1 := by decide +kernel
theorem dL_law_1003 : de mL_law 1003 (.iload_n 3) 1 := by decide +kernel
theorem dL_law_1004 : de mL_law 1004 (.iconst 1) 1 := by decide +kernel
theorem dL_law_1005 : de mL_law 1005 (.iadd) 1 := by decide +kernel
theorem dL_law_1006 : de mL_law 1006 (.iaload) 1 := by decide +kernel
theorem dL_law_1007 : de mL_law 1007 (.aload_n 0) 1 := by decide +kernel
theorem dL_law_1008 : de mL_law 1008 (.iload_n 3) 1 := by decide +kernel
theorem dL_law_1009 : de mL_law 1009 (.iconst 2) 1 := by decide +kernel
theorem dL_law_1010 : de mL_law 1010 (.iadd) 1 := by decide +kernel
theorem dL_law_1011 : de mL_law 1011 (.iaload) 1 := by decide +kernel
theorem dL_law_1012 : de mL_law 1012 (.aload_n 0) 1 := by decide +kernel
theorem dL_law_1013 : de mL_law 1013 (.iload_n 3) 1 := by decide +kernel
theorem dL_law_1014 : de mL_law 1014 (.iconst 3) 1 := by decide +kernel
theorem dL_law_1015 : de mL_law 1015 (.iadd) 1 := by decide +kernel
theorem dL_law_1016 : de mL_law 1016 (.iaload) 1 := by decide +kernel
theorem dL_law_1017 : de mL_law 1017 (.aload_n 0) 1 := by decide +kernel
theorem dL_law_1018 : de mL_law 1018 (.iload_n 3) 1 := by decide +kernel
theorem dL_law_1019 : de mL_law 1019 (.iconst 4) 1 := by decide +kernel
theorem dL_law_1020 : de mL_law 1020 (.iadd) 1 := by decide +kernel
theorem dL_law_1021 : de mL_law 1021 (.iaload) 1 := by decide +kernel
theorem dL_law_1022 : de mL_law 1022 (.invokevirtual 97) 3 := by decide +kernel
theorem dL_law_1025 : de mL_law 1025 (.if_icmp .eq 892) 3 := by decide +kernel
theorem dL_law_1028 : de mL_law 1028 (.iconst 0) 1 := by decide +kernel
theorem dL_law_1029 : de mL_law 1029 (.ireturn) 1 := by decide +kernel
theorem dL_law_1030 : de mL_law 1030 (.aload_n 1) 1 := by decide +kernel
theorem dL_law_1031 : de mL_law 1031 (.aload_n 0) 1 := by decide +kernel
theorem dL_law_1032 : de mL_law 1032 (.iload_n 3) 1 := by decide +kernel
theorem dL_law_1033 : de mL_law 1033 (.iconst 1) 1 := by decide +kernel
theorem dL_law_1034 : de mL_law 1034 (.iadd) 1 := by decide +kernel
theorem dL_law_1035 : de mL_law 1035 (.iaload) 1 := by decide +kernel
theorem dL_law_1036 : de mL_law 1036 (.aload_n 0) 1 := by decide +kernel
theorem dL_law_1037 : de mL_law 1037 (.iload_n 3) 1 := by decide +kernel
theorem dL_law_1038 : de mL_law 1038 (.iconst 2) 1 := by decide +kernel
theorem dL_law_1039 : de mL_law 1039 (.iadd) 1 := by decide +kernel
theorem dL_law_1040 : de mL_law 1040 (.iaload) 1 := by decide +kernel
theorem dL_law_1041 : de mL_law 1041 (.invokevirtual 98) 3 := by decide +kernel
theorem dL_law_1044 : de mL_law 1044 (.aload_n 2) 1 := by decide +kernel
theorem dL_law_1045 : de mL_law 1045 (.aload_n 0) 1 := by decide +kernel
theorem dL_law_1046 : de mL_law 1046 (.iload_n 3) 1 := by decide +kernel
theorem dL_law_1047 : de mL_law 1047 (.iconst 1) 1 := by decide +kernel
theorem dL_law_1048 : de mL_law 1048 (.iadd) 1 := by decide +kernel
theorem dL_law_1049 : de mL_law 1049 (.iaload) 1 := by decide +kernel
theorem dL_law_1050 : de mL_law 1050 (.aload_n 0) 1 := by decide +kernel
theorem dL_law_1051 : de mL_law 1051 (.iload_n 3) 1 := by decide +kernel
theorem dL_law_1052 : de mL_law 1052 (.iconst 2) 1 := by decide +kernel
theorem dL_law_1053 : de mL_law 1053 (.iadd) 1 := by decide +kernel
theorem dL_law_1054 : de mL_law 1054 (.iaload) 1 := by decide +kernel
theorem dL_law_1055 : de mL_law 1055 (.invokevirtual 101) 3 := by decide +kernel
theorem dL_law_1058 : de mL_law 1058 (.if_icmp .eq 859) 3 := by decide +kernel
theorem dL_law_1061 : de mL_law 1061 (.iconst 0) 1 := by decide +kernel
theorem dL_law_1062 : de mL_law 1062 (.ireturn) 1 := by decide +kernel
theorem dL_law_1063 : de mL_law 1063 (.aload_n 1) 1 := by decide +kernel
theorem dL_law_1064 : de mL_law 1064 (.aload_n 0) 1 := by decide +kernel
theorem dL_law_1065 : de mL_law 1065 (.iload_n 3) 1 := by decide +kernel
theorem dL_law_1066 : de mL_law 1066 (.iconst 1) 1 := by decide +kernel
theorem dL_law_1067 : de mL_law 1067 (.iadd) 1 := by decide +kernel
theorem dL_law_1068 : de mL_law 1068 (.iaload) 1 := by decide +kernel
theorem dL_law_1069 : de mL_law 1069 (.aload_n 0) 1 := by decide +kernel
theorem dL_law_1070 : de mL_law 1070 (.iload_n 3) 1 := by decide +kernel
theorem dL_law_1071 : de mL_law 1071 (.iconst 2) 1 := by decide +kernel
theorem dL_law_1072 : de mL_law 1072 (.iadd) 1 := by decide +kernel
theorem dL_law_1073 : de mL_law 1073 (.iaload) 1 := by decide +kernel
theorem dL_law_1074 : de mL_law 1074 (.invokevirtual 102) 3 := by decide +kernel
theorem dL_law_1077 : de mL_law 1077 (.aload_n 2) 1 := by decide +kernel
theorem dL_law_1078 : de mL_law 1078 (.aload_n 0) 1 := by decide +kernel
theorem dL_law_1079 : de mL_law 1079 (.iload_n 3) 1 := by decide +kernel
theorem dL_law_1080 : de mL_law 1080 (.iconst 1) 1 := by decide +kernel
theorem dL_law_1081 : de mL_law 1081 (.iadd) 1 := by decide +kernel
theorem dL_law_1082 : de mL_law 1082 (.iaload) 1 := by decide +kernel
theorem dL_law_1083 : de mL_law 1083 (.aload_n 0) 1 := by decide +kernel
theorem dL_law_1084 : de mL_law 1084 (.iload_n 3) 1 := by decide +kernel
theorem dL_law_1085 : de mL_law 1085 (.iconst 2) 1 := by decide +kernel
theorem dL_law_1086 : de mL_law 1086 (.iadd) 1 := by decide +kernel
theorem dL_law_1087 : de mL_law 1087 (.iaload) 1 := by decide +kernel
theorem dL_law_1088 : de mL_law 1088 (.invokevirtual 105) 3 := by decide +kernel
theorem dL_law_1091 : de mL_law 1091 (.if_icmp .eq 826) 3 := by decide +kernel
theorem dL_law_1094 : de mL_law 1094 (.iconst 0) 1 := by decide +kernel
theorem dL_law_1095 : de mL_law 1095 (.ireturn) 1 := by decide +kernel
theorem dL_law_1096 : de mL_law 1096 (.aload_n 1) 1 := by decide +kernel
theorem dL_law_1097 : de mL_law 1097 (.aload_n 0) 1 := by decide +kernel
theorem dL_law_1098 : de mL_law 1098 (.iload_n 3) 1 := by decide +kernel
theorem dL_law_1099 : de mL_law 1099 (.iconst 1) 1 := by decide +kernel
theorem dL_law_1100 : de mL_law 1100 (.iadd) 1 := by decide +kernel
theorem dL_law_1101 : de mL_law 1101 (.iaload) 1 := by decide +kernel
theorem dL_law_1102 : de mL_law 1102 (.aload_n 0) 1 := by decide +kernel
theorem dL_law_1103 : de mL_law 1103 (.iload_n 3) 1 := by decide +kernel
theorem dL_law_1104 : de mL_law 1104 (.iconst 2) 1 := by decide +kernel
theorem dL_law_1105 : de mL_law 1105 (.iadd) 1 := by decide +kernel
theorem dL_law_1106 : de mL_law 1106 (.iaload) 1 := by decide +kernel
theorem dL_law_1107 : de mL_law 1107 (.i2l) 1 := by decide +kernel
theorem dL_law_1108 : de mL_law 1108 (.bipush 32) 2 := by decide +kernel
theorem dL_law_1110 : de mL_law 1110 (.lshl) 1 := by decide +kernel
theorem dL_law_1111 : de mL_law 1111 (.aload_n 0) 1 := by decide +kernel
theorem dL_law_1112 : de mL_law 1112 (.iload_n 3) 1 := by decide +kernel
theorem dL_law_1113 : de mL_law 1113 (.iconst 3) 1 := by decide +kernel
theorem dL_law_1114 : de mL_law 1114 (.iadd) 1 := by decide +kernel
theorem dL_law_1115 : de mL_law 1115 (.iaload) 1 := by decide +kernel
theorem dL_law_1116 : de mL_law 1116 (.i2l) 1 := by decide +kernel
theorem dL_law_1117 : de mL_law 1117 (.ldc2_w 36) 3 := by decide +kernel
theorem dL_law_1120 : de mL_law 1120 (.land) 1 := by decide +kernel
theorem dL_law_1121 : de mL_law 1121 (.lor) 1 := by decide +kernel
theorem dL_law_1122 : de mL_law 1122 (.invokevirtual 106) 3 := by decide +kernel
theorem dL_law_1125 : de mL_law 1125 (.aload_n 2) 1 := by decide +kernel
theorem dL_law_1126 : de mL_law 1126 (.aload_n 0) 1 := by decide +kernel
theorem dL_law_1127 : de mL_law 1127 (.iload_n 3) 1 := by decide +kernel
theorem dL_law_1128 : de mL_law 1128 (.iconst 1) 1 := by decide +kernel
theorem dL_law_1129 : de mL_law 1129 (.iadd) 1 := by decide +kernel
theorem dL_law_1130 : de mL_law 1130 (.iaload) 1 := by decide +kernel
theorem dL_law_1131 : de mL_law 1131 (.aload_n 0) 1 := by decide +kernel
theorem dL_law_1132 : de mL_law 1132 (.iload_n 3) 1 := by decide +kernel
theorem dL_law_1133 : de mL_law 1133 (.iconst 2) 1 := by decide +kernel
theorem dL_law_1134 : de mL_law 1134 (.iadd) 1 := by decide +kernel
theorem dL_law_1135 : de mL_law 1135 (.iaload) 1 := by decide +kernel
theorem dL_law_1136 : de mL_law 1136 (.i2l) 1 := by decide +kernel
theorem dL_law_1137 : de mL_law 1137 (.bipush 32) 2 := by decide +kernel
theorem dL_law_1139 : de mL_law 1139 (.lshl) 1 := by decide +kernel
theorem dL_law_1140 : de mL_law 1140 (.aload_n 0) 1 := by decide +kernel
theorem dL_law_1141 : de mL_law 1141 (.iload_n 3) 1 := by decide +kernel
theorem dL_law_1142 : de mL_law 1142 (.iconst 3) 1 := by decide +kernel
theorem dL_law_1143 : de mL_law 1143 (.iadd) 1 := by decide +kernel
theorem dL_law_1144 : de mL_law 1144 (.iaload) 1 := by decide +kernel
theorem dL_law_1145 : de mL_law 1145 (.i2l) 1 := by decide +kernel
theorem dL_law_1146 : de mL_law 1146 (.ldc2_w 36) 3 := by decide +kernel
theorem dL_law_1149 : de mL_law 1149 (.land) 1 := by decide +kernel
theorem dL_law_1150 : de mL_law 1150 (.lor) 1 := by decide +kernel
theorem dL_law_1151 : de mL_law 1151 (.invokevirtual 110) 3 := by decide +kernel
theorem dL_law_1154 : de mL_law 1154 (.if_icmp .eq 763) 3 := by decide +kernel
theorem dL_law_1157 : de mL_law 1157 (.iconst 0) 1 := by decide +kernel
theorem dL_law_1158 : de mL_law 1158 (.ireturn) 1 := by decide +kernel
theorem dL_law_1159 : de mL_law 1159 (.aload_n 1) 1 := by decide +kernel
theorem dL_law_1160 : de mL_law 1160 (.aload_n 0) 1 := by decide +kernel
theorem dL_law_1161 : de mL_law 1161 (.iload_n 3) 1 := by decide +kernel
theorem dL_law_1162 : de mL_law 1162 (.iconst 1) 1 := by decide +kernel
theorem dL_law_1163 : de mL_law 1163 (.iadd) 1 := by decide +kernel
theorem dL_law_1164 : de mL_law 1164 (.iaload) 1 := by decide +kernel
theorem dL_law_1165 : de mL_law 1165 (.aload_n 0) 1 := by decide +kernel
theorem dL_law_1166 : de mL_law 1166 (.iload_n 3) 1 := by decide +kernel
theorem dL_law_1167 : de mL_law 1167 (.iconst 2) 1 := by decide +kernel
theorem dL_law_1168 : de mL_law 1168 (.iadd) 1 := by decide +kernel
theorem dL_law_1169 : de mL_law 1169 (.iaload) 1 := by decide +kernel
theorem dL_law_1170 : de mL_law 1170 (.aload_n 0) 1 := by decide +kernel
theorem dL_law_1171 : de mL_law 1171 (.iload_n 3) 1 := by decide +kernel
theorem dL_law_1172 : de mL_law 1172 (.iconst 3) 1 := by decide +kernel
theorem dL_law_1173 : de mL_law 1173 (.iadd) 1 := by decide +kernel
theorem dL_law_1174 : de mL_law 1174 (.iaload) 1 := by decide +kernel
theorem dL_law_1175 : de mL_law 1175 (.invokevirtual 111) 3 := by decide +kernel
theorem dL_law_1178 : de mL_law 1178 (.aload_n 2) 1 := by decide +kernel
theorem dL_law_1179 : de mL_law 1179 (.aload_n 0) 1 := by decide +kernel
theorem dL_law_1180 : de mL_law 1180 (.iload_n 3) 1 := by decide +kernel
theorem dL_law_1181 : de mL_law 1181 (.iconst 1) 1 := by decide +kernel
theorem dL_law_1182 : de mL_law 1182 (.iadd) 1 := by decide +kernel
theorem dL_law_1183 : de mL_law 1183 (.iaload) 1 := by decide +kernel
theorem dL_law_1184 : de mL_law 1184 (.aload_n 0) 1 := by decide +kernel
theorem dL_law_1185 : de mL_law 1185 (.iload_n 3) 1 := by decide +kernel
theorem dL_law_1186 : de mL_law 1186 (.iconst 2) 1 := by decide +kernel
theorem dL_law_1187 : de mL_law 1187 (.iadd) 1 := by decide +kernel
theorem dL_law_1188 : de mL_law 1188 (.iaload) 1 := by decide +kernel
theorem dL_law_1189 : de mL_law 1189 (.aload_n 0) 1 := by decide +kernel
theorem dL_law_1190 : de mL_law 1190 (.iload_n 3) 1 := by decide +kernel
theorem dL_law_1191 : de mL_law 1191 (.iconst 3) 1 := by decide +kernel
theorem dL_law_1192 : de mL_law 1192 (.iadd) 1 := by decide +kernel
theorem dL_law_1193 : de mL_law 1193 (.iaload) 1 := by decide +kernel
theorem dL_law_1194 : de mL_law 1194 (.invokevirtual 114) 3 := by decide +kernel
theorem dL_law_1197 : de mL_law 1197 (.if_icmp .eq 720) 3 := by decide +kernel
theorem dL_law_1200 : de mL_law 1200 (.iconst 0) 1 := by decide +kernel
theorem dL_law_1201 : de mL_law 1201 (.ireturn) 1 := by decide +kernel
theorem dL_law_1202 : de mL_law 1202 (.aload_n 1) 1 := by decide +kernel
theorem dL_law_1203 : de mL_law 1203 (.aload_n 0) 1 := by decide +kernel
theorem dL_law_1204 : de mL_law 1204 (.iload_n 3) 1 := by decide +kernel
theorem dL_law_1205 : de mL_law 1205 (.iconst 1) 1 := by decide +kernel
theorem dL_law_1206 : de mL_law 1206 (.iadd) 1 := by decide +kernel
theorem dL_law_1207 : de mL_law 1207 (.iaload) 1 := by decide +kernel
theorem dL_law_1208 : de mL_law 1208 (.aload_n 0) 1 := by decide +kernel
theorem dL_law_1209 : de mL_law 1209 (.iload_n 3) 1 := by decide +kernel
theorem dL_law_1210 : de mL_law 1210 (.iconst 2) 1 := by decide +kernel
theorem dL_law_1211 : de mL_law 1211 (.iadd) 1 := by decide +kernel
theorem dL_law_1212 : de mL_law 1212 (.iaload) 1 := by decide +kernel
theorem dL_law_1213 : de mL_law 1213 (.invokevirtual 115) 3 := by decide +kernel
theorem dL_law_1216 : de mL_law 1216 (.aload_n 2) 1 := by decide +kernel
theorem dL_law_1217 : de mL_law 1217 (.aload_n 0) 1 := by decide +kernel
theorem dL_law_1218 : de mL_law 1218 (.iload_n 3) 1 := by decide +kernel
theorem dL_law_1219 : de mL_law 1219 (.iconst 1) 1 := by decide +kernel
theorem dL_law_1220 : de mL_law 1220 (.iadd) 1 := by decide +kernel
theorem dL_law_1221 : de mL_law 1221 (.iaload) 1 := by decide +kernel
theorem dL_law_1222 : de mL_law 1222 (.aload_n 0) 1 := by decide +kernel
theorem dL_law_1223 : de mL_law 1223 (.iload_n 3) 1 := by decide +kernel
theorem dL_law_1224 : de mL_law 1224 (.iconst 2) 1 := by decide +kernel
theorem dL_law_1225 : de mL_law 1225 (.iadd) 1 := by decide +kernel
theorem dL_law_1226 : de mL_law 1226 (.iaload) 1 := by decide +kernel
theorem dL_law_1227 : de mL_law 1227 (.invokevirtual 118) 3 := by decide +kernel
theorem dL_law_1230 : de mL_law 1230 (.if_icmp .eq 687) 3 := by decide +kernel
theorem dL_law_1233 : de mL_law 1233 (.iconst 0) 1 := by decide +kernel
theorem dL_law_1234 : de mL_law 1234 (.ireturn) 1 := by decide +kernel
theorem dL_law_1235 : de mL_law 1235 (.aload_n 1) 1 := by decide +kernel
theorem dL_law_1236 : de mL_law 1236 (.aload_n 0) 1 := by decide +kernel
theorem dL_law_1237 : de mL_law 1237 (.iload_n 3) 1 := by decide +kernel
theorem dL_law_1238 : de mL_law 1238 (.iconst 1) 1 := by decide +kernel
theorem dL_law_1239 : de mL_law 1239 (.iadd) 1 := by decide +kernel
theorem dL_law_1240 : de mL_law 1240 (.iaload) 1 := by decide +kernel
theorem dL_law_1241 : de mL_law 1241 (.aload_n 0) 1 := by decide +kernel
theorem dL_law_1242 : de mL_law 1242 (.iload_n 3) 1 := by decide +kernel
theorem dL_law_1243 : de mL_law 1243 (.iconst 2) 1 := by decide +kernel
theorem dL_law_1244 : de mL_law 1244 (.iadd) 1 := by decide +kernel
theorem dL_law_1245 : de mL_law 1245 (.iaload) 1 := by decide +kernel
theorem dL_law_1246 : de mL_law 1246 (.invokevirtual 119) 3 := by decide +kernel
theorem dL_law_1249 : de mL_law 1249 (.aload_n 2) 1 := by decide +kernel
theorem dL_law_1250 : de mL_law 1250 (.aload_n 0) 1 := by decide +kernel
theorem dL_law_1251 : de mL_law 1251 (.iload_n 3) 1 := by decide +kernel
theorem dL_law_1252 : de mL_law 1252 (.iconst 1) 1 := by decide +kernel
theorem dL_law_1253 : de mL_law 1253 (.iadd) 1 := by decide +kernel
theorem dL_law_1254 : de mL_law 1254 (.iaload) 1 := by decide +kernel
theorem dL_law_1255 : de mL_law 1255 (.aload_n 0) 1 := by decide +kernel
theorem dL_law_1256 : de mL_law 1256 (.iload_n 3) 1 := by decide +kernel
theorem dL_law_1257 : de mL_law 1257 (.iconst 2) 1 := by decide +kernel
theorem dL_law_1258 : de mL_law 1258 (.iadd) 1 := by decide +kernel
theorem dL_law_1259 : de mL_law 1259 (.iaload) 1 := by decide +kernel
theorem dL_law_1260 : de mL_law 1260 (.invokevirtual 122) 3 := by decide +kernel
theorem dL_law_1263 : de mL_law 1263 (.if_icmp .eq 654) 3 := by decide +kernel
theorem dL_law_1266 : de mL_law 1266 (.iconst 0) 1 := by decide +kernel
theorem dL_law_1267 : de mL_law 1267 (.ireturn) 1 := by decide +kernel
theorem dL_law_1268 : de mL_law 1268 (.aload_n 1) 1 := by decide +kernel
theorem dL_law_1269 : de mL_law 1269 (.aload_n 0) 1 := by decide +kernel
theorem dL_law_1270 : de mL_law 1270 (.iload_n 3) 1 := by decide +kernel
theorem dL_law_1271 : de mL_law 1271 (.iconst 1) 1 := by decide +kernel
theorem dL_law_1272 : de mL_law 1272 (.iadd) 1 := by decide +kernel
theorem dL_law_1273 : de mL_law 1273 (.iaload) 1 := by decide +kernel
theorem dL_law_1274 : de mL_law 1274 (.aload_n 0) 1 := by decide +kernel
theorem dL_law_1275 : de mL_law 1275 (.iload_n 3) 1 := by decide +kernel
theorem dL_law_1276 : de mL_law 1276 (.iconst 2) 1 := by decide +kernel
theorem dL_law_1277 : de mL_law 1277 (.iadd) 1 := by decide +kernel
theorem dL_law_1278 : de mL_law 1278 (.iaload) 1 := by decide +kernel
theorem dL_law_1279 : de mL_law 1279 (.aload_n 0) 1 := by decide +kernel
theorem dL_law_1280 : de mL_law 1280 (.iload_n 3) 1 := by decide +kernel
theorem dL_law_1281 : de mL_law 1281 (.iconst 3) 1 := by decide +kernel
theorem dL_law_1282 : de mL_law 1282 (.iadd) 1 := by decide +kernel
theorem dL_law_1283 : de mL_law 1283 (.iaload) 1 := by decide +kernel
theorem dL_law_1284 : de mL_law 1284 (.aload_n 0) 1 := by decide +kernel
theorem dL_law_1285 : de mL_law 1285 (.iload_n 3) 1 := by decide +kernel
theorem dL_law_1286 : de mL_law 1286 (.iconst 4) 1 := by decide +kernel
theorem dL_law_1287 : de mL_law 1287 (.iadd) 1 := by decide +kernel
theorem dL_law_1288 : de mL_law 1288 (.iaload) 1 := by decide +kernel
theorem dL_law_1289 : de mL_law 1289 (.invokevirtual 123) 3 := by decide +kernel
theorem dL_law_1292 : de mL_law 1292 (.aload_n 2) 1 := by decide +kernel
theorem dL_law_1293 : de mL_law 1293 (.aload_n 0) 1 := by decide +kernel
theorem dL_law_1294 : de mL_law 1294 (.iload_n 3) 1 := by decide +kernel
theorem dL_law_1295 : de mL_law 1295 (.iconst 1) 1 := by decide +kernel
theorem dL_law_1296 : de mL_law 1296 (.iadd) 1 := by decide +kernel
theorem dL_law_1297 : de mL_law 1297 (.iaload) 1 := by decide +kernel
theorem dL_law_1298 : de mL_law 1298 (.aload_n 0) 1 := by decide +kernel
theorem dL_law_1299 : de mL_law 1299 (.iload_n 3) 1 := by decide +kernel
theorem dL_law_1300 : de mL_law 1300 (.iconst 2) 1 := by decide +kernel
theorem dL_law_1301 : de mL_law 1301 (.iadd) 1 := by decide +kernel
theorem dL_law_1302 : de mL_law 1302 (.iaload) 1 := by decide +kernel
theorem dL_law_1303 : de mL_law 1303 (.aload_n 0) 1 := by decide +kernel
theorem dL_law_1304 : de mL_law 1304 (.iload_n 3) 1 := by decide +kernel
theorem dL_law_1305 : de mL_law 1305 (.iconst 3) 1 := by decide +kernel
theorem dL_law_1306 : de mL_law 1306 (.iadd) 1 := by decide +kernel
theorem dL_law_1307 : de mL_law 1307 (.iaload) 1 := by decide +kernel
theorem dL_law_1308 : de mL_law 1308 (.aload_n 0) 1 := by decide +kernel
theorem dL_law_1309 : de mL_law 1309 (.iload_n 3) 1 := by decide +kernel
theorem dL_law_1310 : de mL_law 1310 (.iconst 4) 1 := by decide +kernel
theorem dL_law_1311 : de mL_law 1311 (.iadd) 1 := by decide +kernel
theorem dL_law_1312 : de mL_law 1312 (.iaload) 1 := by decide +kernel
theorem dL_law_1313 : de mL_law 1313 (.invokevirtual 126) 3 := by decide +kernel
theorem dL_law_1316 : de mL_law 1316 (.if_icmp .eq 601) 3 := by decide +kernel
theorem dL_law_1319 : de mL_law 1319 (.iconst 0) 1 := by decide +kernel
theorem dL_law_1320 : de mL_law 1320 (.ireturn) 1 := by decide +kernel
theorem dL_law_1321 : de mL_law 1321 (.aload_n 1) 1 := by decide +kernel
theorem dL_law_1322 : de mL_law 1322 (.aload_n 0) 1 := by decide +kernel
theorem dL_law_1323 : de mL_law 1323 (.iload_n 3) 1 := by decide +kernel
theorem dL_law_1324 : de mL_law 1324 (.iconst 1) 1 := by decide +kernel
theorem dL_law_1325 : de mL_law 1325 (.iadd) 1 := by decide +kernel
theorem dL_law_1326 : de mL_law 1326 (.iaload) 1 := by decide +kernel
theorem dL_law_1327 : de mL_law 1327 (.aload_n 0) 1 := by decide +kernel
theorem dL_law_1328 : de mL_law 1328 (.iload_n 3) 1 := by decide +kernel
theorem dL_law_1329 : de mL_law 1329 (.iconst 2) 1 := by decide +kernel
theorem dL_law_1330 : de mL_law 1330 (.iadd) 1 := by decide +kernel
theorem dL_law_1331 : de mL_law 1331 (.iaload) 1 := by decide +kernel
theorem dL_law_1332 : de mL_law 1332 (.aload_n 0) 1 := by decide +kernel
theorem dL_law_1333 : de mL_law 1333 (.iload_n 3) 1 := by decide +kernel
theorem dL_law_1334 : de mL_law 1334 (.iconst 3) 1 := by decide +kernel
theorem dL_law_1335 : de mL_law 1335 (.iadd) 1 := by decide +kernel
theorem dL_law_1336 : de mL_law 1336 (.iaload) 1 := by decide +kernel
theorem dL_law_1337 : de mL_law 1337 (.invokevirtual 127) 3 := by decide +kernel
theorem dL_law_1340 : de mL_law 1340 (.aload_n 2) 1 := by decide +kernel
theorem dL_law_1341 : de mL_law 1341 (.aload_n 0) 1 := by decide +kernel
theorem dL_law_1342 : de mL_law 1342 (.iload_n 3) 1 := by decide +kernel
theorem dL_law_1343 : de mL_law 1343 (.iconst 1) 1 := by decide +kernel
theorem dL_law_1344 : de mL_law 1344 (.iadd) 1 := by decide +kernel
theorem dL_law_1345 : de mL_law 1345 (.iaload) 1 := by decide +kernel
theorem dL_law_1346 : de mL_law 1346 (.aload_n 0) 1 := by decide +kernel
theorem dL_law_1347 : de mL_law 1347 (.iload_n 3) 1 := by decide +kernel
theorem dL_law_1348 : de mL_law 1348 (.iconst 2) 1 := by decide +kernel
theorem dL_law_1349 : de mL_law 1349 (.iadd) 1 := by decide +kernel
theorem dL_law_1350 : de mL_law 1350 (.iaload) 1 := by decide +kernel
theorem dL_law_1351 : de mL_law 1351 (.aload_n 0) 1 := by decide +kernel
theorem dL_law_1352 : de mL_law 1352 (.iload_n 3) 1 := by decide +kernel
theorem dL_law_1353 : de mL_law 1353 (.iconst 3) 1 := by decide +kernel
theorem dL_law_1354 : de mL_law 1354 (.iadd) 1 := by decide +kernel
theorem dL_law_1355 : de mL_law 1355 (.iaload) 1 := by decide +kernel
theorem dL_law_1356 : de mL_law 1356 (.invokevirtual 130) 3 := by decide +kernel
theorem dL_law_1359 : de mL_law 1359 (.if_icmp .eq 558) 3 := by decide +kernel
theorem dL_law_1362 : de mL_law 1362 (.iconst 0) 1 := by decide +kernel
theorem dL_law_1363 : de mL_law 1363 (.ireturn) 1 := by decide +kernel
theorem dL_law_1364 : de mL_law 1364 (.aload_n 1) 1 := by decide +kernel
theorem dL_law_1365 : de mL_law 1365 (.aload_n 0) 1 := by decide +kernel
theorem dL_law_1366 : de mL_law 1366 (.iload_n 3) 1 := by decide +kernel
theorem dL_law_1367 : de mL_law 1367 (.iconst 1) 1 := by decide +kernel
theorem dL_law_1368 : de mL_law 1368 (.iadd) 1 := by decide +kernel
theorem dL_law_1369 : de mL_law 1369 (.iaload) 1 := by decide +kernel
theorem dL_law_1370 : de mL_law 1370 (.aload_n 0) 1 := by decide +kernel
theorem dL_law_1371 : de mL_law 1371 (.iload_n 3) 1 := by decide +kernel
theorem dL_law_1372 : de mL_law 1372 (.iconst 2) 1 := by decide +kernel
theorem dL_law_1373 : de mL_law 1373 (.iadd) 1 := by decide +kernel
theorem dL_law_1374 : de mL_law 1374 (.iaload) 1 := by decide +kernel
theorem dL_law_1375 : de mL_law 1375 (.invokevirtual 131) 3 := by decide +kernel
theorem dL_law_1378 : de mL_law 1378 (.aload_n 2) 1 := by decide +kernel
theorem dL_law_1379 : de mL_law 1379 (.aload_n 0) 1 := by decide +kernel
theorem dL_law_1380 : de mL_law 1380 (.iload_n 3) 1 := by decide +kernel
theorem dL_law_1381 : de mL_law 1381 (.iconst 1) 1 := by decide +kernel
theorem dL_law_1382 : de mL_law 1382 (.iadd) 1 := by decide +kernel
theorem dL_law_1383 : de mL_law 1383 (.iaload) 1 := by decide +kernel
theorem dL_law_1384 : de mL_law 1384 (.aload_n 0) 1 := by decide +kernel
theorem dL_law_1385 : de mL_law 1385 (.iload_n 3) 1 := by decide +kernel
theorem dL_law_1386 : de mL_law 1386 (.iconst 2) 1 := by decide +kernel
theorem dL_law_1387 : de mL_law 1387 (.iadd) 1 := by decide +kernel
theorem dL_law_1388 : de mL_law 1388 (.iaload) 1 := by decide +kernel
theorem dL_law_1389 : de mL_law 1389 (.invokevirtual 134) 3 := by decide +kernel
theorem dL_law_1392 : de mL_law 1392 (.if_icmp .eq 525) 3 := by decide +kernel
theorem dL_law_1395 : de mL_law 1395 (.iconst 0) 1 := by decide +kernel
theorem dL_law_1396 : de mL_law 1396 (.ireturn) 1 := by decide +kernel
theorem dL_law_1397 : de mL_law 1397 (.aload_n 1) 1 := by decide +kernel
theorem dL_law_1398 : de mL_law 1398 (.aload_n 0) 1 := by decide +kernel
theorem dL_law_1399 : de mL_law 1399 (.iload_n 3) 1 := by decide +kernel
theorem dL_law_1400 : de mL_law 1400 (.iconst 1) 1 := by decide +kernel
theorem dL_law_1401 : de mL_law 1401 (.iadd) 1 := by decide +kernel
theorem dL_law_1402 : de mL_law 1402 (.iaload) 1 := by decide +kernel
theorem dL_law_1403 : de mL_law 1403 (.aload_n 0) 1 := by decide +kernel
theorem dL_law_1404 : de mL_law 1404 (.iload_n 3) 1 := by decide +kernel
theorem dL_law_1405 : de mL_law 1405 (.iconst 2) 1 := by decide +kernel
theorem dL_law_1406 : de mL_law 1406 (.iadd) 1 := by decide +kernel
theorem dL_law_1407 : de mL_law 1407 (.iaload) 1 := by decide +kernel
theorem dL_law_1408 : de mL_law 1408 (.invokevirtual 135) 3 := by decide +kernel
theorem dL_law_1411 : de mL_law 1411 (.aload_n 2) 1 := by decide +kernel
theorem dL_law_1412 : de mL_law 1412 (.aload_n 0) 1 := by decide +kernel
theorem dL_law_1413 : de mL_law 1413 (.iload_n 3) 1 := by decide +kernel
theorem dL_law_1414 : de mL_law 1414 (.iconst 1) 1 := by decide +kernel
theorem dL_law_1415 : de mL_law 1415 (.iadd) 1 := by decide +kernel
theorem dL_law_1416 : de mL_law 1416 (.iaload) 1 := by decide +kernel
theorem dL_law_1417 : de mL_law 1417 (.aload_n 0) 1 := by decide +kernel
theorem dL_law_1418 : de mL_law 1418 (.iload_n 3) 1 := by decide +kernel
theorem dL_law_1419 : de mL_law 1419 (.iconst 2) 1 := by decide +kernel
theorem dL_law_1420 : de mL_law 1420 (.iadd) 1 := by decide +kernel
theorem dL_law_1421 : de mL_law 1421 (.iaload) 1 := by decide +kernel
theorem dL_law_1422 : de mL_law 1422 (.invokevirtual 138) 3 := by decide +kernel
theorem dL_law_1425 : de mL_law 1425 (.if_icmp .eq 492) 3 := by decide +kernel
theorem dL_law_1428 : de mL_law 1428 (.iconst 0) 1 := by decide +kernel
theorem dL_law_1429 : de mL_law 1429 (.ireturn) 1 := by decide +kernel
theorem dL_law_1430 : de mL_law 1430 (.aload_n 1) 1 := by decide +kernel
theorem dL_law_1431 : de mL_law 1431 (.aload_n 0) 1 := by decide +kernel
theorem dL_law_1432 : de mL_law 1432 (.iload_n 3) 1 := by decide +kernel
theorem dL_law_1433 : de mL_law 1433 (.iconst 1) 1 := by decide +kernel
theorem dL_law_1434 : de mL_law 1434 (.iadd) 1 := by decide +kernel
theorem dL_law_1435 : de mL_law 1435 (.iaload) 1 := by decide +kernel
theorem dL_law_1436 : de mL_law 1436 (.aload_n 0) 1 := by decide +kernel
theorem dL_law_1437 : de mL_law 1437 (.iload_n 3) 1 := by decide +kernel
theorem dL_law_1438 : de mL_law 1438 (.iconst 2) 1 := by decide +kernel
theorem dL_law_1439 : de mL_law 1439 (.iadd) 1 := by decide +kernel
theorem dL_law_1440 : de mL_law 1440 (.iaload) 1 := by decide +kernel
theorem dL_law_1441 : de mL_law 1441 (.aload_n 0) 1 := by decide +kernel
theorem dL_law_1442 : de mL_law 1442 (.iload_n 3) 1 := by decide +kernel
theorem dL_law_1443 : de mL_law 1443 (.iconst 3) 1 := by decide +kernel
theorem dL_law_1444 : de mL_law 1444 (.iadd) 1 := by decide +kernel
theorem dL_law_1445 : de mL_law 1445 (.iaload) 1 := by decide +kernel
theorem dL_law_1446 : de mL_law 1446 (.invokevirtual 139) 3 := by decide +kernel
theorem dL_law_1449 : de mL_law 1449 (.aload_n 2) 1 := by decide +kernel
theorem dL_law_1450 : de mL_law 1450 (.aload_n 0) 1 := by decide +kernel
theorem dL_law_1451 : de mL_law 1451 (.iload_n 3) 1 := by decide +kernel
theorem dL_law_1452 : de mL_law 1452 (.iconst 1) 1 := by decide +kernel
theorem dL_law_1453 : de mL_law 1453 (.iadd) 1 := by decide +kernel
theorem dL_law_1454 : de mL_law 1454 (.iaload) 1 := by decide +kernel
theorem dL_law_1455 : de mL_law 1455 (.aload_n 0) 1 := by decide +kernel
theorem dL_law_1456 : de mL_law 1456 (.iload_n 3) 1 := by decide +kernel
theorem dL_law_1457 : de mL_law 1457 (.iconst 2) 1 := by decide +kernel
theorem dL_law_1458 : de mL_law 1458 (.iadd) 1 := by decide +kernel
theorem dL_law_1459 : de mL_law 1459 (.iaload) 1 := by decide +kernel
theorem dL_law_1460 : de mL_law 1460 (.aload_n 0) 1 := by decide +kernel
theorem dL_law_1461 : de mL_law 1461 (.iload_n 3) 1 := by decide +kernel
theorem dL_law_1462 : de mL_law 1462 (.iconst 3) 1 := by decide +kernel
theorem dL_law_1463 : de mL_law 1463 (.iadd) 1 := by decide +kernel
theorem dL_law_1464 : de mL_law 1464 (.iaload) 1 := by decide +kernel
theorem dL_law_1465 : de mL_law 1465 (.invokevirtual 142) 3 := by decide +kernel
theorem dL_law_1468 : de mL_law 1468 (.if_icmp .eq 449) 3 := by decide +kernel
theorem dL_law_1471 : de mL_law 1471 (.iconst 0) 1 := by decide +kernel
theorem dL_law_1472 : de mL_law 1472 (.ireturn) 1 := by decide +kernel
theorem dL_law_1473 : de mL_law 1473 (.aload_n 1) 1 := by decide +kernel
theorem dL_law_1474 : de mL_law 1474 (.aload_n 0) 1 := by decide +kernel
theorem dL_law_1475 : de mL_law 1475 (.iload_n 3) 1 := by decide +kernel
theorem dL_law_1476 : de mL_law 1476 (.iconst 1) 1 := by decide +kernel
theorem dL_law_1477 : de mL_law 1477 (.iadd) 1 := by decide +kernel
theorem dL_law_1478 : de mL_law 1478 (.iaload) 1 := by decide +kernel
theorem dL_law_1479 : de mL_law 1479 (.invokevirtual 143) 3 := by decide +kernel
theorem dL_law_1482 : de mL_law 1482 (.aload_n 2) 1 := by decide +kernel
theorem dL_law_1483 : de mL_law 1483 (.aload_n 0) 1 := by decide +kernel
theorem dL_law_1484 : de mL_law 1484 (.iload_n 3) 1 := by decide +kernel
theorem dL_law_1485 : de mL_law 1485 (.iconst 1) 1 := by decide +kernel
theorem dL_law_1486 : de mL_law 1486 (.iadd) 1 := by decide +kernel
theorem dL_law_1487 : de mL_law 1487 (.iaload) 1 := by decide +kernel
theorem dL_law_1488 : de mL_law 1488 (.invokevirtual 147) 3 := by decide +kernel
theorem dL_law_1491 : de mL_law 1491 (.if_icmp .eq 426) 3 := by decide +kernel
theorem dL_law_1494 : de mL_law 1494 (.iconst 0) 1 := by decide +kernel
theorem dL_law_1495 : de mL_law 1495 (.ireturn) 1 := by decide +kernel
theorem dL_law_1496 : de mL_law 1496 (.aload_n 1) 1 := by decide +kernel
theorem dL_law_1497 : de mL_law 1497 (.aload_n 0) 1 := by decide +kernel
theorem dL_law_1498 : de mL_law 1498 (.iload_n 3) 1 := by decide +kernel
theorem dL_law_1499 : de mL_law 1499 (.iconst 1) 1 := by decide +kernel
theorem dL_law_1500 : de mL_law 1500 (.iadd) 1 := by decide +kernel
theorem dL_law_1501 : de mL_law 1501 (.iaload) 1 := by decide +kernel
theorem dL_law_1502 : de mL_law 1502 (.aload_n 0) 1 := by decide +kernel
theorem dL_law_1503 : de mL_law 1503 (.iload_n 3) 1 := by decide +kernel
theorem dL_law_1504 : de mL_law 1504 (.iconst 2) 1 := by decide +kernel
theorem dL_law_1505 : de mL_law 1505 (.iadd) 1 := by decide +kernel
theorem dL_law_1506 : de mL_law 1506 (.iaload) 1 := by decide +kernel
theorem dL_law_1507 : de mL_law 1507 (.aload_n 0) 1 := by decide +kernel
theorem dL_law_1508 : de mL_law 1508 (.iload_n 3) 1 := by decide +kernel
theorem dL_law_1509 : de mL_law 1509 (.iconst 3) 1 := by decide +kernel
theorem dL_law_1510 : de mL_law 1510 (.iadd) 1 := by decide +kernel
theorem dL_law_1511 : de mL_law 1511 (.iaload) 1 := by decide +kernel
theorem dL_law_1512 : de mL_law 1512 (.invokevirtual 148) 3 := by decide +kernel
theorem dL_law_1515 : de mL_law 1515 (.aload_n 2) 1 := by decide +kernel
theorem dL_law_1516 : de mL_law 1516 (.aload_n 0) 1 := by decide +kernel
theorem dL_law_1517 : de mL_law 1517 (.iload_n 3) 1 := by decide +kernel
theorem dL_law_1518 : de mL_law 1518 (.iconst 1) 1 := by decide +kernel
theorem dL_law_1519 : de mL_law 1519 (.iadd) 1 := by decide +kernel
theorem dL_law_1520 : de mL_law 1520 (.iaload) 1 := by decide +kernel
theorem dL_law_1521 : de mL_law 1521 (.aload_n 0) 1 := by decide +kernel
theorem dL_law_1522 : de mL_law 1522 (.iload_n 3) 1 := by decide +kernel
theorem dL_law_1523 : de mL_law 1523 (.iconst 2) 1 := by decide +kernel
theorem dL_law_1524 : de mL_law 1524 (.iadd) 1 := by decide +kernel
theorem dL_law_1525 : de mL_law 1525 (.iaload) 1 := by decide +kernel
theorem dL_law_1526 : de mL_law 1526 (.aload_n 0) 1 := by decide +kernel
theorem dL_law_1527 : de mL_law 1527 (.iload_n 3) 1 := by decide +kernel
theorem dL_law_1528 : de mL_law 1528 (.iconst 3) 1 := by decide +kernel
theorem dL_law_1529 : de mL_law 1529 (.iadd) 1 := by decide +kernel
theorem dL_law_1530 : de mL_law 1530 (.iaload) 1 := by decide +kernel
theorem dL_law_1531 : de mL_law 1531 (.invokevirtual 151) 3 := by decide +kernel
theorem dL_law_1534 : de mL_law 1534 (.if_icmp .eq 383) 3 := by decide +kernel
theorem dL_law_1537 : de mL_law 1537 (.iconst 0) 1 := by decide +kernel
theorem dL_law_1538 : de mL_law 1538 (.ireturn) 1 := by decide +kernel
theorem dL_law_1539 : de mL_law 1539 (.aload_n 1) 1 := by decide +kernel
theorem dL_law_1540 : de mL_law 1540 (.aload_n 0) 1 := by decide +kernel
theorem dL_law_1541 : de mL_law 1541 (.iload_n 3) 1 := by decide +kernel
theorem dL_law_1542 : de mL_law 1542 (.iconst 1) 1 := by decide +kernel
theorem dL_law_1543 : de mL_law 1543 (.iadd) 1 := by decide +kernel
theorem dL_law_1544 : de mL_law 1544 (.iaload) 1 := by decide +kernel
theorem dL_law_1545 : de mL_law 1545 (.invokevirtual 152) 3 := by decide +kernel
theorem dL_law_1548 : de mL_law 1548 (.aload_n 2) 1 := by decide +kernel
theorem dL_law_1549 : de mL_law 1549 (.aload_n 0) 1 := by decide +kernel
theorem dL_law_1550 : de mL_law 1550 (.iload_n 3) 1 := by decide +kernel
theorem dL_law_1551 : de mL_law 1551 (.iconst 1) 1 := by decide +kernel
theorem dL_law_1552 : de mL_law 1552 (.iadd) 1 := by decide +kernel
theorem dL_law_1553 : de mL_law 1553 (.iaload) 1 := by decide +kernel
theorem dL_law_1554 : de mL_law 1554 (.invokevirtual 155) 3 := by decide +kernel
theorem dL_law_1557 : de mL_law 1557 (.if_icmp .eq 360) 3 := by decide +kernel
theorem dL_law_1560 : de mL_law 1560 (.iconst 0) 1 := by decide +kernel
theorem dL_law_1561 : de mL_law 1561 (.ireturn) 1 := by decide +kernel
theorem dL_law_1562 : de mL_law 1562 (.aload_n 1) 1 := by decide +kernel
theorem dL_law_1563 : de mL_law 1563 (.aload_n 0) 1 := by decide +kernel
theorem dL_law_1564 : de mL_law 1564 (.iload_n 3) 1 := by decide +kernel
theorem dL_law_1565 : de mL_law 1565 (.iconst 1) 1 := by decide +kernel
theorem dL_law_1566 : de mL_law 1566 (.iadd) 1 := by decide +kernel
theorem dL_law_1567 : de mL_law 1567 (.iaload) 1 := by decide +kernel
theorem dL_law_1568 : de mL_law 1568 (.aload_n 0) 1 := by decide +kernel
theorem dL_law_1569 : de mL_law 1569 (.iload_n 3) 1 := by decide +kernel
theorem dL_law_1570 : de mL_law 1570 (.iconst 2) 1 := by decide +kernel
theorem dL_law_1571 : de mL_law 1571 (.iadd) 1 := by decide +kernel
theorem dL_law_1572 : de mL_law 1572 (.iaload) 1 := by decide +kernel
theorem dL_law_1573 : de mL_law 1573 (.invokevirtual 156) 3 := by decide +kernel
theorem dL_law_1576 : de mL_law 1576 (.aload_n 2) 1 := by decide +kernel
theorem dL_law_1577 : de mL_law 1577 (.aload_n 0) 1 := by decide +kernel
theorem dL_law_1578 : de mL_law 1578 (.iload_n 3) 1 := by decide +kernel
theorem dL_law_1579 : de mL_law 1579 (.iconst 1) 1 := by decide +kernel
theorem dL_law_1580 : de mL_law 1580 (.iadd) 1 := by decide +kernel
theorem dL_law_1581 : de mL_law 1581 (.iaload) 1 := by decide +kernel
theorem dL_law_1582 : de mL_law 1582 (.aload_n 0) 1 := by decide +kernel
theorem dL_law_1583 : de mL_law 1583 (.iload_n 3) 1 := by decide +kernel
theorem dL_law_1584 : de mL_law 1584 (.iconst 2) 1 := by decide +kernel
theorem dL_law_1585 : de mL_law 1585 (.iadd) 1 := by decide +kernel
theorem dL_law_1586 : de mL_law 1586 (.iaload) 1 := by decide +kernel
theorem dL_law_1587 : de mL_law 1587 (.invokevirtual 159) 3 := by decide +kernel
theorem dL_law_1590 : de mL_law 1590 (.if_icmp .eq 327) 3 := by decide +kernel
theorem dL_law_1593 : de mL_law 1593 (.iconst 0) 1 := by decide +kernel
theorem dL_law_1594 : de mL_law 1594 (.ireturn) 1 := by decide +kernel
theorem dL_law_1595 : de mL_law 1595 (.aload_n 1) 1 := by decide +kernel
theorem dL_law_1596 : de mL_law 1596 (.aload_n 0) 1 := by decide +kernel
theorem dL_law_1597 : de mL_law 1597 (.iload_n 3) 1 := by decide +kernel
theorem dL_law_1598 : de mL_law 1598 (.iconst 1) 1 := by decide +kernel
theorem dL_law_1599 : de mL_law 1599 (.iadd) 1 := by decide +kernel
theorem dL_law_1600 : de mL_law 1600 (.iaload) 1 := by decide +kernel
theorem dL_law_1601 : de mL_law 1601 (.aload_n 0) 1 := by decide +kernel
theorem dL_law_1602 : de mL_law 1602 (.iload_n 3) 1 := by decide +kernel
theorem dL_law_1603 : de mL_law 1603 (.iconst 2) 1 := by decide +kernel
theorem dL_law_1604 : de mL_law 1604 (.iadd) 1 := by decide +kernel
theorem dL_law_1605 : de mL_law 1605 (.iaload) 1 := by decide +kernel
theorem dL_law_1606 : de mL_law 1606 (.aload_n 0) 1 := by decide +kernel
theorem dL_law_1607 : de mL_law 1607 (.iload_n 3) 1 := by decide +kernel
theorem dL_law_1608 : de mL_law 1608 (.iconst 3) 1 := by decide +kernel
theorem dL_law_1609 : de mL_law 1609 (.iadd) 1 := by decide +kernel
theorem dL_law_1610 : de mL_law 1610 (.iaload) 1 := by decide +kernel
theorem dL_law_1611 : de mL_law 1611 (.invokevirtual 160) 3 := by decide +kernel
theorem dL_law_1614 : de mL_law 1614 (.aload_n 2) 1 := by decide +kernel
theorem dL_law_1615 : de mL_law 1615 (.aload_n 0) 1 := by decide +kernel
theorem dL_law_1616 : de mL_law 1616 (.iload_n 3) 1 := by decide +kernel
theorem dL_law_1617 : de mL_law 1617 (.iconst 1) 1 := by decide +kernel
theorem dL_law_1618 : de mL_law 1618 (.iadd) 1 := by decide +kernel
theorem dL_law_1619 : de mL_law 1619 (.iaload) 1 := by decide +kernel
theorem dL_law_1620 : de mL_law 1620 (.aload_n 0) 1 := by decide +kernel
theorem dL_law_1621 : de mL_law 1621 (.iload_n 3) 1 := by decide +kernel
theorem dL_law_1622 : de mL_law 1622 (.iconst 2) 1 := by decide +kernel
theorem dL_law_1623 : de mL_law 1623 (.iadd) 1 := by decide +kernel
theorem dL_law_1624 : de mL_law 1624 (.iaload) 1 := by decide +kernel
theorem dL_law_1625 : de mL_law 1625 (.aload_n 0) 1 := by decide +kernel
theorem dL_law_1626 : de mL_law 1626 (.iload_n 3) 1 := by decide +kernel
theorem dL_law_1627 : de mL_law 1627 (.iconst 3) 1 := by decide +kernel
theorem dL_law_1628 : de mL_law 1628 (.iadd) 1 := by decide +kernel
theorem dL_law_1629 : de mL_law 1629 (.iaload) 1 := by decide +kernel
theorem dL_law_1630 : de mL_law 1630 (.invokevirtual 163) 3 := by decide +kernel
theorem dL_law_1633 : de mL_law 1633 (.if_icmp .eq 284) 3 := by decide +kernel
theorem dL_law_1636 : de mL_law 1636 (.iconst 0) 1 := by decide +kernel
theorem dL_law_1637 : de mL_law 1637 (.ireturn) 1 := by decide +kernel
theorem dL_law_1638 : de mL_law 1638 (.aload_n 1) 1 := by decide +kernel
theorem dL_law_1639 : de mL_law 1639 (.aload_n 0) 1 := by decide +kernel
theorem dL_law_1640 : de mL_law 1640 (.iload_n 3) 1 := by decide +kernel
theorem dL_law_1641 : de mL_law 1641 (.iconst 1) 1 := by decide +kernel
theorem dL_law_1642 : de mL_law 1642 (.iadd) 1 := by decide +kernel
theorem dL_law_1643 : de mL_law 1643 (.iaload) 1 := by decide +kernel
theorem dL_law_1644 : de mL_law 1644 (.aload_n 0) 1 := by decide +kernel
theorem dL_law_1645 : de mL_law 1645 (.iload_n 3) 1 := by decide +kernel
theorem dL_law_1646 : de mL_law 1646 (.iconst 2) 1 := by decide +kernel
theorem dL_law_1647 : de mL_law 1647 (.iadd) 1 := by decide +kernel
theorem dL_law_1648 : de mL_law 1648 (.iaload) 1 := by decide +kernel
theorem dL_law_1649 : de mL_law 1649 (.aload_n 0) 1 := by decide +kernel
theorem dL_law_1650 : de mL_law 1650 (.iload_n 3) 1 := by decide +kernel
theorem dL_law_1651 : de mL_law 1651 (.iconst 3) 1 := by decide +kernel
theorem dL_law_1652 : de mL_law 1652 (.iadd) 1 := by decide +kernel
theorem dL_law_1653 : de mL_law 1653 (.iaload) 1 := by decide +kernel
theorem dL_law_1654 : de mL_law 1654 (.i2l) 1 := by decide +kernel
theorem dL_law_1655 : de mL_law 1655 (.bipush 32) 2 := by decide +kernel
theorem dL_law_1657 : de mL_law 1657 (.lshl) 1 := by decide +kernel
theorem dL_law_1658 : de mL_law 1658 (.aload_n 0) 1 := by decide +kernel
theorem dL_law_1659 : de mL_law 1659 (.iload_n 3) 1 := by decide +kernel
theorem dL_law_1660 : de mL_law 1660 (.iconst 4) 1 := by decide +kernel
theorem dL_law_1661 : de mL_law 1661 (.iadd) 1 := by decide +kernel
theorem dL_law_1662 : de mL_law 1662 (.iaload) 1 := by decide +kernel
theorem dL_law_1663 : de mL_law 1663 (.i2l) 1 := by decide +kernel
theorem dL_law_1664 : de mL_law 1664 (.ldc2_w 36) 3 := by decide +kernel
theorem dL_law_1667 : de mL_law 1667 (.land) 1 := by decide +kernel
theorem dL_law_1668 : de mL_law 1668 (.lor) 1 := by decide +kernel
theorem dL_law_1669 : de mL_law 1669 (.invokevirtual 164) 3 := by decide +kernel
theorem dL_law_1672 : de mL_law 1672 (.aload_n 2) 1 := by decide +kernel
theorem dL_law_1673 : de mL_law 1673 (.aload_n 0) 1 := by decide +kernel
theorem dL_law_1674 : de mL_law 1674 (.iload_n 3) 1 := by decide +kernel
theorem dL_law_1675 : de mL_law 1675 (.iconst 1) 1 := by decide +kernel
theorem dL_law_1676 : de mL_law 1676 (.iadd) 1 := by decide +kernel
theorem dL_law_1677 : de mL_law 1677 (.iaload) 1 := by decide +kernel
theorem dL_law_1678 : de mL_law 1678 (.aload_n 0) 1 := by decide +kernel
theorem dL_law_1679 : de mL_law 1679 (.iload_n 3) 1 := by decide +kernel
theorem dL_law_1680 : de mL_law 1680 (.iconst 2) 1 := by decide +kernel
theorem dL_law_1681 : de mL_law 1681 (.iadd) 1 := by decide +kernel
theorem dL_law_1682 : de mL_law 1682 (.iaload) 1 := by decide +kernel
theorem dL_law_1683 : de mL_law 1683 (.aload_n 0) 1 := by decide +kernel
theorem dL_law_1684 : de mL_law 1684 (.iload_n 3) 1 := by decide +kernel
theorem dL_law_1685 : de mL_law 1685 (.iconst 3) 1 := by decide +kernel
theorem dL_law_1686 : de mL_law 1686 (.iadd) 1 := by decide +kernel
theorem dL_law_1687 : de mL_law 1687 (.iaload) 1 := by decide +kernel
theorem dL_law_1688 : de mL_law 1688 (.i2l) 1 := by decide +kernel
theorem dL_law_1689 : de mL_law 1689 (.bipush 32) 2 := by decide +kernel
theorem dL_law_1691 : de mL_law 1691 (.lshl) 1 := by decide +kernel
theorem dL_law_1692 : de mL_law 1692 (.aload_n 0) 1 := by decide +kernel
theorem dL_law_1693 : de mL_law 1693 (.iload_n 3) 1 := by decide +kernel
theorem dL_law_1694 : de mL_law 1694 (.iconst 4) 1 := by decide +kernel
theorem dL_law_1695 : de mL_law 1695 (.iadd) 1 := by decide +kernel
theorem dL_law_1696 : de mL_law 1696 (.iaload) 1 := by decide +kernel
theorem dL_law_1697 : de mL_law 1697 (.i2l) 1 := by decide +kernel
theorem dL_law_1698 : de mL_law 1698 (.ldc2_w 36) 3 := by decide +kernel
theorem dL_law_1701 : de mL_law 1701 (.land) 1 := by decide +kernel
theorem dL_law_1702 : de mL_law 1702 (.lor) 1 := by decide +kernel
theorem dL_law_1703 : de mL_law 1703 (.invokevirtual 168) 3 := by decide +kernel
theorem dL_law_1706 : de mL_law 1706 (.if_icmp .eq 211) 3 := by decide +kernel
theorem dL_law_1709 : de mL_law 1709 (.iconst 0) 1 := by decide +kernel
theorem dL_law_1710 : de mL_law 1710 (.ireturn) 1 := by decide +kernel
theorem dL_law_1711 : de mL_law 1711 (.aload_n 1) 1 := by decide +kernel
theorem dL_law_1712 : de mL_law 1712 (.aload_n 0) 1 := by decide +kernel
theorem dL_law_1713 : de mL_law 1713 (.iload_n 3) 1 := by decide +kernel
theorem dL_law_1714 : de mL_law 1714 (.iconst 1) 1 := by decide +kernel
theorem dL_law_1715 : de mL_law 1715 (.iadd) 1 := by decide +kernel
theorem dL_law_1716 : de mL_law 1716 (.iaload) 1 := by decide +kernel
theorem dL_law_1717 : de mL_law 1717 (.aload_n 0) 1 := by decide +kernel
theorem dL_law_1718 : de mL_law 1718 (.iload_n 3) 1 := by decide +kernel
theorem dL_law_1719 : de mL_law 1719 (.iconst 2) 1 := by decide +kernel
theorem dL_law_1720 : de mL_law 1720 (.iadd) 1 := by decide +kernel
theorem dL_law_1721 : de mL_law 1721 (.iaload) 1 := by decide +kernel
theorem dL_law_1722 : de mL_law 1722 (.invokevirtual 169) 3 := by decide +kernel
theorem dL_law_1725 : de mL_law 1725 (.aload_n 2) 1 := by decide +kernel
theorem dL_law_1726 : de mL_law 1726 (.aload_n 0) 1 := by decide +kernel
theorem dL_law_1727 : de mL_law 1727 (.iload_n 3) 1 := by decide +kernel
theorem dL_law_1728 : de mL_law 1728 (.iconst 1) 1 := by decide +kernel
theorem dL_law_1729 : de mL_law 1729 (.iadd) 1 := by decide +kernel
theorem dL_law_1730 : de mL_law 1730 (.iaload) 1 := by decide +kernel
theorem dL_law_1731 : de mL_law 1731 (.aload_n 0) 1 := by decide +kernel
theorem dL_law_1732 : de mL_law 1732 (.iload_n 3) 1 := by decide +kernel
theorem dL_law_1733 : de mL_law 1733 (.iconst 2) 1 := by decide +kernel
theorem dL_law_1734 : de mL_law 1734 (.iadd) 1 := by decide +kernel
theorem dL_law_1735 : de mL_law 1735 (.iaload) 1 := by decide +kernel
theorem dL_law_1736 : de mL_law 1736 (.invokevirtual 173) 3 := by decide +kernel
theorem dL_law_1739 : de mL_law 1739 (.lcmp) 1 := by decide +kernel
theorem dL_law_1740 : de mL_law 1740 (.ifCond .eq 177) 3 := by decide +kernel
theorem dL_law_1743 : de mL_law 1743 (.iconst 0) 1 := by decide +kernel
theorem dL_law_1744 : de mL_law 1744 (.ireturn) 1 := by decide +kernel
theorem dL_law_1745 : de mL_law 1745 (.aload_n 1) 1 := by decide +kernel
theorem dL_law_1746 : de mL_law 1746 (.aload_n 0) 1 := by decide +kernel
theorem dL_law_1747 : de mL_law 1747 (.iload_n 3) 1 := by decide +kernel
theorem dL_law_1748 : de mL_law 1748 (.iconst 1) 1 := by decide +kernel
theorem dL_law_1749 : de mL_law 1749 (.iadd) 1 := by decide +kernel
theorem dL_law_1750 : de mL_law 1750 (.iaload) 1 := by decide +kernel
theorem dL_law_1751 : de mL_law 1751 (.aload_n 0) 1 := by decide +kernel
theorem dL_law_1752 : de mL_law 1752 (.iload_n 3) 1 := by decide +kernel
theorem dL_law_1753 : de mL_law 1753 (.iconst 2) 1 := by decide +kernel
theorem dL_law_1754 : de mL_law 1754 (.iadd) 1 := by decide +kernel
theorem dL_law_1755 : de mL_law 1755 (.iaload) 1 := by decide +kernel
theorem dL_law_1756 : de mL_law 1756 (.aload_n 0) 1 := by decide +kernel
theorem dL_law_1757 : de mL_law 1757 (.iload_n 3) 1 := by decide +kernel
theorem dL_law_1758 : de mL_law 1758 (.iconst 3) 1 := by decide +kernel
theorem dL_law_1759 : de mL_law 1759 (.iadd) 1 := by decide +kernel
theorem dL_law_1760 : de mL_law 1760 (.iaload) 1 := by decide +kernel
theorem dL_law_1761 : de mL_law 1761 (.aload_n 0) 1 := by decide +kernel
theorem dL_law_1762 : de mL_law 1762 (.iload_n 3) 1 := by decide +kernel
theorem dL_law_1763 : de mL_law 1763 (.iconst 4) 1 := by decide +kernel
theorem dL_law_1764 : de mL_law 1764 (.iadd) 1 := by decide +kernel
theorem dL_law_1765 : de mL_law 1765 (.iaload) 1 := by decide +kernel
theorem dL_law_1766 : de mL_law 1766 (.aload_n 0) 1 := by decide +kernel
theorem dL_law_1767 : de mL_law 1767 (.iload_n 3) 1 := by decide +kernel
theorem dL_law_1768 : de mL_law 1768 (.iconst 5) 1 := by decide +kernel
theorem dL_law_1769 : de mL_law 1769 (.iadd) 1 := by decide +kernel
theorem dL_law_1770 : de mL_law 1770 (.iaload) 1 := by decide +kernel
theorem dL_law_1771 : de mL_law 1771 (.invokevirtual 174) 3 := by decide +kernel
theorem dL_law_1774 : de mL_law 1774 (.aload_n 2) 1 := by decide +kernel
theorem dL_law_1775 : de mL_law 1775 (.aload_n 0) 1 := by decide +kernel
theorem dL_law_1776 : de mL_law 1776 (.iload_n 3) 1 := by decide +kernel
theorem dL_law_1777 : de mL_law 1777 (.iconst 1) 1 := by decide +kernel
theorem dL_law_1778 : de mL_law 1778 (.iadd) 1 := by decide +kernel
theorem dL_law_1779 : de mL_law 1779 (.iaload) 1 := by decide +kernel
theorem dL_law_1780 : de mL_law 1780 (.aload_n 0) 1 := by decide +kernel
theorem dL_law_1781 : de mL_law 1781 (.iload_n 3) 1 := by decide +kernel
theorem dL_law_1782 : de mL_law 1782 (.iconst 2) 1 := by decide +kernel
theorem dL_law_1783 : de mL_law 1783 (.iadd) 1 := by decide +kernel
theorem dL_law_1784 : de mL_law 1784 (.iaload) 1 := by decide +kernel
theorem dL_law_1785 : de mL_law 1785 (.aload_n 0) 1 := by decide +kernel
theorem dL_law_1786 : de mL_law 1786 (.iload_n 3) 1 := by decide +kernel
theorem dL_law_1787 : de mL_law 1787 (.iconst 3) 1 := by decide +kernel
theorem dL_law_1788 : de mL_law 1788 (.iadd) 1 := by decide +kernel
theorem dL_law_1789 : de mL_law 1789 (.iaload) 1 := by decide +kernel
theorem dL_law_1790 : de mL_law 1790 (.aload_n 0) 1 := by decide +kernel
theorem dL_law_1791 : de mL_law 1791 (.iload_n 3) 1 := by decide +kernel
theorem dL_law_1792 : de mL_law 1792 (.iconst 4) 1 := by decide +kernel
theorem dL_law_1793 : de mL_law 1793 (.iadd) 1 := by decide +kernel
theorem dL_law_1794 : de mL_law 1794 (.iaload) 1 := by decide +kernel
theorem dL_law_1795 : de mL_law 1795 (.aload_n 0) 1 := by decide +kernel
theorem dL_law_1796 : de mL_law 1796 (.iload_n 3) 1 := by decide +kernel
theorem dL_law_1797 : de mL_law 1797 (.iconst 5) 1 := by decide +kernel
theorem dL_law_1798 : de mL_law 1798 (.iadd) 1 := by decide +kernel
theorem dL_law_1799 : de mL_law 1799 (.iaload) 1 := by decide +kernel
theorem dL_law_1800 : de mL_law 1800 (.invokevirtual 177) 3 := by decide +kernel
theorem dL_law_1803 : de mL_law 1803 (.if_icmp .eq 114) 3 := by decide +kernel
theorem dL_law_1806 : de mL_law 1806 (.iconst 0) 1 := by decide +kernel
theorem dL_law_1807 : de mL_law 1807 (.ireturn) 1 := by decide +kernel
theorem dL_law_1808 : de mL_law 1808 (.aload_n 1) 1 := by decide +kernel
theorem dL_law_1809 : de mL_law 1809 (.aload_n 0) 1 := by decide +kernel
theorem dL_law_1810 : de mL_law 1810 (.iload_n 3) 1 := by decide +kernel
theorem dL_law_1811 : de mL_law 1811 (.iconst 1) 1 := by decide +kernel
theorem dL_law_1812 : de mL_law 1812 (.iadd) 1 := by decide +kernel
theorem dL_law_1813 : de mL_law 1813 (.iaload) 1 := by decide +kernel
theorem dL_law_1814 : de mL_law 1814 (.aload_n 0) 1 := by decide +kernel
theorem dL_law_1815 : de mL_law 1815 (.iload_n 3) 1 := by decide +kernel
theorem dL_law_1816 : de mL_law 1816 (.iconst 2) 1 := by decide +kernel
theorem dL_law_1817 : de mL_law 1817 (.iadd) 1 := by decide +kernel
theorem dL_law_1818 : de mL_law 1818 (.iaload) 1 := by decide +kernel
theorem dL_law_1819 : de mL_law 1819 (.invokevirtual 178) 3 := by decide +kernel
theorem dL_law_1822 : de mL_law 1822 (.aload_n 2) 1 := by decide +kernel
theorem dL_law_1823 : de mL_law 1823 (.aload_n 0) 1 := by decide +kernel
theorem dL_law_1824 : de mL_law 1824 (.iload_n 3) 1 := by decide +kernel
theorem dL_law_1825 : de mL_law 1825 (.iconst 1) 1 := by decide +kernel
theorem dL_law_1826 : de mL_law 1826 (.iadd) 1 := by decide +kernel
theorem dL_law_1827 : de mL_law 1827 (.iaload) 1 := by decide +kernel
theorem dL_law_1828 : de mL_law 1828 (.aload_n 0) 1 := by decide +kernel
theorem dL_law_1829 : de mL_law 1829 (.iload_n 3) 1 := by decide +kernel
theorem dL_law_1830 : de mL_law 1830 (.iconst 2) 1 := by decide +kernel
theorem dL_law_1831 : de mL_law 1831 (.iadd) 1 := by decide +kernel
theorem dL_law_1832 : de mL_law 1832 (.iaload) 1 := by decide +kernel
theorem dL_law_1833 : de mL_law 1833 (.invokevirtual 181) 3 := by decide +kernel
theorem dL_law_1836 : de mL_law 1836 (.if_icmp .eq 81) 3 := by decide +kernel
theorem dL_law_1839 : de mL_law 1839 (.iconst 0) 1 := by decide +kernel
theorem dL_law_1840 : de mL_law 1840 (.ireturn) 1 := by decide +kernel
theorem dL_law_1841 : de mL_law 1841 (.aload_n 1) 1 := by decide +kernel
theorem dL_law_1842 : de mL_law 1842 (.aload_n 0) 1 := by decide +kernel
theorem dL_law_1843 : de mL_law 1843 (.iload_n 3) 1 := by decide +kernel
theorem dL_law_1844 : de mL_law 1844 (.iconst 1) 1 := by decide +kernel
theorem dL_law_1845 : de mL_law 1845 (.iadd) 1 := by decide +kernel
theorem dL_law_1846 : de mL_law 1846 (.iaload) 1 := by decide +kernel
theorem dL_law_1847 : de mL_law 1847 (.aload_n 0) 1 := by decide +kernel
theorem dL_law_1848 : de mL_law 1848 (.iload_n 3) 1 := by decide +kernel
theorem dL_law_1849 : de mL_law 1849 (.iconst 2) 1 := by decide +kernel
theorem dL_law_1850 : de mL_law 1850 (.iadd) 1 := by decide +kernel
theorem dL_law_1851 : de mL_law 1851 (.iaload) 1 := by decide +kernel
theorem dL_law_1852 : de mL_law 1852 (.aload_n 0) 1 := by decide +kernel
theorem dL_law_1853 : de mL_law 1853 (.iload_n 3) 1 := by decide +kernel
theorem dL_law_1854 : de mL_law 1854 (.iconst 3) 1 := by decide +kernel
theorem dL_law_1855 : de mL_law 1855 (.iadd) 1 := by decide +kernel
theorem dL_law_1856 : de mL_law 1856 (.iaload) 1 := by decide +kernel
theorem dL_law_1857 : de mL_law 1857 (.aload_n 0) 1 := by decide +kernel
theorem dL_law_1858 : de mL_law 1858 (.iload_n 3) 1 := by decide +kernel
theorem dL_law_1859 : de mL_law 1859 (.iconst 4) 1 := by decide +kernel
theorem dL_law_1860 : de mL_law 1860 (.iadd) 1 := by decide +kernel
theorem dL_law_1861 : de mL_law 1861 (.iaload) 1 := by decide +kernel
theorem dL_law_1862 : de mL_law 1862 (.invokevirtual 182) 3 := by decide +kernel
theorem dL_law_1865 : de mL_law 1865 (.aload_n 2) 1 := by decide +kernel
theorem dL_law_1866 : de mL_law 1866 (.aload_n 0) 1 := by decide +kernel
theorem dL_law_1867 : de mL_law 1867 (.iload_n 3) 1 := by decide +kernel
theorem dL_law_1868 : de mL_law 1868 (.iconst 1) 1 := by decide +kernel
theorem dL_law_1869 : de mL_law 1869 (.iadd) 1 := by decide +kernel
theorem dL_law_1870 : de mL_law 1870 (.iaload) 1 := by decide +kernel
theorem dL_law_1871 : de mL_law 1871 (.aload_n 0) 1 := by decide +kernel
theorem dL_law_1872 : de mL_law 1872 (.iload_n 3) 1 := by decide +kernel
theorem dL_law_1873 : de mL_law 1873 (.iconst 2) 1 := by decide +kernel
theorem dL_law_1874 : de mL_law 1874 (.iadd) 1 := by decide +kernel
theorem dL_law_1875 : de mL_law 1875 (.iaload) 1 := by decide +kernel
theorem dL_law_1876 : de mL_law 1876 (.aload_n 0) 1 := by decide +kernel
theorem dL_law_1877 : de mL_law 1877 (.iload_n 3) 1 := by decide +kernel
theorem dL_law_1878 : de mL_law 1878 (.iconst 3) 1 := by decide +kernel
theorem dL_law_1879 : de mL_law 1879 (.iadd) 1 := by decide +kernel
theorem dL_law_1880 : de mL_law 1880 (.iaload) 1 := by decide +kernel
theorem dL_law_1881 : de mL_law 1881 (.aload_n 0) 1 := by decide +kernel
theorem dL_law_1882 : de mL_law 1882 (.iload_n 3) 1 := by decide +kernel
theorem dL_law_1883 : de mL_law 1883 (.iconst 4) 1 := by decide +kernel
theorem dL_law_1884 : de mL_law 1884 (.iadd) 1 := by decide +kernel
theorem dL_law_1885 : de mL_law 1885 (.iaload) 1 := by decide +kernel
theorem dL_law_1886 : de mL_law 1886 (.invokevirtual 185) 3 := by decide +kernel
theorem dL_law_1889 : de mL_law 1889 (.if_icmp .eq 28) 3 := by decide +kernel
theorem dL_law_1892 : de mL_law 1892 (.iconst 0) 1 := by decide +kernel
theorem dL_law_1893 : de mL_law 1893 (.ireturn) 1 := by decide +kernel
theorem dL_law_1894 : de mL_law 1894 (.aload_n 1) 1 := by decide +kernel
theorem dL_law_1895 : de mL_law 1895 (.aload_n 0) 1 := by decide +kernel
theorem dL_law_1896 : de mL_law 1896 (.iload_n 3) 1 := by decide +kernel
theorem dL_law_1897 : de mL_law 1897 (.iconst 1) 1 := by decide +kernel
theorem dL_law_1898 : de mL_law 1898 (.iadd) 1 := by decide +kernel
theorem dL_law_1899 : de mL_law 1899 (.iaload) 1 := by decide +kernel
theorem dL_law_1900 : de mL_law 1900 (.invokevirtual 186) 3 := by decide +kernel
theorem dL_law_1903 : de mL_law 1903 (.aload_n 2) 1 := by decide +kernel
theorem dL_law_1904 : de mL_law 1904 (.aload_n 0) 1 := by decide +kernel
theorem dL_law_1905 : de mL_law 1905 (.iload_n 3) 1 := by decide +kernel
theorem dL_law_1906 : de mL_law 1906 (.iconst 1) 1 := by decide +kernel
theorem dL_law_1907 : de mL_law 1907 (.iadd) 1 := by decide +kernel
theorem dL_law_1908 : de mL_law 1908 (.iaload) 1 := by decide +kernel
theorem dL_law_1909 : de mL_law 1909 (.invokevirtual 189) 3 := by decide +kernel
theorem dL_law_1912 : de mL_law 1912 (.if_icmp .eq 5) 3 := by decide +kernel
theorem dL_law_1915 : de mL_law 1915 (.iconst 0) 1 := by decide +kernel
theorem dL_law_1916 : de mL_law 1916 (.ireturn) 1 := by decide +kernel
theorem dL_law_1917 : de mL_law 1917 (.iinc 3 6) 3 := by decide +kernel
theorem dL_law_1920 : de mL_law 1920 (.goto (-1902)) 3 := by decide +kernel
theorem dL_law_1923 : de mL_law 1923 (.iconst 1) 1 := by decide +kernel
theorem dL_law_1924 : de mL_law 1924 (.ireturn) 1 := by decide +kernel
def f_L_law_1917 (k_18 : Nat → Nat → Nat → Int32 → AH → Option (Int32 × AH)) (x0 : Nat) (x1 : Nat) (x2 : Nat) (x3 : Int32) (h : AH) : Option (Int32 × AH) := nm (x3 + (iv 6)) fun w1 => k_18 x0 x1 x2 w1 h
def f_L_law_212 (k_18 : Nat → Nat → Nat → Int32 → AH → Option (Int32 × AH)) (x0 : Nat) (x1 : Nat) (x2 : Nat) (x3 : Int32) (h : AH) : Option (Int32 × AH) := if x0 = 2 ∧ ib (x3 + (iv 1)) (gN h 2) = true then (if x0 = 2 ∧ ib (x3 + (iv 2)) (gN h 2) = true then (if gK h x1 = 111 then cb (f_X11_feed x1 (gI h 2 ((x3 + (iv 1))).toNatClampNeg) (gI h 2 ((x3 + (iv 2))).toNatClampNeg) h) fun r2 g1 => (if x0 = 2 ∧ ib (x3 + (iv 1)) (gN g1 2) = true then (if x0 = 2 ∧ ib (x3 + (iv 2)) (gN g1 2) = true then (if gK g1 x2 = 112 then cb (f_X12_feed x2 (gI g1 2 ((x3 + (iv 1))).toNatClampNeg) (gI g1 2 ((x3 + (iv 2))).toNatClampNeg) g1) fun r4 g3 => (if r2 = r4 then (f_L_law_1917 k_18 x0 x1 x2 x3 g3) else zret (iv 0) g3) else none) else none) else none) else none) else none) else none
def f_L_law_245 (k_18 : Nat → Nat → Nat → Int32 → AH → Option (Int32 × AH)) (x0 : Nat) (x1 : Nat) (x2 : Nat) (x3 : Int32) (h : AH) : Option (Int32 × AH) := if gK h x1 = 111 then cb (f_X11_matter x1 h) fun r2 g1 => (if gK g1 x2 = 112 then cb (f_X12_matter x2 g1) fun r4 g3 => (if r2 = r4 then (f_L_law_1917 k_18 x0 x1 x2 x3 g3) else zret (iv 0) g3) else none) else none
def f_L_law_258 (k_18 : Nat → Nat → Nat → Int32 → AH → Option (Int32 × AH)) (x0 : Nat) (x1 : Nat) (x2 : Nat) (x3 : Int32) (h : AH) : Option (Int32 × AH) := if x0 = 2 ∧ ib (x3 + (iv 1)) (gN h 2) = true then (if x0 = 2 ∧ ib (x3 + (iv 2)) (gN h 2) = true then (if gK h x1 = 111 then cb (f_X11_of x1 (gI h 2 ((x3 + (iv 1))).toNatClampNeg) (gI h 2 ((x3 + (iv 2))).toNatClampNeg) h) fun r2 g1 => (if x0 = 2 ∧ ib (x3 + (iv 1)) (gN g1 2) = true then (if x0 = 2 ∧ ib (x3 + (iv 2)) (gN g1 2) = true then (if gK g1 x2 = 112 then cb (f_X12_of x2 (gI g1 2 ((x3 + (iv 1))).toNatClampNeg) (gI g1 2 ((x3 + (iv 2))).toNatClampNeg) g1) fun r4 g3 => (if r2 = r4 then (f_L_law_1917 k_18 x0 x1 x2 x3 g3) else zret (iv 0) g3) else none) else none) else none) else none) else none) else none
def f_L_law_291 (k_18 : Nat → Nat → Nat → Int32 → AH → Option (Int32 × AH)) (x0 : Nat) (x1 : Nat) (x2 : Nat) (x3 : Int32) (h : AH) : Option (Int32 × AH) := if x0 = 2 ∧ ib (x3 + (iv 1)) (gN h 2) = true then (if x0 = 2 ∧ ib (x3 + (iv 2)) (gN h 2) = true then (if gK h x1 = 111 then cb (f_X11_sum x1 (gI h 2 ((x3 + (iv 1))).toNatClampNeg) (gI h 2 ((x3 + (iv 2))).toNatClampNeg) h) fun r2 g1 => (if x0 = 2 ∧ ib (x3 + (iv 1)) (gN g1 2) = true then (if x0 = 2 ∧ ib (x3 + (iv 2)) (gN g1 2) = true then (if gK g1 x2 = 112 then cb (f_X12_sum x2 (gI g1 2 ((x3 + (iv 1))).toNatClampNeg) (gI g1 2 ((x3 + (iv 2))).toNatClampNeg) g1) fun r4 g3 => (if r2 = r4 then (f_L_law_1917 k_18 x0 x1 x2 x3 g3) else zret (iv 0) g3) else none) else none) else none) else none) else none) else none
def f_L_law_324 (k_18 : Nat → Nat → Nat → Int32 → AH → Option (Int32 × AH)) (x0 : Nat) (x1 : Nat) (x2 : Nat) (x3 : Int32) (h : AH) : Option (Int32 × AH) := if x0 = 2 ∧ ib (x3 + (iv 1)) (gN h 2) = true then (if gK h x1 = 111 then cb (f_X11_many x1 (gI h 2 ((x3 + (iv 1))).toNatClampNeg) h) fun r2 g1 => (if x0 = 2 ∧ ib (x3 + (iv 1)) (gN g1 2) = true then (if gK g1 x2 = 112 then cb (f_X12_many x2 (gI g1 2 ((x3 + (iv 1))).toNatClampNeg) g1) fun r4 g3 => (if (lg_cmp r2 r4) = 0 then (f_L_law_1917 k_18 x0 x1 x2 x3 g3) else zret (iv 0) g3) else none) else none) else none) else none
def f_L_law_348 (k_18 : Nat → Nat → Nat → Int32 → AH → Option (Int32 × AH)) (x0 : Nat) (x1 : Nat) (x2 : Nat) (x3 : Int32) (h : AH) : Option (Int32 × AH) := if x0 = 2 ∧ ib (x3 + (iv 1)) (gN h 2) = true then (if x0 = 2 ∧ ib (x3 + (iv 2)) (gN h 2) = true then (if x0 = 2 ∧ ib (x3 + (iv 3)) (gN h 2) = true then (if x0 = 2 ∧ ib (x3 + (iv 4)) (gN h 2) = true then (if gK h x1 = 111 then cb (f_X11_table x1 (gI h 2 ((x3 + (iv 1))).toNatClampNeg) ((x_lshl ((gI h 2 ((x3 + (iv 2))).toNatClampNeg)).toInt64 (iv 32)) ||| (((gI h 2 ((x3 + (iv 3))).toNatClampNeg)).toInt64 &&& (jv 4294967295))) (gI h 2 ((x3 + (iv 4))).toNatClampNeg) h) fun r2 g1 => (if x0 = 2 ∧ ib (x3 + (iv 1)) (gN g1 2) = true then (if x0 = 2 ∧ ib (x3 + (iv 2)) (gN g1 2) = true then (if x0 = 2 ∧ ib (x3 + (iv 3)) (gN g1 2) = true then (if x0 = 2 ∧ ib (x3 + (iv 4)) (gN g1 2) = true then (if gK g1 x2 = 112 then cb (f_X12_table x2 (gI g1 2 ((x3 + (iv 1))).toNatClampNeg) ((x_lshl ((gI g1 2 ((x3 + (iv 2))).toNatClampNeg)).toInt64 (iv 32)) ||| (((gI g1 2 ((x3 + (iv 3))).toNatClampNeg)).toInt64 &&& (jv 4294967295))) (gI g1 2 ((x3 + (iv 4))).toNatClampNeg) g1) fun r4 g3 => (if r2 = r4 then (f_L_law_1917 k_18 x0 x1 x2 x3 g3) else zret (iv 0) g3) else none) else none) else none) else none) else none) else none) else none) else none) else none) else none
def f_L_law_421 (k_18 : Nat → Nat → Nat → Int32 → AH → Option (Int32 × AH)) (x0 : Nat) (x1 : Nat) (x2 : Nat) (x3 : Int32) (h : AH) : Option (Int32 × AH) := if x0 = 2 ∧ ib (x3 + (iv 1)) (gN h 2) = true then (if x0 = 2 ∧ ib (x3 + (iv 2)) (gN h 2) = true then (if x0 = 2 ∧ ib (x3 + (iv 3)) (gN h 2) = true then (if x0 = 2 ∧ ib (x3 + (iv 4)) (gN h 2) = true then (if gK h x1 = 111 then cb (f_X11_drawn x1 (gI h 2 ((x3 + (iv 1))).toNatClampNeg) ((x_lshl ((gI h 2 ((x3 + (iv 2))).toNatClampNeg)).toInt64 (iv 32)) ||| (((gI h 2 ((x3 + (iv 3))).toNatClampNeg)).toInt64 &&& (jv 4294967295))) (gI h 2 ((x3 + (iv 4))).toNatClampNeg) h) fun r2 g1 => (if x0 = 2 ∧ ib (x3 + (iv 1)) (gN g1 2) = true then (if x0 = 2 ∧ ib (x3 + (iv 2)) (gN g1 2) = true then (if x0 = 2 ∧ ib (x3 + (iv 3)) (gN g1 2) = true then (if x0 = 2 ∧ ib (x3 + (iv 4)) (gN g1 2) = true then (if gK g1 x2 = 112 then cb (f_X12_drawn x2 (gI g1 2 ((x3 + (iv 1))).toNatClampNeg) ((x_lshl ((gI g1 2 ((x3 + (iv 2))).toNatClampNeg)).toInt64 (iv 32)) ||| (((gI g1 2 ((x3 + (iv 3))).toNatClampNeg)).toInt64 &&& (jv 4294967295))) (gI g1 2 ((x3 + (iv 4))).toNatClampNeg) g1) fun r4 g3 => (if r2 = r4 then (f_L_law_1917 k_18 x0 x1 x2 x3 g3) else zret (iv 0) g3) else none) else none) else none) else none) else none) else none) else none) else none) else none) else none
def f_L_law_494 (k_18 : Nat → Nat → Nat → Int32 → AH → Option (Int32 × AH)) (x0 : Nat) (x1 : Nat) (x2 : Nat) (x3 : Int32) (h : AH) : Option (Int32 × AH) := if x0 = 2 ∧ ib (x3 + (iv 1)) (gN h 2) = true then (if x0 = 2 ∧ ib (x3 + (iv 2)) (gN h 2) = true then (if x0 = 2 ∧ ib (x3 + (iv 3)) (gN h 2) = true then (if gK h x1 = 111 then cb (f_X11_may x1 (gI h 2 ((x3 + (iv 1))).toNatClampNeg) (gI h 2 ((x3 + (iv 2))).toNatClampNeg) (gI h 2 ((x3 + (iv 3))).toNatClampNeg) h) fun r2 g1 => (if x0 = 2 ∧ ib (x3 + (iv 1)) (gN g1 2) = true then (if x0 = 2 ∧ ib (x3 + (iv 2)) (gN g1 2) = true then (if x0 = 2 ∧ ib (x3 + (iv 3)) (gN g1 2) = true then (if gK g1 x2 = 112 then cb (f_X12_may x2 (gI g1 2 ((x3 + (iv 1))).toNatClampNeg) (gI g1 2 ((x3 + (iv 2))).toNatClampNeg) (gI g1 2 ((x3 + (iv 3))).toNatClampNeg) g1) fun r4 g3 => (if r2 = r4 then (f_L_law_1917 k_18 x0 x1 x2 x3 g3) else zret (iv 0) g3) else none) else none) else none) else none) else none) else none) else none) else none
def f_L_law_537 (k_18 : Nat → Nat → Nat → Int32 → AH → Option (Int32 × AH)) (x0 : Nat) (x1 : Nat) (x2 : Nat) (x3 : Int32) (h : AH) : Option (Int32 × AH) := if x0 = 2 ∧ ib (x3 + (iv 1)) (gN h 2) = true then (if x0 = 2 ∧ ib (x3 + (iv 2)) (gN h 2) = true then (if x0 = 2 ∧ ib (x3 + (iv 3)) (gN h 2) = true then (if gK h x1 = 111 then cb (f_X11_open x1 (gI h 2 ((x3 + (iv 1))).toNatClampNeg) (gI h 2 ((x3 + (iv 2))).toNatClampNeg) (gI h 2 ((x3 + (iv 3))).toNatClampNeg) h) fun r2 g1 => (if x0 = 2 ∧ ib (x3 + (iv 1)) (gN g1 2) = true then (if x0 = 2 ∧ ib (x3 + (iv 2)) (gN g1 2) = true then (if x0 = 2 ∧ ib (x3 + (iv 3)) (gN g1 2) = true then (if gK g1 x2 = 112 then cb (f_X12_open x2 (gI g1 2 ((x3 + (iv 1))).toNatClampNeg) (gI g1 2 ((x3 + (iv 2))).toNatClampNeg) (gI g1 2 ((x3 + (iv 3))).toNatClampNeg) g1) fun r4 g3 => (if r2 = r4 then (f_L_law_1917 k_18 x0 x1 x2 x3 g3) else zret (iv 0) g3) else none) else none) else none) else none) else none) else none) else none) else none
def f_L_law_580 (k_18 : Nat → Nat → Nat → Int32 → AH → Option (Int32 × AH)) (x0 : Nat) (x1 : Nat) (x2 : Nat) (x3 : Int32) (h : AH) : Option (Int32 × AH) := if x0 = 2 ∧ ib (x3 + (iv 1)) (gN h 2) = true then (if x0 = 2 ∧ ib (x3 + (iv 2)) (gN h 2) = true then (if x0 = 2 ∧ ib (x3 + (iv 3)) (gN h 2) = true then (if gK h x1 = 111 then cb (f_X11_ends x1 (gI h 2 ((x3 + (iv 1))).toNatClampNeg) (gI h 2 ((x3 + (iv 2))).toNatClampNeg) (gI h 2 ((x3 + (iv 3))).toNatClampNeg) h) fun r2 g1 => (if x0 = 2 ∧ ib (x3 + (iv 1)) (gN g1 2) = true then (if x0 = 2 ∧ ib (x3 + (iv 2)) (gN g1 2) = true then (if x0 = 2 ∧ ib (x3 + (iv 3)) (gN g1 2) = true then (if gK g1 x2 = 112 then cb (f_X12_ends x2 (gI g1 2 ((x3 + (iv 1))).toNatClampNeg) (gI g1 2 ((x3 + (iv 2))).toNatClampNeg) (gI g1 2 ((x3 + (iv 3))).toNatClampNeg) g1) fun r4 g3 => (if r2 = r4 then (f_L_law_1917 k_18 x0 x1 x2 x3 g3) else zret (iv 0) g3) else none) else none) else none) else none) else none) else none) else none) else none
def f_L_law_623 (k_18 : Nat → Nat → Nat → Int32 → AH → Option (Int32 × AH)) (x0 : Nat) (x1 : Nat) (x2 : Nat) (x3 : Int32) (h : AH) : Option (Int32 × AH) := if x0 = 2 ∧ ib (x3 + (iv 1)) (gN h 2) = true then (if x0 = 2 ∧ ib (x3 + (iv 2)) (gN h 2) = true then (if x0 = 2 ∧ ib (x3 + (iv 3)) (gN h 2) = true then (if gK h x1 = 111 then cb (f_X11_inAll x1 (gI h 2 ((x3 + (iv 1))).toNatClampNeg) (gI h 2 ((x3 + (iv 2))).toNatClampNeg) (gI h 2 ((x3 + (iv 3))).toNatClampNeg) h) fun r2 g1 => (if x0 = 2 ∧ ib (x3 + (iv 1)) (gN g1 2) = true then (if x0 = 2 ∧ ib (x3 + (iv 2)) (gN g1 2) = true then (if x0 = 2 ∧ ib (x3 + (iv 3)) (gN g1 2) = true then (if gK g1 x2 = 112 then cb (f_X12_inAll x2 (gI g1 2 ((x3 + (iv 1))).toNatClampNeg) (gI g1 2 ((x3 + (iv 2))).toNatClampNeg) (gI g1 2 ((x3 + (iv 3))).toNatClampNeg) g1) fun r4 g3 => (if r2 = r4 then (f_L_law_1917 k_18 x0 x1 x2 x3 g3) else zret (iv 0) g3) else none) else none) else none) else none) else none) else none) else none) else none
def f_L_law_666 (k_18 : Nat → Nat → Nat → Int32 → AH → Option (Int32 × AH)) (x0 : Nat) (x1 : Nat) (x2 : Nat) (x3 : Int32) (h : AH) : Option (Int32 × AH) := if x0 = 2 ∧ ib (x3 + (iv 1)) (gN h 2) = true then (if x0 = 2 ∧ ib (x3 + (iv 2)) (gN h 2) = true then (if gK h x1 = 111 then cb (f_X11_sure x1 (gI h 2 ((x3 + (iv 1))).toNatClampNeg) (gI h 2 ((x3 + (iv 2))).toNatClampNeg) h) fun r2 g1 => (if x0 = 2 ∧ ib (x3 + (iv 1)) (gN g1 2) = true then (if x0 = 2 ∧ ib (x3 + (iv 2)) (gN g1 2) = true then (if gK g1 x2 = 112 then cb (f_X12_sure x2 (gI g1 2 ((x3 + (iv 1))).toNatClampNeg) (gI g1 2 ((x3 + (iv 2))).toNatClampNeg) g1) fun r4 g3 => (if r2 = r4 then (f_L_law_1917 k_18 x0 x1 x2 x3 g3) else zret (iv 0) g3) else none) else none) else none) else none) else none) else none
def f_L_law_699 (k_18 : Nat → Nat → Nat → Int32 → AH → Option (Int32 × AH)) (x0 : Nat) (x1 : Nat) (x2 : Nat) (x3 : Int32) (h : AH) : Option (Int32 × AH) := if x0 = 2 ∧ ib (x3 + (iv 1)) (gN h 2) = true then (if x0 = 2 ∧ ib (x3 + (iv 2)) (gN h 2) = true then (if gK h x1 = 111 then cb (f_X11_next x1 (gI h 2 ((x3 + (iv 1))).toNatClampNeg) (gI h 2 ((x3 + (iv 2))).toNatClampNeg) h) fun r2 g1 => (if x0 = 2 ∧ ib (x3 + (iv 1)) (gN g1 2) = true then (if x0 = 2 ∧ ib (x3 + (iv 2)) (gN g1 2) = true then (if gK g1 x2 = 112 then cb (f_X12_next x2 (gI g1 2 ((x3 + (iv 1))).toNatClampNeg) (gI g1 2 ((x3 + (iv 2))).toNatClampNeg) g1) fun r4 g3 => (if r2 = r4 then (f_L_law_1917 k_18 x0 x1 x2 x3 g3) else zret (iv 0) g3) else none) else none) else none) else none) else none) else none
def f_L_law_732 (k_18 : Nat → Nat → Nat → Int32 → AH → Option (Int32 × AH)) (x0 : Nat) (x1 : Nat) (x2 : Nat) (x3 : Int32) (h : AH) : Option (Int32 × AH) := if x0 = 2 ∧ ib (x3 + (iv 1)) (gN h 2) = true then (if x0 = 2 ∧ ib (x3 + (iv 2)) (gN h 2) = true then (if x0 = 2 ∧ ib (x3 + (iv 3)) (gN h 2) = true then (if gK h x1 = 111 then cb (f_X11_opens x1 (gI h 2 ((x3 + (iv 1))).toNatClampNeg) (gI h 2 ((x3 + (iv 2))).toNatClampNeg) (gI h 2 ((x3 + (iv 3))).toNatClampNeg) h) fun r2 g1 => (if x0 = 2 ∧ ib (x3 + (iv 1)) (gN g1 2) = true then (if x0 = 2 ∧ ib (x3 + (iv 2)) (gN g1 2) = true then (if x0 = 2 ∧ ib (x3 + (iv 3)) (gN g1 2) = true then (if gK g1 x2 = 112 then cb (f_X12_opens x2 (gI g1 2 ((x3 + (iv 1))).toNatClampNeg) (gI g1 2 ((x3 + (iv 2))).toNatClampNeg) (gI g1 2 ((x3 + (iv 3))).toNatClampNeg) g1) fun r4 g3 => (if r2 = r4 then (f_L_law_1917 k_18 x0 x1 x2 x3 g3) else zret (iv 0) g3) else none) else none) else none) else none) else none) else none) else none) else none
def f_L_law_775 (k_18 : Nat → Nat → Nat → Int32 → AH → Option (Int32 × AH)) (x0 : Nat) (x1 : Nat) (x2 : Nat) (x3 : Int32) (h : AH) : Option (Int32 × AH) := if x0 = 2 ∧ ib (x3 + (iv 1)) (gN h 2) = true then (if x0 = 2 ∧ ib (x3 + (iv 2)) (gN h 2) = true then (if x0 = 2 ∧ ib (x3 + (iv 3)) (gN h 2) = true then (if x0 = 2 ∧ ib (x3 + (iv 4)) (gN h 2) = true then (if x0 = 2 ∧ ib (x3 + (iv 5)) (gN h 2) = true then (if gK h x1 = 111 then cb (f_X11_hold x1 (gI h 2 ((x3 + (iv 1))).toNatClampNeg) (gI h 2 ((x3 + (iv 2))).toNatClampNeg) (gI h 2 ((x3 + (iv 3))).toNatClampNeg) (gI h 2 ((x3 + (iv 4))).toNatClampNeg) (gI h 2 ((x3 + (iv 5))).toNatClampNeg) h) fun r2 g1 => (if x0 = 2 ∧ ib (x3 + (iv 1)) (gN g1 2) = true then (if x0 = 2 ∧ ib (x3 + (iv 2)) (gN g1 2) = true then (if x0 = 2 ∧ ib (x3 + (iv 3)) (gN g1 2) = true then (if x0 = 2 ∧ ib (x3 + (iv 4)) (gN g1 2) = true then (if x0 = 2 ∧ ib (x3 + (iv 5)) (gN g1 2) = true then (if gK g1 x2 = 112 then cb (f_X12_hold x2 (gI g1 2 ((x3 + (iv 1))).toNatClampNeg) (gI g1 2 ((x3 + (iv 2))).toNatClampNeg) (gI g1 2 ((x3 + (iv 3))).toNatClampNeg) (gI g1 2 ((x3 + (iv 4))).toNatClampNeg) (gI g1 2 ((x3 + (iv 5))).toNatClampNeg) g1) fun r4 g3 => (if r2 = r4 then (f_L_law_1917 k_18 x0 x1 x2 x3 g3) else zret (iv 0) g3) else none) else none) else none) else none) else none) else none) else none) else none) else none) else none) else none) else none
def f_L_law_838 (k_18 : Nat → Nat → Nat → Int32 → AH → Option (Int32 × AH)) (x0 : Nat) (x1 : Nat) (x2 : Nat) (x3 : Int32) (h : AH) : Option (Int32 × AH) := if x0 = 2 ∧ ib (x3 + (iv 1)) (gN h 2) = true then (if x0 = 2 ∧ ib (x3 + (iv 2)) (gN h 2) = true then (if x0 = 2 ∧ ib (x3 + (iv 3)) (gN h 2) = true then (if x0 = 2 ∧ ib (x3 + (iv 4)) (gN h 2) = true then (if gK h x1 = 111 then cb (f_X11_by x1 (gI h 2 ((x3 + (iv 1))).toNatClampNeg) (gI h 2 ((x3 + (iv 2))).toNatClampNeg) (gI h 2 ((x3 + (iv 3))).toNatClampNeg) (gI h 2 ((x3 + (iv 4))).toNatClampNeg) h) fun r2 g1 => (if x0 = 2 ∧ ib (x3 + (iv 1)) (gN g1 2) = true then (if x0 = 2 ∧ ib (x3 + (iv 2)) (gN g1 2) = true then (if x0 = 2 ∧ ib (x3 + (iv 3)) (gN g1 2) = true then (if x0 = 2 ∧ ib (x3 + (iv 4)) (gN g1 2) = true then (if gK g1 x2 = 112 then cb (f_X12_by x2 (gI g1 2 ((x3 + (iv 1))).toNatClampNeg) (gI g1 2 ((x3 + (iv 2))).toNatClampNeg) (gI g1 2 ((x3 + (iv 3))).toNatClampNeg) (gI g1 2 ((x3 + (iv 4))).toNatClampNeg) g1) fun r4 g3 => (if r2 = r4 then (f_L_law_1917 k_18 x0 x1 x2 x3 g3) else zret (iv 0) g3) else none) else none) else none) else none) else none) else none) else none) else none) else none) else none
def f_L_law_891 (k_18 : Nat → Nat → Nat → Int32 → AH → Option (Int32 × AH)) (x0 : Nat) (x1 : Nat) (x2 : Nat) (x3 : Int32) (h : AH) : Option (Int32 × AH) := if x0 = 2 ∧ ib (x3 + (iv 1)) (gN h 2) = true then (if x0 = 2 ∧ ib (x3 + (iv 2)) (gN h 2) = true then (if gK h x1 = 111 then cb (f_X11_none x1 (gI h 2 ((x3 + (iv 1))).toNatClampNeg) (gI h 2 ((x3 + (iv 2))).toNatClampNeg) h) fun r2 g1 => (if x0 = 2 ∧ ib (x3 + (iv 1)) (gN g1 2) = true then (if x0 = 2 ∧ ib (x3 + (iv 2)) (gN g1 2) = true then (if gK g1 x2 = 112 then cb (f_X12_none x2 (gI g1 2 ((x3 + (iv 1))).toNatClampNeg) (gI g1 2 ((x3 + (iv 2))).toNatClampNeg) g1) fun r4 g3 => (if r2 = r4 then (f_L_law_1917 k_18 x0 x1 x2 x3 g3) else zret (iv 0) g3) else none) else none) else none) else none) else none) else none
def f_L_law_924 (k_18 : Nat → Nat → Nat → Int32 → AH → Option (Int32 × AH)) (x0 : Nat) (x1 : Nat) (x2 : Nat) (x3 : Int32) (h : AH) : Option (Int32 × AH) := if x0 = 2 ∧ ib (x3 + (iv 1)) (gN h 2) = true then (if x0 = 2 ∧ ib (x3 + (iv 2)) (gN h 2) = true then (if x0 = 2 ∧ ib (x3 + (iv 3)) (gN h 2) = true then (if x0 = 2 ∧ ib (x3 + (iv 4)) (gN h 2) = true then (if gK h x1 = 111 then cb (f_X11_claim x1 (gI h 2 ((x3 + (iv 1))).toNatClampNeg) (gI h 2 ((x3 + (iv 2))).toNatClampNeg) (gI h 2 ((x3 + (iv 3))).toNatClampNeg) (gI h 2 ((x3 + (iv 4))).toNatClampNeg) h) fun r2 g1 => (if x0 = 2 ∧ ib (x3 + (iv 1)) (gN g1 2) = true then (if x0 = 2 ∧ ib (x3 + (iv 2)) (gN g1 2) = true then (if x0 = 2 ∧ ib (x3 + (iv 3)) (gN g1 2) = true then (if x0 = 2 ∧ ib (x3 + (iv 4)) (gN g1 2) = true then (if gK g1 x2 = 112 then cb (f_X12_claim x2 (gI g1 2 ((x3 + (iv 1))).toNatClampNeg) (gI g1 2 ((x3 + (iv 2))).toNatClampNeg) (gI g1 2 ((x3 + (iv 3))).toNatClampNeg) (gI g1 2 ((x3 + (iv 4))).toNatClampNeg) g1) fun r4 g3 => (if r2 = r4 then (f_L_law_1917 k_18 x0 x1 x2 x3 g3) else zret (iv 0) g3) else none) else none) else none) else none) else none) else none) else none) else none) else none) else none
def f_L_law_977 (k_18 : Nat → Nat → Nat → Int32 → AH → Option (Int32 × AH)) (x0 : Nat) (x1 : Nat) (x2 : Nat) (x3 : Int32) (h : AH) : Option (Int32 × AH) := if x0 = 2 ∧ ib (x3 + (iv 1)) (gN h 2) = true then (if x0 = 2 ∧ ib (x3 + (iv 2)) (gN h 2) = true then (if x0 = 2 ∧ ib (x3 + (iv 3)) (gN h 2) = true then (if x0 = 2 ∧ ib (x3 + (iv 4)) (gN h 2) = true then (if gK h x1 = 111 then cb (f_X11_must x1 (gI h 2 ((x3 + (iv 1))).toNatClampNeg) (gI h 2 ((x3 + (iv 2))).toNatClampNeg) (gI h 2 ((x3 + (iv 3))).toNatClampNeg) (gI h 2 ((x3 + (iv 4))).toNatClampNeg) h) fun r2 g1 => (if x0 = 2 ∧ ib (x3 + (iv 1)) (gN g1 2) = true then (if x0 = 2 ∧ ib (x3 + (iv 2)) (gN g1 2) = true then (if x0 = 2 ∧ ib (x3 + (iv 3)) (gN g1 2) = true then (if x0 = 2 ∧ ib (x3 + (iv 4)) (gN g1 2) = true then (if gK g1 x2 = 112 then cb (f_X12_must x2 (gI g1 2 ((x3 + (iv 1))).toNatClampNeg) (gI g1 2 ((x3 + (iv 2))).toNatClampNeg) (gI g1 2 ((x3 + (iv 3))).toNatClampNeg) (gI g1 2 ((x3 + (iv 4))).toNatClampNeg) g1) fun r4 g3 => (if r2 = r4 then (f_L_law_1917 k_18 x0 x1 x2 x3 g3) else zret (iv 0) g3) else none) else none) else none) else none) else none) else none) else none) else none) else none) else none
def f_L_law_1030 (k_18 : Nat → Nat → Nat → Int32 → AH → Option (Int32 × AH)) (x0 : Nat) (x1 : Nat) (x2 : Nat) (x3 : Int32) (h : AH) : Option (Int32 × AH) := if x0 = 2 ∧ ib (x3 + (iv 1)) (gN h 2) = true then (if x0 = 2 ∧ ib (x3 + (iv 2)) (gN h 2) = true then (if gK h x1 = 111 then cb (f_X11_line x1 (gI h 2 ((x3 + (iv 1))).toNatClampNeg) (gI h 2 ((x3 + (iv 2))).toNatClampNeg) h) fun r2 g1 => (if x0 = 2 ∧ ib (x3 + (iv 1)) (gN g1 2) = true then (if x0 = 2 ∧ ib (x3 + (iv 2)) (gN g1 2) = true then (if gK g1 x2 = 112 then cb (f_X12_line x2 (gI g1 2 ((x3 + (iv 1))).toNatClampNeg) (gI g1 2 ((x3 + (iv 2))).toNatClampNeg) g1) fun r4 g3 => (if r2 = r4 then (f_L_law_1917 k_18 x0 x1 x2 x3 g3) else zret (iv 0) g3) else none) else none) else none) else none) else none) else none
def f_L_law_1063 (k_18 : Nat → Nat → Nat → Int32 → AH → Option (Int32 × AH)) (x0 : Nat) (x1 : Nat) (x2 : Nat) (x3 : Int32) (h : AH) : Option (Int32 × AH) := if x0 = 2 ∧ ib (x3 + (iv 1)) (gN h 2) = true then (if x0 = 2 ∧ ib (x3 + (iv 2)) (gN h 2) = true then (if gK h x1 = 111 then cb (f_X11_wrong x1 (gI h 2 ((x3 + (iv 1))).toNatClampNeg) (gI h 2 ((x3 + (iv 2))).toNatClampNeg) h) fun r2 g1 => (if x0 = 2 ∧ ib (x3 + (iv 1)) (gN g1 2) = true then (if x0 = 2 ∧ ib (x3 + (iv 2)) (gN g1 2) = true then (if gK g1 x2 = 112 then cb (f_X12_wrong x2 (gI g1 2 ((x3 + (iv 1))).toNatClampNeg) (gI g1 2 ((x3 + (iv 2))).toNatClampNeg) g1) fun r4 g3 => (if r2 = r4 then (f_L_law_1917 k_18 x0 x1 x2 x3 g3) else zret (iv 0) g3) else none) else none) else none) else none) else none) else none
def f_L_law_1096 (k_18 : Nat → Nat → Nat → Int32 → AH → Option (Int32 × AH)) (x0 : Nat) (x1 : Nat) (x2 : Nat) (x3 : Int32) (h : AH) : Option (Int32 × AH) := if x0 = 2 ∧ ib (x3 + (iv 1)) (gN h 2) = true then (if x0 = 2 ∧ ib (x3 + (iv 2)) (gN h 2) = true then (if x0 = 2 ∧ ib (x3 + (iv 3)) (gN h 2) = true then (if gK h x1 = 111 then cb (f_X11_second x1 (gI h 2 ((x3 + (iv 1))).toNatClampNeg) ((x_lshl ((gI h 2 ((x3 + (iv 2))).toNatClampNeg)).toInt64 (iv 32)) ||| (((gI h 2 ((x3 + (iv 3))).toNatClampNeg)).toInt64 &&& (jv 4294967295))) h) fun r2 g1 => (if x0 = 2 ∧ ib (x3 + (iv 1)) (gN g1 2) = true then (if x0 = 2 ∧ ib (x3 + (iv 2)) (gN g1 2) = true then (if x0 = 2 ∧ ib (x3 + (iv 3)) (gN g1 2) = true then (if gK g1 x2 = 112 then cb (f_X12_second x2 (gI g1 2 ((x3 + (iv 1))).toNatClampNeg) ((x_lshl ((gI g1 2 ((x3 + (iv 2))).toNatClampNeg)).toInt64 (iv 32)) ||| (((gI g1 2 ((x3 + (iv 3))).toNatClampNeg)).toInt64 &&& (jv 4294967295))) g1) fun r4 g3 => (if r2 = r4 then (f_L_law_1917 k_18 x0 x1 x2 x3 g3) else zret (iv 0) g3) else none) else none) else none) else none) else none) else none) else none) else none
def f_L_law_1159 (k_18 : Nat → Nat → Nat → Int32 → AH → Option (Int32 × AH)) (x0 : Nat) (x1 : Nat) (x2 : Nat) (x3 : Int32) (h : AH) : Option (Int32 × AH) := if x0 = 2 ∧ ib (x3 + (iv 1)) (gN h 2) = true then (if x0 = 2 ∧ ib (x3 + (iv 2)) (gN h 2) = true then (if x0 = 2 ∧ ib (x3 + (iv 3)) (gN h 2) = true then (if gK h x1 = 111 then cb (f_X11_split x1 (gI h 2 ((x3 + (iv 1))).toNatClampNeg) (gI h 2 ((x3 + (iv 2))).toNatClampNeg) (gI h 2 ((x3 + (iv 3))).toNatClampNeg) h) fun r2 g1 => (if x0 = 2 ∧ ib (x3 + (iv 1)) (gN g1 2) = true then (if x0 = 2 ∧ ib (x3 + (iv 2)) (gN g1 2) = true then (if x0 = 2 ∧ ib (x3 + (iv 3)) (gN g1 2) = true then (if gK g1 x2 = 112 then cb (f_X12_split x2 (gI g1 2 ((x3 + (iv 1))).toNatClampNeg) (gI g1 2 ((x3 + (iv 2))).toNatClampNeg) (gI g1 2 ((x3 + (iv 3))).toNatClampNeg) g1) fun r4 g3 => (if r2 = r4 then (f_L_law_1917 k_18 x0 x1 x2 x3 g3) else zret (iv 0) g3) else none) else none) else none) else none) else none) else none) else none) else none
def f_L_law_1202 (k_18 : Nat → Nat → Nat → Int32 → AH → Option (Int32 × AH)) (x0 : Nat) (x1 : Nat) (x2 : Nat) (x3 : Int32) (h : AH) : Option (Int32 × AH) := if x0 = 2 ∧ ib (x3 + (iv 1)) (gN h 2) = true then (if x0 = 2 ∧ ib (x3 + (iv 2)) (gN h 2) = true then (if gK h x1 = 111 then cb (f_X11_splits x1 (gI h 2 ((x3 + (iv 1))).toNatClampNeg) (gI h 2 ((x3 + (iv 2))).toNatClampNeg) h) fun r2 g1 => (if x0 = 2 ∧ ib (x3 + (iv 1)) (gN g1 2) = true then (if x0 = 2 ∧ ib (x3 + (iv 2)) (gN g1 2) = true then (if gK g1 x2 = 112 then cb (f_X12_splits x2 (gI g1 2 ((x3 + (iv 1))).toNatClampNeg) (gI g1 2 ((x3 + (iv 2))).toNatClampNeg) g1) fun r4 g3 => (if r2 = r4 then (f_L_law_1917 k_18 x0 x1 x2 x3 g3) else zret (iv 0) g3) else none) else none) else none) else none) else none) else none
def f_L_law_1235 (k_18 : Nat → Nat → Nat → Int32 → AH → Option (Int32 × AH)) (x0 : Nat) (x1 : Nat) (x2 : Nat) (x3 : Int32) (h : AH) : Option (Int32 × AH) := if x0 = 2 ∧ ib (x3 + (iv 1)) (gN h 2) = true then (if x0 = 2 ∧ ib (x3 + (iv 2)) (gN h 2) = true then (if gK h x1 = 111 then cb (f_X11_changed x1 (gI h 2 ((x3 + (iv 1))).toNatClampNeg) (gI h 2 ((x3 + (iv 2))).toNatClampNeg) h) fun r2 g1 => (if x0 = 2 ∧ ib (x3 + (iv 1)) (gN g1 2) = true then (if x0 = 2 ∧ ib (x3 + (iv 2)) (gN g1 2) = true then (if gK g1 x2 = 112 then cb (f_X12_changed x2 (gI g1 2 ((x3 + (iv 1))).toNatClampNeg) (gI g1 2 ((x3 + (iv 2))).toNatClampNeg) g1) fun r4 g3 => (if r2 = r4 then (f_L_law_1917 k_18 x0 x1 x2 x3 g3) else zret (iv 0) g3) else none) else none) else none) else none) else none) else none
def f_L_law_1268 (k_18 : Nat → Nat → Nat → Int32 → AH → Option (Int32 × AH)) (x0 : Nat) (x1 : Nat) (x2 : Nat) (x3 : Int32) (h : AH) : Option (Int32 × AH) := if x0 = 2 ∧ ib (x3 + (iv 1)) (gN h 2) = true then (if x0 = 2 ∧ ib (x3 + (iv 2)) (gN h 2) = true then (if x0 = 2 ∧ ib (x3 + (iv 3)) (gN h 2) = true then (if x0 = 2 ∧ ib (x3 + (iv 4)) (gN h 2) = true then (if gK h x1 = 111 then cb (f_X11_parted x1 (gI h 2 ((x3 + (iv 1))).toNatClampNeg) (gI h 2 ((x3 + (iv 2))).toNatClampNeg) (gI h 2 ((x3 + (iv 3))).toNatClampNeg) (gI h 2 ((x3 + (iv 4))).toNatClampNeg) h) fun r2 g1 => (if x0 = 2 ∧ ib (x3 + (iv 1)) (gN g1 2) = true then (if x0 = 2 ∧ ib (x3 + (iv 2)) (gN g1 2) = true then (if x0 = 2 ∧ ib (x3 + (iv 3)) (gN g1 2) = true then (if x0 = 2 ∧ ib (x3 + (iv 4)) (gN g1 2) = true then (if gK g1 x2 = 112 then cb (f_X12_parted x2 (gI g1 2 ((x3 + (iv 1))).toNatClampNeg) (gI g1 2 ((x3 + (iv 2))).toNatClampNeg) (gI g1 2 ((x3 + (iv 3))).toNatClampNeg) (gI g1 2 ((x3 + (iv 4))).toNatClampNeg) g1) fun r4 g3 => (if r2 = r4 then (f_L_law_1917 k_18 x0 x1 x2 x3 g3) else zret (iv 0) g3) else none) else none) else none) else none) else none) else none) else none) else none) else none) else none
def f_L_law_1321 (k_18 : Nat → Nat → Nat → Int32 → AH → Option (Int32 × AH)) (x0 : Nat) (x1 : Nat) (x2 : Nat) (x3 : Int32) (h : AH) : Option (Int32 × AH) := if x0 = 2 ∧ ib (x3 + (iv 1)) (gN h 2) = true then (if x0 = 2 ∧ ib (x3 + (iv 2)) (gN h 2) = true then (if x0 = 2 ∧ ib (x3 + (iv 3)) (gN h 2) = true then (if gK h x1 = 111 then cb (f_X11_weight x1 (gI h 2 ((x3 + (iv 1))).toNatClampNeg) (gI h 2 ((x3 + (iv 2))).toNatClampNeg) (gI h 2 ((x3 + (iv 3))).toNatClampNeg) h) fun r2 g1 => (if x0 = 2 ∧ ib (x3 + (iv 1)) (gN g1 2) = true then (if x0 = 2 ∧ ib (x3 + (iv 2)) (gN g1 2) = true then (if x0 = 2 ∧ ib (x3 + (iv 3)) (gN g1 2) = true then (if gK g1 x2 = 112 then cb (f_X12_weight x2 (gI g1 2 ((x3 + (iv 1))).toNatClampNeg) (gI g1 2 ((x3 + (iv 2))).toNatClampNeg) (gI g1 2 ((x3 + (iv 3))).toNatClampNeg) g1) fun r4 g3 => (if r2 = r4 then (f_L_law_1917 k_18 x0 x1 x2 x3 g3) else zret (iv 0) g3) else none) else none) else none) else none) else none) else none) else none) else none
def f_L_law_1364 (k_18 : Nat → Nat → Nat → Int32 → AH → Option (Int32 × AH)) (x0 : Nat) (x1 : Nat) (x2 : Nat) (x3 : Int32) (h : AH) : Option (Int32 × AH) := if x0 = 2 ∧ ib (x3 + (iv 1)) (gN h 2) = true then (if x0 = 2 ∧ ib (x3 + (iv 2)) (gN h 2) = true then (if gK h x1 = 111 then cb (f_X11_likeliest x1 (gI h 2 ((x3 + (iv 1))).toNatClampNeg) (gI h 2 ((x3 + (iv 2))).toNatClampNeg) h) fun r2 g1 => (if x0 = 2 ∧ ib (x3 + (iv 1)) (gN g1 2) = true then (if x0 = 2 ∧ ib (x3 + (iv 2)) (gN g1 2) = true then (if gK g1 x2 = 112 then cb (f_X12_likeliest x2 (gI g1 2 ((x3 + (iv 1))).toNatClampNeg) (gI g1 2 ((x3 + (iv 2))).toNatClampNeg) g1) fun r4 g3 => (if r2 = r4 then (f_L_law_1917 k_18 x0 x1 x2 x3 g3) else zret (iv 0) g3) else none) else none) else none) else none) else none) else none
def f_L_law_1397 (k_18 : Nat → Nat → Nat → Int32 → AH → Option (Int32 × AH)) (x0 : Nat) (x1 : Nat) (x2 : Nat) (x3 : Int32) (h : AH) : Option (Int32 × AH) := if x0 = 2 ∧ ib (x3 + (iv 1)) (gN h 2) = true then (if x0 = 2 ∧ ib (x3 + (iv 2)) (gN h 2) = true then (if gK h x1 = 111 then cb (f_X11_weighs x1 (gI h 2 ((x3 + (iv 1))).toNatClampNeg) (gI h 2 ((x3 + (iv 2))).toNatClampNeg) h) fun r2 g1 => (if x0 = 2 ∧ ib (x3 + (iv 1)) (gN g1 2) = true then (if x0 = 2 ∧ ib (x3 + (iv 2)) (gN g1 2) = true then (if gK g1 x2 = 112 then cb (f_X12_weighs x2 (gI g1 2 ((x3 + (iv 1))).toNatClampNeg) (gI g1 2 ((x3 + (iv 2))).toNatClampNeg) g1) fun r4 g3 => (if r2 = r4 then (f_L_law_1917 k_18 x0 x1 x2 x3 g3) else zret (iv 0) g3) else none) else none) else none) else none) else none) else none
def f_L_law_1430 (k_18 : Nat → Nat → Nat → Int32 → AH → Option (Int32 × AH)) (x0 : Nat) (x1 : Nat) (x2 : Nat) (x3 : Int32) (h : AH) : Option (Int32 × AH) := if x0 = 2 ∧ ib (x3 + (iv 1)) (gN h 2) = true then (if x0 = 2 ∧ ib (x3 + (iv 2)) (gN h 2) = true then (if x0 = 2 ∧ ib (x3 + (iv 3)) (gN h 2) = true then (if gK h x1 = 111 then cb (f_X11_chance x1 (gI h 2 ((x3 + (iv 1))).toNatClampNeg) (gI h 2 ((x3 + (iv 2))).toNatClampNeg) (gI h 2 ((x3 + (iv 3))).toNatClampNeg) h) fun r2 g1 => (if x0 = 2 ∧ ib (x3 + (iv 1)) (gN g1 2) = true then (if x0 = 2 ∧ ib (x3 + (iv 2)) (gN g1 2) = true then (if x0 = 2 ∧ ib (x3 + (iv 3)) (gN g1 2) = true then (if gK g1 x2 = 112 then cb (f_X12_chance x2 (gI g1 2 ((x3 + (iv 1))).toNatClampNeg) (gI g1 2 ((x3 + (iv 2))).toNatClampNeg) (gI g1 2 ((x3 + (iv 3))).toNatClampNeg) g1) fun r4 g3 => (if r2 = r4 then (f_L_law_1917 k_18 x0 x1 x2 x3 g3) else zret (iv 0) g3) else none) else none) else none) else none) else none) else none) else none) else none
def f_L_law_1473 (k_18 : Nat → Nat → Nat → Int32 → AH → Option (Int32 × AH)) (x0 : Nat) (x1 : Nat) (x2 : Nat) (x3 : Int32) (h : AH) : Option (Int32 × AH) := if x0 = 2 ∧ ib (x3 + (iv 1)) (gN h 2) = true then (if gK h x1 = 111 then cb (f_X11_knowing x1 (gI h 2 ((x3 + (iv 1))).toNatClampNeg) h) fun r2 g1 => (if x0 = 2 ∧ ib (x3 + (iv 1)) (gN g1 2) = true then (if gK g1 x2 = 112 then cb (f_X12_knowing x2 (gI g1 2 ((x3 + (iv 1))).toNatClampNeg) g1) fun r4 g3 => (if r2 = r4 then (f_L_law_1917 k_18 x0 x1 x2 x3 g3) else zret (iv 0) g3) else none) else none) else none) else none
def f_L_law_1496 (k_18 : Nat → Nat → Nat → Int32 → AH → Option (Int32 × AH)) (x0 : Nat) (x1 : Nat) (x2 : Nat) (x3 : Int32) (h : AH) : Option (Int32 × AH) := if x0 = 2 ∧ ib (x3 + (iv 1)) (gN h 2) = true then (if x0 = 2 ∧ ib (x3 + (iv 2)) (gN h 2) = true then (if x0 = 2 ∧ ib (x3 + (iv 3)) (gN h 2) = true then (if gK h x1 = 111 then cb (f_X11_act x1 (gI h 2 ((x3 + (iv 1))).toNatClampNeg) (gI h 2 ((x3 + (iv 2))).toNatClampNeg) (gI h 2 ((x3 + (iv 3))).toNatClampNeg) h) fun r2 g1 => (if x0 = 2 ∧ ib (x3 + (iv 1)) (gN g1 2) = true then (if x0 = 2 ∧ ib (x3 + (iv 2)) (gN g1 2) = true then (if x0 = 2 ∧ ib (x3 + (iv 3)) (gN g1 2) = true then (if gK g1 x2 = 112 then cb (f_X12_act x2 (gI g1 2 ((x3 + (iv 1))).toNatClampNeg) (gI g1 2 ((x3 + (iv 2))).toNatClampNeg) (gI g1 2 ((x3 + (iv 3))).toNatClampNeg) g1) fun r4 g3 => (if r2 = r4 then (f_L_law_1917 k_18 x0 x1 x2 x3 g3) else zret (iv 0) g3) else none) else none) else none) else none) else none) else none) else none) else none
def f_L_law_1539 (k_18 : Nat → Nat → Nat → Int32 → AH → Option (Int32 × AH)) (x0 : Nat) (x1 : Nat) (x2 : Nat) (x3 : Int32) (h : AH) : Option (Int32 × AH) := if x0 = 2 ∧ ib (x3 + (iv 1)) (gN h 2) = true then (if gK h x1 = 111 then cb (f_X11_trace x1 (gI h 2 ((x3 + (iv 1))).toNatClampNeg) h) fun r2 g1 => (if x0 = 2 ∧ ib (x3 + (iv 1)) (gN g1 2) = true then (if gK g1 x2 = 112 then cb (f_X12_trace x2 (gI g1 2 ((x3 + (iv 1))).toNatClampNeg) g1) fun r4 g3 => (if r2 = r4 then (f_L_law_1917 k_18 x0 x1 x2 x3 g3) else zret (iv 0) g3) else none) else none) else none) else none
def f_L_law_1562 (k_18 : Nat → Nat → Nat → Int32 → AH → Option (Int32 × AH)) (x0 : Nat) (x1 : Nat) (x2 : Nat) (x3 : Int32) (h : AH) : Option (Int32 × AH) := if x0 = 2 ∧ ib (x3 + (iv 1)) (gN h 2) = true then (if x0 = 2 ∧ ib (x3 + (iv 2)) (gN h 2) = true then (if gK h x1 = 111 then cb (f_X11_keep x1 (gI h 2 ((x3 + (iv 1))).toNatClampNeg) (gI h 2 ((x3 + (iv 2))).toNatClampNeg) h) fun r2 g1 => (if x0 = 2 ∧ ib (x3 + (iv 1)) (gN g1 2) = true then (if x0 = 2 ∧ ib (x3 + (iv 2)) (gN g1 2) = true then (if gK g1 x2 = 112 then cb (f_X12_keep x2 (gI g1 2 ((x3 + (iv 1))).toNatClampNeg) (gI g1 2 ((x3 + (iv 2))).toNatClampNeg) g1) fun r4 g3 => (if r2 = r4 then (f_L_law_1917 k_18 x0 x1 x2 x3 g3) else zret (iv 0) g3) else none) else none) else none) else none) else none) else none
def f_L_law_1595 (k_18 : Nat → Nat → Nat → Int32 → AH → Option (Int32 × AH)) (x0 : Nat) (x1 : Nat) (x2 : Nat) (x3 : Int32) (h : AH) : Option (Int32 × AH) := if x0 = 2 ∧ ib (x3 + (iv 1)) (gN h 2) = true then (if x0 = 2 ∧ ib (x3 + (iv 2)) (gN h 2) = true then (if x0 = 2 ∧ ib (x3 + (iv 3)) (gN h 2) = true then (if gK h x1 = 111 then cb (f_X11_row x1 (gI h 2 ((x3 + (iv 1))).toNatClampNeg) (gI h 2 ((x3 + (iv 2))).toNatClampNeg) (gI h 2 ((x3 + (iv 3))).toNatClampNeg) h) fun r2 g1 => (if x0 = 2 ∧ ib (x3 + (iv 1)) (gN g1 2) = true then (if x0 = 2 ∧ ib (x3 + (iv 2)) (gN g1 2) = true then (if x0 = 2 ∧ ib (x3 + (iv 3)) (gN g1 2) = true then (if gK g1 x2 = 112 then cb (f_X12_row x2 (gI g1 2 ((x3 + (iv 1))).toNatClampNeg) (gI g1 2 ((x3 + (iv 2))).toNatClampNeg) (gI g1 2 ((x3 + (iv 3))).toNatClampNeg) g1) fun r4 g3 => (if r2 = r4 then (f_L_law_1917 k_18 x0 x1 x2 x3 g3) else zret (iv 0) g3) else none) else none) else none) else none) else none) else none) else none) else none
def f_L_law_1638 (k_18 : Nat → Nat → Nat → Int32 → AH → Option (Int32 × AH)) (x0 : Nat) (x1 : Nat) (x2 : Nat) (x3 : Int32) (h : AH) : Option (Int32 × AH) := if x0 = 2 ∧ ib (x3 + (iv 1)) (gN h 2) = true then (if x0 = 2 ∧ ib (x3 + (iv 2)) (gN h 2) = true then (if x0 = 2 ∧ ib (x3 + (iv 3)) (gN h 2) = true then (if x0 = 2 ∧ ib (x3 + (iv 4)) (gN h 2) = true then (if gK h x1 = 111 then cb (f_X11_put x1 (gI h 2 ((x3 + (iv 1))).toNatClampNeg) (gI h 2 ((x3 + (iv 2))).toNatClampNeg) ((x_lshl ((gI h 2 ((x3 + (iv 3))).toNatClampNeg)).toInt64 (iv 32)) ||| (((gI h 2 ((x3 + (iv 4))).toNatClampNeg)).toInt64 &&& (jv 4294967295))) h) fun r2 g1 => (if x0 = 2 ∧ ib (x3 + (iv 1)) (gN g1 2) = true then (if x0 = 2 ∧ ib (x3 + (iv 2)) (gN g1 2) = true then (if x0 = 2 ∧ ib (x3 + (iv 3)) (gN g1 2) = true then (if x0 = 2 ∧ ib (x3 + (iv 4)) (gN g1 2) = true then (if gK g1 x2 = 112 then cb (f_X12_put x2 (gI g1 2 ((x3 + (iv 1))).toNatClampNeg) (gI g1 2 ((x3 + (iv 2))).toNatClampNeg) ((x_lshl ((gI g1 2 ((x3 + (iv 3))).toNatClampNeg)).toInt64 (iv 32)) ||| (((gI g1 2 ((x3 + (iv 4))).toNatClampNeg)).toInt64 &&& (jv 4294967295))) g1) fun r4 g3 => (if r2 = r4 then (f_L_law_1917 k_18 x0 x1 x2 x3 g3) else zret (iv 0) g3) else none) else none) else none) else none) else none) else none) else none) else none) else none) else none
def f_L_law_1711 (k_18 : Nat → Nat → Nat → Int32 → AH → Option (Int32 × AH)) (x0 : Nat) (x1 : Nat) (x2 : Nat) (x3 : Int32) (h : AH) : Option (Int32 × AH) := if x0 = 2 ∧ ib (x3 + (iv 1)) (gN h 2) = true then (if x0 = 2 ∧ ib (x3 + (iv 2)) (gN h 2) = true then (if gK h x1 = 111 then cb (f_X11_element x1 (gI h 2 ((x3 + (iv 1))).toNatClampNeg) (gI h 2 ((x3 + (iv 2))).toNatClampNeg) h) fun r2 g1 => (if x0 = 2 ∧ ib (x3 + (iv 1)) (gN g1 2) = true then (if x0 = 2 ∧ ib (x3 + (iv 2)) (gN g1 2) = true then (if gK g1 x2 = 112 then cb (f_X12_element x2 (gI g1 2 ((x3 + (iv 1))).toNatClampNeg) (gI g1 2 ((x3 + (iv 2))).toNatClampNeg) g1) fun r4 g3 => (if (lg_cmp r2 r4) = 0 then (f_L_law_1917 k_18 x0 x1 x2 x3 g3) else zret (iv 0) g3) else none) else none) else none) else none) else none) else none
def f_L_law_1745 (k_18 : Nat → Nat → Nat → Int32 → AH → Option (Int32 × AH)) (x0 : Nat) (x1 : Nat) (x2 : Nat) (x3 : Int32) (h : AH) : Option (Int32 × AH) := if x0 = 2 ∧ ib (x3 + (iv 1)) (gN h 2) = true then (if x0 = 2 ∧ ib (x3 + (iv 2)) (gN h 2) = true then (if x0 = 2 ∧ ib (x3 + (iv 3)) (gN h 2) = true then (if x0 = 2 ∧ ib (x3 + (iv 4)) (gN h 2) = true then (if x0 = 2 ∧ ib (x3 + (iv 5)) (gN h 2) = true then (if gK h x1 = 111 then cb (f_X11_shift x1 (gI h 2 ((x3 + (iv 1))).toNatClampNeg) (gI h 2 ((x3 + (iv 2))).toNatClampNeg) (gI h 2 ((x3 + (iv 3))).toNatClampNeg) (gI h 2 ((x3 + (iv 4))).toNatClampNeg) (gI h 2 ((x3 + (iv 5))).toNatClampNeg) h) fun r2 g1 => (if x0 = 2 ∧ ib (x3 + (iv 1)) (gN g1 2) = true then (if x0 = 2 ∧ ib (x3 + (iv 2)) (gN g1 2) = true then (if x0 = 2 ∧ ib (x3 + (iv 3)) (gN g1 2) = true then (if x0 = 2 ∧ ib (x3 + (iv 4)) (gN g1 2) = true then (if x0 = 2 ∧ ib (x3 + (iv 5)) (gN g1 2) = true then (if gK g1 x2 = 112 then cb (f_X12_shift x2 (gI g1 2 ((x3 + (iv 1))).toNatClampNeg) (gI g1 2 ((x3 + (iv 2))).toNatClampNeg) (gI g1 2 ((x3 + (iv 3))).toNatClampNeg) (gI g1 2 ((x3 + (iv 4))).toNatClampNeg) (gI g1 2 ((x3 + (iv 5))).toNatClampNeg) g1) fun r4 g3 => (if r2 = r4 then (f_L_law_1917 k_18 x0 x1 x2 x3 g3) else zret (iv 0) g3) else none) else none) else none) else none) else none) else none) else none) else none) else none) else none) else none) else none
def f_L_law_1808 (k_18 : Nat → Nat → Nat → Int32 → AH → Option (Int32 × AH)) (x0 : Nat) (x1 : Nat) (x2 : Nat) (x3 : Int32) (h : AH) : Option (Int32 × AH) := if x0 = 2 ∧ ib (x3 + (iv 1)) (gN h 2) = true then (if x0 = 2 ∧ ib (x3 + (iv 2)) (gN h 2) = true then (if gK h x1 = 111 then cb (f_X11_taken x1 (gI h 2 ((x3 + (iv 1))).toNatClampNeg) (gI h 2 ((x3 + (iv 2))).toNatClampNeg) h) fun r2 g1 => (if x0 = 2 ∧ ib (x3 + (iv 1)) (gN g1 2) = true then (if x0 = 2 ∧ ib (x3 + (iv 2)) (gN g1 2) = true then (if gK g1 x2 = 112 then cb (f_X12_taken x2 (gI g1 2 ((x3 + (iv 1))).toNatClampNeg) (gI g1 2 ((x3 + (iv 2))).toNatClampNeg) g1) fun r4 g3 => (if r2 = r4 then (f_L_law_1917 k_18 x0 x1 x2 x3 g3) else zret (iv 0) g3) else none) else none) else none) else none) else none) else none
def f_L_law_1841 (k_18 : Nat → Nat → Nat → Int32 → AH → Option (Int32 × AH)) (x0 : Nat) (x1 : Nat) (x2 : Nat) (x3 : Int32) (h : AH) : Option (Int32 × AH) := if x0 = 2 ∧ ib (x3 + (iv 1)) (gN h 2) = true then (if x0 = 2 ∧ ib (x3 + (iv 2)) (gN h 2) = true then (if x0 = 2 ∧ ib (x3 + (iv 3)) (gN h 2) = true then (if x0 = 2 ∧ ib (x3 + (iv 4)) (gN h 2) = true then (if gK h x1 = 111 then cb (f_X11_boxes x1 (gI h 2 ((x3 + (iv 1))).toNatClampNeg) (gI h 2 ((x3 + (iv 2))).toNatClampNeg) (gI h 2 ((x3 + (iv 3))).toNatClampNeg) (gI h 2 ((x3 + (iv 4))).toNatClampNeg) h) fun r2 g1 => (if x0 = 2 ∧ ib (x3 + (iv 1)) (gN g1 2) = true then (if x0 = 2 ∧ ib (x3 + (iv 2)) (gN g1 2) = true then (if x0 = 2 ∧ ib (x3 + (iv 3)) (gN g1 2) = true then (if x0 = 2 ∧ ib (x3 + (iv 4)) (gN g1 2) = true then (if gK g1 x2 = 112 then cb (f_X12_boxes x2 (gI g1 2 ((x3 + (iv 1))).toNatClampNeg) (gI g1 2 ((x3 + (iv 2))).toNatClampNeg) (gI g1 2 ((x3 + (iv 3))).toNatClampNeg) (gI g1 2 ((x3 + (iv 4))).toNatClampNeg) g1) fun r4 g3 => (if r2 = r4 then (f_L_law_1917 k_18 x0 x1 x2 x3 g3) else zret (iv 0) g3) else none) else none) else none) else none) else none) else none) else none) else none) else none) else none
def f_L_law_1894 (k_18 : Nat → Nat → Nat → Int32 → AH → Option (Int32 × AH)) (x0 : Nat) (x1 : Nat) (x2 : Nat) (x3 : Int32) (h : AH) : Option (Int32 × AH) := if x0 = 2 ∧ ib (x3 + (iv 1)) (gN h 2) = true then (if gK h x1 = 111 then cb (f_X11_count x1 (gI h 2 ((x3 + (iv 1))).toNatClampNeg) h) fun r2 g1 => (if x0 = 2 ∧ ib (x3 + (iv 1)) (gN g1 2) = true then (if gK g1 x2 = 112 then cb (f_X12_count x2 (gI g1 2 ((x3 + (iv 1))).toNatClampNeg) g1) fun r4 g3 => (if r2 = r4 then (f_L_law_1917 k_18 x0 x1 x2 x3 g3) else zret (iv 0) g3) else none) else none) else none) else none
set_option maxRecDepth 100000 in
def b_L_law_18 (self : Nat → Nat → Nat → Int32 → AH → Option (Int32 × AH)) (x0 : Nat) (x1 : Nat) (x2 : Nat) (x3 : Int32) (h : AH) : Option (Int32 × AH) := if x0 = 2 then (if ((Int32.ofNat (gN h 2)) - (iv 6)) < x3 then (zret (iv 1) h) else if x0 = 2 ∧ ib x3 (gN h 2) = true then (if ((gI h 2 (x3).toNatClampNeg) &&& (iv 63)) = (iv 0) then (f_L_law_212 self x0 x1 x2 x3 h) else if ((gI h 2 (x3).toNatClampNeg) &&& (iv 63)) = (iv 1) then (f_L_law_245 self x0 x1 x2 x3 h) else if ((gI h 2 (x3).toNatClampNeg) &&& (iv 63)) = (iv 2) then (f_L_law_258 self x0 x1 x2 x3 h) else if ((gI h 2 (x3).toNatClampNeg) &&& (iv 63)) = (iv 3) then (f_L_law_291 self x0 x1 x2 x3 h) else if ((gI h 2 (x3).toNatClampNeg) &&& (iv 63)) = (iv 4) then (f_L_law_324 self x0 x1 x2 x3 h) else if ((gI h 2 (x3).toNatClampNeg) &&& (iv 63)) = (iv 5) then (f_L_law_348 self x0 x1 x2 x3 h) else if ((gI h 2 (x3).toNatClampNeg) &&& (iv 63)) = (iv 6) then (f_L_law_421 self x0 x1 x2 x3 h) else if ((gI h 2 (x3).toNatClampNeg) &&& (iv 63)) = (iv 7) then (f_L_law_494 self x0 x1 x2 x3 h) else if ((gI h 2 (x3).toNatClampNeg) &&& (iv 63)) = (iv 8) then (f_L_law_537 self x0 x1 x2 x3 h) else if ((gI h 2 (x3).toNatClampNeg) &&& (iv 63)) = (iv 9) then (f_L_law_580 self x0 x1 x2 x3 h) else if ((gI h 2 (x3).toNatClampNeg) &&& (iv 63)) = (iv 10) then (f_L_law_623 self x0 x1 x2 x3 h) else if ((gI h 2 (x3).toNatClampNeg) &&& (iv 63)) = (iv 11) then (f_L_law_666 self x0 x1 x2 x3 h) else if ((gI h 2 (x3).toNatClampNeg) &&& (iv 63)) = (iv 12) then (f_L_law_699 self x0 x1 x2 x3 h) else if ((gI h 2 (x3).toNatClampNeg) &&& (iv 63)) = (iv 13) then (f_L_law_732 self x0 x1 x2 x3 h) else if ((gI h 2 (x3).toNatClampNeg) &&& (iv 63)) = (iv 14) then (f_L_law_775 self x0 x1 x2 x3 h) else if ((gI h 2 (x3).toNatClampNeg) &&& (iv 63)) = (iv 15) then (f_L_law_838 self x0 x1 x2 x3 h) else if ((gI h 2 (x3).toNatClampNeg) &&& (iv 63)) = (iv 16) then (f_L_law_891 self x0 x1 x2 x3 h) else if ((gI h 2 (x3).toNatClampNeg) &&& (iv 63)) = (iv 17) then (f_L_law_924 self x0 x1 x2 x3 h) else if ((gI h 2 (x3).toNatClampNeg) &&& (iv 63)) = (iv 18) then (f_L_law_977 self x0 x1 x2 x3 h) else if ((gI h 2 (x3).toNatClampNeg) &&& (iv 63)) = (iv 19) then (f_L_law_1030 self x0 x1 x2 x3 h) else if ((gI h 2 (x3).toNatClampNeg) &&& (iv 63)) = (iv 20) then (f_L_law_1063 self x0 x1 x2 x3 h) else if ((gI h 2 (x3).toNatClampNeg) &&& (iv 63)) = (iv 21) then (f_L_law_1096 self x0 x1 x2 x3 h) else if ((gI h 2 (x3).toNatClampNeg) &&& (iv 63)) = (iv 22) then (f_L_law_1159 self x0 x1 x2 x3 h) else if ((gI h 2 (x3).toNatClampNeg) &&& (iv 63)) = (iv 23) then (f_L_law_1202 self x0 x1 x2 x3 h) else if ((gI h 2 (x3).toNatClampNeg) &&& (iv 63)) = (iv 24) then (f_L_law_1235 self x0 x1 x2 x3 h) else if ((gI h 2 (x3).toNatClampNeg) &&& (iv 63)) = (iv 25) then (f_L_law_1268 self x0 x1 x2 x3 h) else if ((gI h 2 (x3).toNatClampNeg) &&& (iv 63)) = (iv 26) then (f_L_law_1321 self x0 x1 x2 x3 h) else if ((gI h 2 (x3).toNatClampNeg) &&& (iv 63)) = (iv 27) then (f_L_law_1364 self x0 x1 x2 x3 h) else if ((gI h 2 (x3).toNatClampNeg) &&& (iv 63)) = (iv 28) then (f_L_law_1397 self x0 x1 x2 x3 h) else if ((gI h 2 (x3).toNatClampNeg) &&& (iv 63)) = (iv 29) then (f_L_law_1430 self x0 x1 x2 x3 h) else if ((gI h 2 (x3).toNatClampNeg) &&& (iv 63)) = (iv 30) then (f_L_law_1473 self x0 x1 x2 x3 h) else if ((gI h 2 (x3).toNatClampNeg) &&& (iv 63)) = (iv 31) then (f_L_law_1496 self x0 x1 x2 x3 h) else if ((gI h 2 (x3).toNatClampNeg) &&& (iv 63)) = (iv 32) then (f_L_law_1539 self x0 x1 x2 x3 h) else if ((gI h 2 (x3).toNatClampNeg) &&& (iv 63)) = (iv 33) then (f_L_law_1562 self x0 x1 x2 x3 h) else if ((gI h 2 (x3).toNatClampNeg) &&& (iv 63)) = (iv 34) then (f_L_law_1595 self x0 x1 x2 x3 h) else if ((gI h 2 (x3).toNatClampNeg) &&& (iv 63)) = (iv 35) then (f_L_law_1638 self x0 x1 x2 x3 h) else if ((gI h 2 (x3).toNatClampNeg) &&& (iv 63)) = (iv 36) then (f_L_law_1711 self x0 x1 x2 x3 h) else if ((gI h 2 (x3).toNatClampNeg) &&& (iv 63)) = (iv 37) then (f_L_law_1745 self x0 x1 x2 x3 h) else if ((gI h 2 (x3).toNatClampNeg) &&& (iv 63)) = (iv 38) then (f_L_law_1808 self x0 x1 x2 x3 h) else if ((gI h 2 (x3).toNatClampNeg) &&& (iv 63)) = (iv 39) then (f_L_law_1841 self x0 x1 x2 x3 h) else if ((gI h 2 (x3).toNatClampNeg) &&& (iv 63)) = (iv 40) then (f_L_law_1894 self x0 x1 x2 x3 h) else f_L_law_1917 self x0 x1 x2 x3 h) else none) else none
def f_L_law_18 : Nat → Nat → Nat → Int32 → AH → Option (Int32 × AH) := lp (b_L_law_18 ) (fun _ _ _ _ _ => none) FU
def f_L_law (x0 : Nat) (h : AH) : Option (Int32 × AH) := nm (gC h) fun a1 => nm (nw h 111 11) fun g2 => (if gK g2 a1 = 0 then none else cbv (f_X11_init a1 g2) fun g3 => (nm a1 fun w4 => nm (gC g3) fun a5 => nm (nw g3 112 45) fun g6 => (if gK g6 a5 = 0 then none else cbv (f_X12_init a5 g6) fun g7 => (nm a5 fun w8 => nm (iv 0) fun w9 => f_L_law_18 x0 w4 w8 w9 g7))))
set_option maxRecDepth 100000 in
set_option maxHeartbeats 4000000 in
theorem t_L_law_1917 {h1 : AH} {r : Int32} {k_18 : Nat → Nat → Nat → Int32 → AH → Option (Int32 × AH)} (hk_18 : ∀ (x0 : Nat) (x1 : Nat) (x2 : Nat) (x3 : Int32) (h : AH), k_18 x0 x1 x2 x3 h = some (r, h1) → WA mL_law 51 18 [(0, vR x0), (1, vR x1), (2, vR x2), (3, vI x3)] [] h (some (vI r), h1)) {x0 : Nat} {x1 : Nat} {x2 : Nat} {x3 : Int32} {h : AH} (hf : f_L_law_1917 k_18 x0 x1 x2 x3 h = some (r, h1)) : WA mL_law 51 1917 [(0, vR x0), (1, vR x1), (2, vR x2), (3, vI x3)] [] h (some (vI r), h1) := by
  unfold f_L_law_1917 at hf
  exact (r_iinc (pc := 1917) dL_law_1917 3 rfl (v := (iv 6)) rfl (by decide) (ls' := [(0, vR x0), (1, vR x1), (2, vR x2)]) rfl hf fun w1 hf => (r_goto (pc := 1920) (tgt := 18) dL_law_1920 (by decide) (r_sub [1, 2, 3, 0] rfl (hk_18 _ _ _ _ _ hf))))
set_option maxRecDepth 100000 in
set_option maxHeartbeats 4000000 in
theorem t_L_law_212 {h1 : AH} {r : Int32} {k_18 : Nat → Nat → Nat → Int32 → AH → Option (Int32 × AH)} (hk_18 : ∀ (x0 : Nat) (x1 : Nat) (x2 : Nat) (x3 : Int32) (h : AH), k_18 x0 x1 x2 x3 h = some (r, h1) → WA mL_law 51 18 [(0, vR x0), (1, vR x1), (2, vR x2), (3, vI x3)] [] h (some (vI r), h1)) {x0 : Nat} {x1 : Nat} {x2 : Nat} {x3 : Int32} {h : AH} (hf : f_L_law_212 k_18 x0 x1 x2 x3 h = some (r, h1)) : WA mL_law 51 212 [(0, vR x0), (1, vR x1), (2, vR x2), (3, vI x3)] [] h (some (vI r), h1) := by
  unfold f_L_law_212 at hf
  exact (r_aload_n (pc := 212) dL_law_212 1 (i := 1) rfl rfl (r_aload_n (pc := 213) dL_law_213 0 (i := 0) rfl rfl (r_iload_n (pc := 214) dL_law_214 3 (i := 3) rfl rfl (r_iconst (pc := 215) (v := (iv 1)) dL_law_215 rfl (r_iadd (pc := 216) dL_law_216 (r_sload (pc := 217) dL_law_217 hf fun hf => (r_aload_n (pc := 218) dL_law_218 0 (i := 0) rfl rfl (r_iload_n (pc := 219) dL_law_219 3 (i := 3) rfl rfl (r_iconst (pc := 220) (v := (iv 2)) dL_law_220 rfl (r_iadd (pc := 221) dL_law_221 (r_sload (pc := 222) dL_law_222 hf fun hf => (r_cV (pc := 223) vI dL_law_223 (cV_L_13 _ rfl) (Nat.le_of_ble_eq_true rfl) rfl (as := [vI (gI h 2 ((x3 + (iv 1))).toNatClampNeg), vI (gI h 2 ((x3 + (iv 2))).toNatClampNeg)]) rfl rfl (Nat.le_of_ble_eq_true rfl) hf (fun _ _ z => m_X11_feed z) (fun r2 g1 hf => (r_aload_n (pc := 226) dL_law_226 2 (i := 2) rfl rfl (r_aload_n (pc := 227) dL_law_227 0 (i := 0) rfl rfl (r_iload_n (pc := 228) dL_law_228 3 (i := 3) rfl rfl (r_iconst (pc := 229) (v := (iv 1)) dL_law_229 rfl (r_iadd (pc := 230) dL_law_230 (r_sload (pc := 231) dL_law_231 hf fun hf => (r_aload_n (pc := 232) dL_law_232 0 (i := 0) rfl rfl (r_iload_n (pc := 233) dL_law_233 3 (i := 3) rfl rfl (r_iconst (pc := 234) (v := (iv 2)) dL_law_234 rfl (r_iadd (pc := 235) dL_law_235 (r_sload (pc := 236) dL_law_236 hf fun hf => (r_cV (pc := 237) vI dL_law_237 (cV_L_17 _ rfl) (Nat.le_of_ble_eq_true rfl) rfl (as := [vI (gI g1 2 ((x3 + (iv 1))).toNatClampNeg), vI (gI g1 2 ((x3 + (iv 2))).toNatClampNeg)]) rfl rfl (Nat.le_of_ble_eq_true rfl) hf (fun _ _ z => m_X12_feed z) (fun r4 g3 hf => (r_icmp_eq (pc := 240) (tgt := 1917) dL_law_240 (by decide) hf (fun hf => (t_L_law_1917 hk_18 hf)) (fun hf => (r_iconst (pc := 243) (v := (iv 0)) dL_law_243 rfl (r_zreturn (pc := 244) dL_law_244 rfl hf))))))))))))))))))))))))))))))
set_option maxRecDepth 100000 in
set_option maxHeartbeats 4000000 in
theorem t_L_law_245 {h1 : AH} {r : Int32} {k_18 : Nat → Nat → Nat → Int32 → AH → Option (Int32 × AH)} (hk_18 : ∀ (x0 : Nat) (x1 : Nat) (x2 : Nat) (x3 : Int32) (h : AH), k_18 x0 x1 x2 x3 h = some (r, h1) → WA mL_law 51 18 [(0, vR x0), (1, vR x1), (2, vR x2), (3, vI x3)] [] h (some (vI r), h1)) {x0 : Nat} {x1 : Nat} {x2 : Nat} {x3 : Int32} {h : AH} (hf : f_L_law_245 k_18 x0 x1 x2 x3 h = some (r, h1)) : WA mL_law 51 245 [(0, vR x0), (1, vR x1), (2, vR x2), (3, vI x3)] [] h (some (vI r), h1) := by
  unfold f_L_law_245 at hf
  exact (r_aload_n (pc := 245) dL_law_245 1 (i := 1) rfl rfl (r_cV (pc := 246) vI dL_law_246 (cV_L_18 _ rfl) (Nat.le_of_ble_eq_true rfl) rfl (as := []) rfl rfl (Nat.le_of_ble_eq_true rfl) hf (fun _ _ z => m_X11_matter z) (fun r2 g1 hf => (r_aload_n (pc := 249) dL_law_249 2 (i := 2) rfl rfl (r_cV (pc := 250) vI dL_law_250 (cV_L_22 _ rfl) (Nat.le_of_ble_eq_true rfl) rfl (as := []) rfl rfl (Nat.le_of_ble_eq_true rfl) hf (fun _ _ z => m_X12_matter z) (fun r4 g3 hf => (r_icmp_eq (pc := 253) (tgt := 1917) dL_law_253 (by decide) hf (fun hf => (t_L_law_1917 hk_18 hf)) (fun hf => (r_iconst (pc := 256) (v := (iv 0)) dL_law_256 rfl (r_zreturn (pc := 257) dL_law_257 rfl hf))))))))))
set_option maxRecDepth 100000 in
set_option maxHeartbeats 4000000 in
theorem t_L_law_258 {h1 : AH} {r : Int32} {k_18 : Nat → Nat → Nat → Int32 → AH → Option (Int32 × AH)} (hk_18 : ∀ (x0 : Nat) (x1 : Nat) (x2 : Nat) (x3 : Int32) (h : AH), k_18 x0 x1 x2 x3 h = some (r, h1) → WA mL_law 51 18 [(0, vR x0), (1, vR x1), (2, vR x2), (3, vI x3)] [] h (some (vI r), h1)) {x0 : Nat} {x1 : Nat} {x2 : Nat} {x3 : Int32} {h : AH} (hf : f_L_law_258 k_18 x0 x1 x2 x3 h = some (r, h1)) : WA mL_law 51 258 [(0, vR x0), (1, vR x1), (2, vR x2), (3, vI x3)] [] h (some (vI r), h1) := by
  unfold f_L_law_258 at hf
  exact (r_aload_n (pc := 258) dL_law_258 1 (i := 1) rfl rfl (r_aload_n (pc := 259) dL_law_259 0 (i := 0) rfl rfl (r_iload_n (pc := 260) dL_law_260 3 (i := 3) rfl rfl (r_iconst (pc := 261) (v := (iv 1)) dL_law_261 rfl (r_iadd (pc := 262) dL_law_262 (r_sload (pc := 263) dL_law_263 hf fun hf => (r_aload_n (pc := 264) dL_law_264 0 (i := 0) rfl rfl (r_iload_n (pc := 265) dL_law_265 3 (i := 3) rfl rfl (r_iconst (pc := 266) (v := (iv 2)) dL_law_266 rfl (r_iadd (pc := 267) dL_law_267 (r_sload (pc := 268) dL_law_268 hf fun hf => (r_cV (pc := 269) vI dL_law_269 (cV_L_23 _ rfl) (Nat.le_of_ble_eq_true rfl) rfl (as := [vI (gI h 2 ((x3 + (iv 1))).toNatClampNeg), vI (gI h 2 ((x3 + (iv 2))).toNatClampNeg)]) rfl rfl (Nat.le_of_ble_eq_true rfl) hf (fun _ _ z => m_X11_of z) (fun r2 g1 hf => (r_aload_n (pc := 272) dL_law_272 2 (i := 2) rfl rfl (r_aload_n (pc := 273) dL_law_273 0 (i := 0) rfl rfl (r_iload_n (pc := 274) dL_law_274 3 (i := 3) rfl rfl (r_iconst (pc := 275) (v := (iv 1)) dL_law_275 rfl (r_iadd (pc := 276) dL_law_276 (r_sload (pc := 277) dL_law_277 hf fun hf => (r_aload_n (pc := 278) dL_law_278 0 (i := 0) rfl rfl (r_iload_n (pc := 279) dL_law_279 3 (i := 3) rfl rfl (r_iconst (pc := 280) (v := (iv 2)) dL_law_280 rfl (r_iadd (pc := 281) dL_law_281 (r_sload (pc := 282) dL_law_282 hf fun hf => (r_cV (pc := 283) vI dL_law_283 (cV_L_26 _ rfl) (Nat.le_of_ble_eq_true rfl) rfl (as := [vI (gI g1 2 ((x3 + (iv 1))).toNatClampNeg), vI (gI g1 2 ((x3 + (iv 2))).toNatClampNeg)]) rfl rfl (Nat.le_of_ble_eq_true rfl) hf (fun _ _ z => m_X12_of z) (fun r4 g3 hf => (r_icmp_eq (pc := 286) (tgt := 1917) dL_law_286 (by decide) hf (fun hf => (t_L_law_1917 hk_18 hf)) (fun hf => (r_iconst (pc := 289) (v := (iv 0)) dL_law_289 rfl (r_zreturn (pc := 290) dL_law_290 rfl hf))))))))))))))))))))))))))))))
set_option maxRecDepth 100000 in
set_option maxHeartbeats 4000000 in
theorem t_L_law_291 {h1 : AH} {r : Int32} {k_18 : Nat → Nat → Nat → Int32 → AH → Option (Int32 × AH)} (hk_18 : ∀ (x0 : Nat) (x1 : Nat) (x2 : Nat) (x3 : Int32) (h : AH), k_18 x0 x1 x2 x3 h = some (r, h1) → WA mL_law 51 18 [(0, vR x0), (1, vR x1), (2, vR x2), (3, vI x3)] [] h (some (vI r), h1)) {x0 : Nat} {x1 : Nat} {x2 : Nat} {x3 : Int32} {h : AH} (hf : f_L_law_291 k_18 x0 x1 x2 x3 h = some (r, h1)) : WA mL_law 51 291 [(0, vR x0), (1, vR x1), (2, vR x2), (3, vI x3)] [] h (some (vI r), h1) := by
  unfold f_L_law_291 at hf
  exact (r_aload_n (pc := 291) dL_law_291 1 (i := 1) rfl rfl (r_aload_n (pc := 292) dL_law_292 0 (i := 0) rfl rfl (r_iload_n (pc := 293) dL_law_293 3 (i := 3) rfl rfl (r_iconst (pc := 294) (v := (iv 1)) dL_law_294 rfl (r_iadd (pc := 295) dL_law_295 (r_sload (pc := 296) dL_law_296 hf fun hf => (r_aload_n (pc := 297) dL_law_297 0 (i := 0) rfl rfl (r_iload_n (pc := 298) dL_law_298 3 (i := 3) rfl rfl (r_iconst (pc := 299) (v := (iv 2)) dL_law_299 rfl (r_iadd (pc := 300) dL_law_300 (r_sload (pc := 301) dL_law_301 hf fun hf => (r_cV (pc := 302) vI dL_law_302 (cV_L_27 _ rfl) (Nat.le_of_ble_eq_true rfl) rfl (as := [vI (gI h 2 ((x3 + (iv 1))).toNatClampNeg), vI (gI h 2 ((x3 + (iv 2))).toNatClampNeg)]) rfl rfl (Nat.le_of_ble_eq_true rfl) hf (fun _ _ z => m_X11_sum z) (fun r2 g1 hf => (r_aload_n (pc := 305) dL_law_305 2 (i := 2) rfl rfl (r_aload_n (pc := 306) dL_law_306 0 (i := 0) rfl rfl (r_iload_n (pc := 307) dL_law_307 3 (i := 3) rfl rfl (r_iconst (pc := 308) (v := (iv 1)) dL_law_308 rfl (r_iadd (pc := 309) dL_law_309 (r_sload (pc := 310) dL_law_310 hf fun hf => (r_aload_n (pc := 311) dL_law_311 0 (i := 0) rfl rfl (r_iload_n (pc := 312) dL_law_312 3 (i := 3) rfl rfl (r_iconst (pc := 313) (v := (iv 2)) dL_law_313 rfl (r_iadd (pc := 314) dL_law_314 (r_sload (pc := 315) dL_law_315 hf fun hf => (r_cV (pc := 316) vI dL_law_316 (cV_L_30 _ rfl) (Nat.le_of_ble_eq_true rfl) rfl (as := [vI (gI g1 2 ((x3 + (iv 1))).toNatClampNeg), vI (gI g1 2 ((x3 + (iv 2))).toNatClampNeg)]) rfl rfl (Nat.le_of_ble_eq_true rfl) hf (fun _ _ z => m_X12_sum z) (fun r4 g3 hf => (r_icmp_eq (pc := 319) (tgt := 1917) dL_law_319 (by decide) hf (fun hf => (t_L_law_1917 hk_18 hf)) (fun hf => (r_iconst (pc := 322) (v := (iv 0)) dL_law_322 rfl (r_zreturn (pc := 323) dL_law_323 rfl hf))))))))))))))))))))))))))))))
set_option maxRecDepth 100000 in
set_option maxHeartbeats 4000000 in
theorem t_L_law_324 {h1 : AH} {r : Int32} {k_18 : Nat → Nat → Nat → Int32 → AH → Option (Int32 × AH)} (hk_18 : ∀ (x0 : Nat) (x1 : Nat) (x2 : Nat) (x3 : Int32) (h : AH), k_18 x0 x1 x2 x3 h = some (r, h1) → WA mL_law 51 18 [(0, vR x0), (1, vR x1), (2, vR x2), (3, vI x3)] [] h (some (vI r), h1)) {x0 : Nat} {x1 : Nat} {x2 : Nat} {x3 : Int32} {h : AH} (hf : f_L_law_324 k_18 x0 x1 x2 x3 h = some (r, h1)) : WA mL_law 51 324 [(0, vR x0), (1, vR x1), (2, vR x2), (3, vI x3)] [] h (some (vI r), h1) := by
  unfold f_L_law_324 at hf
  exact (r_aload_n (pc := 324) dL_law_324 1 (i := 1) rfl rfl (r_aload_n (pc := 325) dL_law_325 0 (i := 0) rfl rfl (r_iload_n (pc := 326) dL_law_326 3 (i := 3) rfl rfl (r_iconst (pc := 327) (v := (iv 1)) dL_law_327 rfl (r_iadd (pc := 328) dL_law_328 (r_sload (pc := 329) dL_law_329 hf fun hf => (r_cV (pc := 330) vJ dL_law_330 (cV_L_31 _ rfl) (Nat.le_of_ble_eq_true rfl) rfl (as := [vI (gI h 2 ((x3 + (iv 1))).toNatClampNeg)]) rfl rfl (Nat.le_of_ble_eq_true rfl) hf (fun _ _ z => m_X11_many z) (fun r2 g1 hf => (r_aload_n (pc := 333) dL_law_333 2 (i := 2) rfl rfl (r_aload_n (pc := 334) dL_law_334 0 (i := 0) rfl rfl (r_iload_n (pc := 335) dL_law_335 3 (i := 3) rfl rfl (r_iconst (pc := 336) (v := (iv 1)) dL_law_336 rfl (r_iadd (pc := 337) dL_law_337 (r_sload (pc := 338) dL_law_338 hf fun hf => (r_cV (pc := 339) vJ dL_law_339 (cV_L_35 _ rfl) (Nat.le_of_ble_eq_true rfl) rfl (as := [vI (gI g1 2 ((x3 + (iv 1))).toNatClampNeg)]) rfl rfl (Nat.le_of_ble_eq_true rfl) hf (fun _ _ z => m_X12_many z) (fun r4 g3 hf => (r_lcmp (pc := 342) dL_law_342 (r_if_eq (pc := 343) (tgt := 1917) dL_law_343 (by decide) hf (fun hf => (t_L_law_1917 hk_18 hf)) (fun hf => (r_iconst (pc := 346) (v := (iv 0)) dL_law_346 rfl (r_zreturn (pc := 347) dL_law_347 rfl hf)))))))))))))))))))))
set_option maxRecDepth 100000 in
set_option maxHeartbeats 4000000 in
theorem t_L_law_348 {h1 : AH} {r : Int32} {k_18 : Nat → Nat → Nat → Int32 → AH → Option (Int32 × AH)} (hk_18 : ∀ (x0 : Nat) (x1 : Nat) (x2 : Nat) (x3 : Int32) (h : AH), k_18 x0 x1 x2 x3 h = some (r, h1) → WA mL_law 51 18 [(0, vR x0), (1, vR x1), (2, vR x2), (3, vI x3)] [] h (some (vI r), h1)) {x0 : Nat} {x1 : Nat} {x2 : Nat} {x3 : Int32} {h : AH} (hf : f_L_law_348 k_18 x0 x1 x2 x3 h = some (r, h1)) : WA mL_law 51 348 [(0, vR x0), (1, vR x1), (2, vR x2), (3, vI x3)] [] h (some (vI r), h1) := by
  unfold f_L_law_348 at hf
  exact (r_aload_n (pc := 348) dL_law_348 1 (i := 1) rfl rfl (r_aload_n (pc := 349) dL_law_349 0 (i := 0) rfl rfl (r_iload_n (pc := 350) dL_law_350 3 (i := 3) rfl rfl (r_iconst (pc := 351) (v := (iv 1)) dL_law_351 rfl (r_iadd (pc := 352) dL_law_352 (r_sload (pc := 353) dL_law_353 hf fun hf => (r_aload_n (pc := 354) dL_law_354 0 (i := 0) rfl rfl (r_iload_n (pc := 355) dL_law_355 3 (i := 3) rfl rfl (r_iconst (pc := 356) (v := (iv 2)) dL_law_356 rfl (r_iadd (pc := 357) dL_law_357 (r_sload (pc := 358) dL_law_358 hf fun hf => (r_i2l (pc := 359) dL_law_359 (r_bipush (pc := 360) (v := (iv 32)) dL_law_360 bi_32 (r_lshl (pc := 362) dL_law_362 (r_aload_n (pc := 363) dL_law_363 0 (i := 0) rfl rfl (r_iload_n (pc := 364) dL_law_364 3 (i := 3) rfl rfl (r_iconst (pc := 365) (v := (iv 3)) dL_law_365 rfl (r_iadd (pc := 366) dL_law_366 (r_sload (pc := 367) dL_law_367 hf fun hf => (r_i2l (pc := 368) dL_law_368 (r_ldc2 (pc := 369) (v := (jv 4294967295)) dL_law_369 ct_L_36 (r_land (pc := 372) dL_law_372 (r_lor (pc := 373) dL_law_373 (r_aload_n (pc := 374) dL_law_374 0 (i := 0) rfl rfl (r_iload_n (pc := 375) dL_law_375 3 (i := 3) rfl rfl (r_iconst (pc := 376) (v := (iv 4)) dL_law_376 rfl (r_iadd (pc := 377) dL_law_377 (r_sload (pc := 378) dL_law_378 hf fun hf => (r_cV (pc := 379) vI dL_law_379 (cV_L_38 _ rfl) (Nat.le_of_ble_eq_true rfl) rfl (as := [vI (gI h 2 ((x3 + (iv 1))).toNatClampNeg), vJ ((x_lshl ((gI h 2 ((x3 + (iv 2))).toNatClampNeg)).toInt64 (iv 32)) ||| (((gI h 2 ((x3 + (iv 3))).toNatClampNeg)).toInt64 &&& (jv 4294967295))), vI (gI h 2 ((x3 + (iv 4))).toNatClampNeg)]) rfl rfl (Nat.le_of_ble_eq_true rfl) hf (fun _ _ z => m_X11_table z) (fun r2 g1 hf => (r_aload_n (pc := 382) dL_law_382 2 (i := 2) rfl rfl (r_aload_n (pc := 383) dL_law_383 0 (i := 0) rfl rfl (r_iload_n (pc := 384) dL_law_384 3 (i := 3) rfl rfl (r_iconst (pc := 385) (v := (iv 1)) dL_law_385 rfl (r_iadd (pc := 386) dL_law_386 (r_sload (pc := 387) dL_law_387 hf fun hf => (r_aload_n (pc := 388) dL_law_388 0 (i := 0) rfl rfl (r_iload_n (pc := 389) dL_law_389 3 (i := 3) rfl rfl (r_iconst (pc := 390) (v := (iv 2)) dL_law_390 rfl (r_iadd (pc := 391) dL_law_391 (r_sload (pc := 392) dL_law_392 hf fun hf => (r_i2l (pc := 393) dL_law_393 (r_bipush (pc := 394) (v := (iv 32)) dL_law_394 bi_32 (r_lshl (pc := 396) dL_law_396 (r_aload_n (pc := 397) dL_law_397 0 (i := 0) rfl rfl (r_iload_n (pc := 398) dL_law_398 3 (i := 3) rfl rfl (r_iconst (pc := 399) (v := (iv 3)) dL_law_399 rfl (r_iadd (pc := 400) dL_law_400 (r_sload (pc := 401) dL_law_401 hf fun hf => (r_i2l (pc := 402) dL_law_402 (r_ldc2 (pc := 403) (v := (jv 4294967295)) dL_law_403 ct_L_36 (r_land (pc := 406) dL_law_406 (r_lor (pc := 407) dL_law_407 (r_aload_n (pc := 408) dL_law_408 0 (i := 0) rfl rfl (r_iload_n (pc := 409) dL_law_409 3 (i := 3) rfl rfl (r_iconst (pc := 410) (v := (iv 4)) dL_law_410 rfl (r_iadd (pc := 411) dL_law_411 (r_sload (pc := 412) dL_law_412 hf fun hf => (r_cV (pc := 413) vI dL_law_413 (cV_L_42 _ rfl) (Nat.le_of_ble_eq_true rfl) rfl (as := [vI (gI g1 2 ((x3 + (iv 1))).toNatClampNeg), vJ ((x_lshl ((gI g1 2 ((x3 + (iv 2))).toNatClampNeg)).toInt64 (iv 32)) ||| (((gI g1 2 ((x3 + (iv 3))).toNatClampNeg)).toInt64 &&& (jv 4294967295))), vI (gI g1 2 ((x3 + (iv 4))).toNatClampNeg)]) rfl rfl (Nat.le_of_ble_eq_true rfl) hf (fun _ _ z => m_X12_table z) (fun r4 g3 hf => (r_icmp_eq (pc := 416) (tgt := 1917) dL_law_416 (by decide) hf (fun hf => (t_L_law_1917 hk_18 hf)) (fun hf => (r_iconst (pc := 419) (v := (iv 0)) dL_law_419 rfl (r_zreturn (pc := 420) dL_law_420 rfl hf))))))))))))))))))))))))))))))))))))))))))))))))))))))))))))))))
set_option maxRecDepth 100000 in
set_option maxHeartbeats 4000000 in
theorem t_L_law_421 {h1 : AH} {r : Int32} {k_18 : Nat → Nat → Nat → Int32 → AH → Option (Int32 × AH)} (hk_18 : ∀ (x0 : Nat) (x1 : Nat) (x2 : Nat) (x3 : Int32) (h : AH), k_18 x0 x1 x2 x3 h = some (r, h1) → WA mL_law 51 18 [(0, vR x0), (1, vR x1), (2, vR x2), (3, vI x3)] [] h (some (vI r), h1)) {x0 : Nat} {x1 : Nat} {x2 : Nat} {x3 : Int32} {h : AH} (hf : f_L_law_421 k_18 x0 x1 x2 x3 h = some (r, h1)) : WA mL_law 51 421 [(0, vR x0), (1, vR x1), (2, vR x2), (3, vI x3)] [] h (some (vI r), h1) := by
  unfold f_L_law_421 at hf
  exact (r_aload_n (pc := 421) dL_law_421 1 (i := 1) rfl rfl (r_aload_n (pc := 422) dL_law_422 0 (i := 0) rfl rfl (r_iload_n (pc := 423) dL_law_423 3 (i := 3) rfl rfl (r_iconst (pc := 424) (v := (iv 1)) dL_law_424 rfl (r_iadd (pc := 425) dL_law_425 (r_sload (pc := 426) dL_law_426 hf fun hf => (r_aload_n (pc := 427) dL_law_427 0 (i := 0) rfl rfl (r_iload_n (pc := 428) dL_law_428 3 (i := 3) rfl rfl (r_iconst (pc := 429) (v := (iv 2)) dL_law_429 rfl (r_iadd (pc := 430) dL_law_430 (r_sload (pc := 431) dL_law_431 hf fun hf => (r_i2l (pc := 432) dL_law_432 (r_bipush (pc := 433) (v := (iv 32)) dL_law_433 bi_32 (r_lshl (pc := 435) dL_law_435 (r_aload_n (pc := 436) dL_law_436 0 (i := 0) rfl rfl (r_iload_n (pc := 437) dL_law_437 3 (i := 3) rfl rfl (r_iconst (pc := 438) (v := (iv 3)) dL_law_438 rfl (r_iadd (pc := 439) dL_law_439 (r_sload (pc := 440) dL_law_440 hf fun hf => (r_i2l (pc := 441) dL_law_441 (r_ldc2 (pc := 442) (v := (jv 4294967295)) dL_law_442 ct_L_36 (r_land (pc := 445) dL_law_445 (r_lor (pc := 446) dL_law_446 (r_aload_n (pc := 447) dL_law_447 0 (i := 0) rfl rfl (r_iload_n (pc := 448) dL_law_448 3 (i := 3) rfl rfl (r_iconst (pc := 449) (v := (iv 4)) dL_law_449 rfl (r_iadd (pc := 450) dL_law_450 (r_sload (pc := 451) dL_law_451 hf fun hf => (r_cV (pc := 452) vI dL_law_452 (cV_L_43 _ rfl) (Nat.le_of_ble_eq_true rfl) rfl (as := [vI (gI h 2 ((x3 + (iv 1))).toNatClampNeg), vJ ((x_lshl ((gI h 2 ((x3 + (iv 2))).toNatClampNeg)).toInt64 (iv 32)) ||| (((gI h 2 ((x3 + (iv 3))).toNatClampNeg)).toInt64 &&& (jv 4294967295))), vI (gI h 2 ((x3 + (iv 4))).toNatClampNeg)]) rfl rfl (Nat.le_of_ble_eq_true rfl) hf (fun _ _ z => m_X11_drawn z) (fun r2 g1 hf => (r_aload_n (pc := 455) dL_law_455 2 (i := 2) rfl rfl (r_aload_n (pc := 456) dL_law_456 0 (i := 0) rfl rfl (r_iload_n (pc := 457) dL_law_457 3 (i := 3) rfl rfl (r_iconst (pc := 458) (v := (iv 1)) dL_law_458 rfl (r_iadd (pc := 459) dL_law_459 (r_sload (pc := 460) dL_law_460 hf fun hf => (r_aload_n (pc := 461) dL_law_461 0 (i := 0) rfl rfl (r_iload_n (pc := 462) dL_law_462 3 (i := 3) rfl rfl (r_iconst (pc := 463) (v := (iv 2)) dL_law_463 rfl (r_iadd (pc := 464) dL_law_464 (r_sload (pc := 465) dL_law_465 hf fun hf => (r_i2l (pc := 466) dL_law_466 (r_bipush (pc := 467) (v := (iv 32)) dL_law_467 bi_32 (r_lshl (pc := 469) dL_law_469 (r_aload_n (pc := 470) dL_law_470 0 (i := 0) rfl rfl (r_iload_n (pc := 471) dL_law_471 3 (i := 3) rfl rfl (r_iconst (pc := 472) (v := (iv 3)) dL_law_472 rfl (r_iadd (pc := 473) dL_law_473 (r_sload (pc := 474) dL_law_474 hf fun hf => (r_i2l (pc := 475) dL_law_475 (r_ldc2 (pc := 476) (v := (jv 4294967295)) dL_law_476 ct_L_36 (r_land (pc := 479) dL_law_479 (r_lor (pc := 480) dL_law_480 (r_aload_n (pc := 481) dL_law_481 0 (i := 0) rfl rfl (r_iload_n (pc := 482) dL_law_482 3 (i := 3) rfl rfl (r_iconst (pc := 483) (v := (iv 4)) dL_law_483 rfl (r_iadd (pc := 484) dL_law_484 (r_sload (pc := 485) dL_law_485 hf fun hf => (r_cV (pc := 486) vI dL_law_486 (cV_L_46 _ rfl) (Nat.le_of_ble_eq_true rfl) rfl (as := [vI (gI g1 2 ((x3 + (iv 1))).toNatClampNeg), vJ ((x_lshl ((gI g1 2 ((x3 + (iv 2))).toNatClampNeg)).toInt64 (iv 32)) ||| (((gI g1 2 ((x3 + (iv 3))).toNatClampNeg)).toInt64 &&& (jv 4294967295))), vI (gI g1 2 ((x3 + (iv 4))).toNatClampNeg)]) rfl rfl (Nat.le_of_ble_eq_true rfl) hf (fun _ _ z => m_X12_drawn z) (fun r4 g3 hf => (r_icmp_eq (pc := 489) (tgt := 1917) dL_law_489 (by decide) hf (fun hf => (t_L_law_1917 hk_18 hf)) (fun hf => (r_iconst (pc := 492) (v := (iv 0)) dL_law_492 rfl (r_zreturn (pc := 493) dL_law_493 rfl hf))))))))))))))))))))))))))))))))))))))))))))))))))))))))))))))))
set_option maxRecDepth 100000 in
set_option maxHeartbeats 4000000 in
theorem t_L_law_494 {h1 : AH} {r : Int32} {k_18 : Nat → Nat → Nat → Int32 → AH → Option (Int32 × AH)} (hk_18 : ∀ (x0 : Nat) (x1 : Nat) (x2 : Nat) (x3 : Int32) (h : AH), k_18 x0 x1 x2 x3 h = some (r, h1) → WA mL_law 51 18 [(0, vR x0), (1, vR x1), (2, vR x2), (3, vI x3)] [] h (some (vI r), h1)) {x0 : Nat} {x1 : Nat} {x2 : Nat} {x3 : Int32} {h : AH} (hf : f_L_law_494 k_18 x0 x1 x2 x3 h = some (r, h1)) : WA mL_law 51 494 [(0, vR x0), (1, vR x1), (2, vR x2), (3, vI x3)] [] h (some (vI r), h1) := by
  unfold f_L_law_494 at hf
  exact (r_aload_n (pc := 494) dL_law_494 1 (i := 1) rfl rfl (r_aload_n (pc := 495) dL_law_495 0 (i := 0) rfl rfl (r_iload_n (pc := 496) dL_law_496 3 (i := 3) rfl rfl (r_iconst (pc := 497) (v := (iv 1)) dL_law_497 rfl (r_iadd (pc := 498) dL_law_498 (r_sload (pc := 499) dL_law_499 hf fun hf => (r_aload_n (pc := 500) dL_law_500 0 (i := 0) rfl rfl (r_iload_n (pc := 501) dL_law_501 3 (i := 3) rfl rfl (r_iconst (pc := 502) (v := (iv 2)) dL_law_502 rfl (r_iadd (pc := 503) dL_law_503 (r_sload (pc := 504) dL_law_504 hf fun hf => (r_aload_n (pc := 505) dL_law_505 0 (i := 0) rfl rfl (r_iload_n (pc := 506) dL_law_506 3 (i := 3) rfl rfl (r_iconst (pc := 507) (v := (iv 3)) dL_law_507 rfl (r_iadd (pc := 508) dL_law_508 (r_sload (pc := 509) dL_law_509 hf fun hf => (r_cV (pc := 510) vI dL_law_510 (cV_L_47 _ rfl) (Nat.le_of_ble_eq_true rfl) rfl (as := [vI (gI h 2 ((x3 + (iv 1))).toNatClampNeg), vI (gI h 2 ((x3 + (iv 2))).toNatClampNeg), vI (gI h 2 ((x3 + (iv 3))).toNatClampNeg)]) rfl rfl (Nat.le_of_ble_eq_true rfl) hf (fun _ _ z => m_X11_may z) (fun r2 g1 hf => (r_aload_n (pc := 513) dL_law_513 2 (i := 2) rfl rfl (r_aload_n (pc := 514) dL_law_514 0 (i := 0) rfl rfl (r_iload_n (pc := 515) dL_law_515 3 (i := 3) rfl rfl (r_iconst (pc := 516) (v := (iv 1)) dL_law_516 rfl (r_iadd (pc := 517) dL_law_517 (r_sload (pc := 518) dL_law_518 hf fun hf => (r_aload_n (pc := 519) dL_law_519 0 (i := 0) rfl rfl (r_iload_n (pc := 520) dL_law_520 3 (i := 3) rfl rfl (r_iconst (pc := 521) (v := (iv 2)) dL_law_521 rfl (r_iadd (pc := 522) dL_law_522 (r_sload (pc := 523) dL_law_523 hf fun hf => (r_aload_n (pc := 524) dL_law_524 0 (i := 0) rfl rfl (r_iload_n (pc := 525) dL_law_525 3 (i := 3) rfl rfl (r_iconst (pc := 526) (v := (iv 3)) dL_law_526 rfl (r_iadd (pc := 527) dL_law_527 (r_sload (pc := 528) dL_law_528 hf fun hf => (r_cV (pc := 529) vI dL_law_529 (cV_L_51 _ rfl) (Nat.le_of_ble_eq_true rfl) rfl (as := [vI (gI g1 2 ((x3 + (iv 1))).toNatClampNeg), vI (gI g1 2 ((x3 + (iv 2))).toNatClampNeg), vI (gI g1 2 ((x3 + (iv 3))).toNatClampNeg)]) rfl rfl (Nat.le_of_ble_eq_true rfl) hf (fun _ _ z => m_X12_may z) (fun r4 g3 hf => (r_icmp_eq (pc := 532) (tgt := 1917) dL_law_532 (by decide) hf (fun hf => (t_L_law_1917 hk_18 hf)) (fun hf => (r_iconst (pc := 535) (v := (iv 0)) dL_law_535 rfl (r_zreturn (pc := 536) dL_law_536 rfl hf))))))))))))))))))))))))))))))))))))))))
set_option maxRecDepth 100000 in
set_option maxHeartbeats 4000000 in
theorem t_L_law_537 {h1 : AH} {r : Int32} {k_18 : Nat → Nat → Nat → Int32 → AH → Option (Int32 × AH)} (hk_18 : ∀ (x0 : Nat) (x1 : Nat) (x2 : Nat) (x3 : Int32) (h : AH), k_18 x0 x1 x2 x3 h = some (r, h1) → WA mL_law 51 18 [(0, vR x0), (1, vR x1), (2, vR x2), (3, vI x3)] [] h (some (vI r), h1)) {x0 : Nat} {x1 : Nat} {x2 : Nat} {x3 : Int32} {h : AH} (hf : f_L_law_537 k_18 x0 x1 x2 x3 h = some (r, h1)) : WA mL_law 51 537 [(0, vR x0), (1, vR x1), (2, vR x2), (3, vI x3)] [] h (some (vI r), h1) := by
  unfold f_L_law_537 at hf
  exact (r_aload_n (pc := 537) dL_law_537 1 (i := 1) rfl rfl (r_aload_n (pc := 538) dL_law_538 0 (i := 0) rfl rfl (r_iload_n (pc := 539) dL_law_539 3 (i := 3) rfl rfl (r_iconst (pc := 540) (v := (iv 1)) dL_law_540 rfl (r_iadd (pc := 541) dL_law_541 (r_sload (pc := 542) dL_law_542 hf fun hf => (r_aload_n (pc := 543) dL_law_543 0 (i := 0) rfl rfl (r_iload_n (pc := 544) dL_law_544 3 (i := 3) rfl rfl (r_iconst (pc := 545) (v := (iv 2)) dL_law_545 rfl (r_iadd (pc := 546) dL_law_546 (r_sload (pc := 547) dL_law_547 hf fun hf => (r_aload_n (pc := 548) dL_law_548 0 (i := 0) rfl rfl (r_iload_n (pc := 549) dL_law_549 3 (i := 3) rfl rfl (r_iconst (pc := 550) (v := (iv 3)) dL_law_550 rfl (r_iadd (pc := 551) dL_law_551 (r_sload (pc := 552) dL_law_552 hf fun hf => (r_cV (pc := 553) vI dL_law_553 (cV_L_52 _ rfl) (Nat.le_of_ble_eq_true rfl) rfl (as := [vI (gI h 2 ((x3 + (iv 1))).toNatClampNeg), vI (gI h 2 ((x3 + (iv 2))).toNatClampNeg), vI (gI h 2 ((x3 + (iv 3))).toNatClampNeg)]) rfl rfl (Nat.le_of_ble_eq_true rfl) hf (fun _ _ z => m_X11_open z) (fun r2 g1 hf => (r_aload_n (pc := 556) dL_law_556 2 (i := 2) rfl rfl (r_aload_n (pc := 557) dL_law_557 0 (i := 0) rfl rfl (r_iload_n (pc := 558) dL_law_558 3 (i := 3) rfl rfl (r_iconst (pc := 559) (v := (iv 1)) dL_law_559 rfl (r_iadd (pc := 560) dL_law_560 (r_sload (pc := 561) dL_law_561 hf fun hf => (r_aload_n (pc := 562) dL_law_562 0 (i := 0) rfl rfl (r_iload_n (pc := 563) dL_law_563 3 (i := 3) rfl rfl (r_iconst (pc := 564) (v := (iv 2)) dL_law_564 rfl (r_iadd (pc := 565) dL_law_565 (r_sload (pc := 566) dL_law_566 hf fun hf => (r_aload_n (pc := 567) dL_law_567 0 (i := 0) rfl rfl (r_iload_n (pc := 568) dL_law_568 3 (i := 3) rfl rfl (r_iconst (pc := 569) (v := (iv 3)) dL_law_569 rfl (r_iadd (pc := 570) dL_law_570 (r_sload (pc := 571) dL_law_571 hf fun hf => (r_cV (pc := 572) vI dL_law_572 (cV_L_55 _ rfl) (Nat.le_of_ble_eq_true rfl) rfl (as := [vI (gI g1 2 ((x3 + (iv 1))).toNatClampNeg), vI (gI g1 2 ((x3 + (iv 2))).toNatClampNeg), vI (gI g1 2 ((x3 + (iv 3))).toNatClampNeg)]) rfl rfl (Nat.le_of_ble_eq_true rfl) hf (fun _ _ z => m_X12_open z) (fun r4 g3 hf => (r_icmp_eq (pc := 575) (tgt := 1917) dL_law_575 (by decide) hf (fun hf => (t_L_law_1917 hk_18 hf)) (fun hf => (r_iconst (pc := 578) (v := (iv 0)) dL_law_578 rfl (r_zreturn (pc := 579) dL_law_579 rfl hf))))))))))))))))))))))))))))))))))))))))
set_option maxRecDepth 100000 in
set_option maxHeartbeats 4000000 in
theorem t_L_law_580 {h1 : AH} {r : Int32} {k_18 : Nat → Nat → Nat → Int32 → AH → Option (Int32 × AH)} (hk_18 : ∀ (x0 : Nat) (x1 : Nat) (x2 : Nat) (x3 : Int32) (h : AH), k_18 x0 x1 x2 x3 h = some (r, h1) → WA mL_law 51 18 [(0, vR x0), (1, vR x1), (2, vR x2), (3, vI x3)] [] h (some (vI r), h1)) {x0 : Nat} {x1 : Nat} {x2 : Nat} {x3 : Int32} {h : AH} (hf : f_L_law_580 k_18 x0 x1 x2 x3 h = some (r, h1)) : WA mL_law 51 580 [(0, vR x0), (1, vR x1), (2, vR x2), (3, vI x3)] [] h (some (vI r), h1) := by
  unfold f_L_law_580 at hf
  exact (r_aload_n (pc := 580) dL_law_580 1 (i := 1) rfl rfl (r_aload_n (pc := 581) dL_law_581 0 (i := 0) rfl rfl (r_iload_n (pc := 582) dL_law_582 3 (i := 3) rfl rfl (r_iconst (pc := 583) (v := (iv 1)) dL_law_583 rfl (r_iadd (pc := 584) dL_law_584 (r_sload (pc := 585) dL_law_585 hf fun hf => (r_aload_n (pc := 586) dL_law_586 0 (i := 0) rfl rfl (r_iload_n (pc := 587) dL_law_587 3 (i := 3) rfl rfl (r_iconst (pc := 588) (v := (iv 2)) dL_law_588 rfl (r_iadd (pc := 589) dL_law_589 (r_sload (pc := 590) dL_law_590 hf fun hf => (r_aload_n (pc := 591) dL_law_591 0 (i := 0) rfl rfl (r_iload_n (pc := 592) dL_law_592 3 (i := 3) rfl rfl (r_iconst (pc := 593) (v := (iv 3)) dL_law_593 rfl (r_iadd (pc := 594) dL_law_594 (r_sload (pc := 595) dL_law_595 hf fun hf => (r_cV (pc := 596) vI dL_law_596 (cV_L_56 _ rfl) (Nat.le_of_ble_eq_true rfl) rfl (as := [vI (gI h 2 ((x3 + (iv 1))).toNatClampNeg), vI (gI h 2 ((x3 + (iv 2))).toNatClampNeg), vI (gI h 2 ((x3 + (iv 3))).toNatClampNeg)]) rfl rfl (Nat.le_of_ble_eq_true rfl) hf (fun _ _ z => m_X11_ends z) (fun r2 g1 hf => (r_aload_n (pc := 599) dL_law_599 2 (i := 2) rfl rfl (r_aload_n (pc := 600) dL_law_600 0 (i := 0) rfl rfl (r_iload_n (pc := 601) dL_law_601 3 (i := 3) rfl rfl (r_iconst (pc := 602) (v := (iv 1)) dL_law_602 rfl (r_iadd (pc := 603) dL_law_603 (r_sload (pc := 604) dL_law_604 hf fun hf => (r_aload_n (pc := 605) dL_law_605 0 (i := 0) rfl rfl (r_iload_n (pc := 606) dL_law_606 3 (i := 3) rfl rfl (r_iconst (pc := 607) (v := (iv 2)) dL_law_607 rfl (r_iadd (pc := 608) dL_law_608 (r_sload (pc := 609) dL_law_609 hf fun hf => (r_aload_n (pc := 610) dL_law_610 0 (i := 0) rfl rfl (r_iload_n (pc := 611) dL_law_611 3 (i := 3) rfl rfl (r_iconst (pc := 612) (v := (iv 3)) dL_law_612 rfl (r_iadd (pc := 613) dL_law_613 (r_sload (pc := 614) dL_law_614 hf fun hf => (r_cV (pc := 615) vI dL_law_615 (cV_L_59 _ rfl) (Nat.le_of_ble_eq_true rfl) rfl (as := [vI (gI g1 2 ((x3 + (iv 1))).toNatClampNeg), vI (gI g1 2 ((x3 + (iv 2))).toNatClampNeg), vI (gI g1 2 ((x3 + (iv 3))).toNatClampNeg)]) rfl rfl (Nat.le_of_ble_eq_true rfl) hf (fun _ _ z => m_X12_ends z) (fun r4 g3 hf => (r_icmp_eq (pc := 618) (tgt := 1917) dL_law_618 (by decide) hf (fun hf => (t_L_law_1917 hk_18 hf)) (fun hf => (r_iconst (pc := 621) (v := (iv 0)) dL_law_621 rfl (r_zreturn (pc := 622) dL_law_622 rfl hf))))))))))))))))))))))))))))))))))))))))
set_option maxRecDepth 100000 in
set_option maxHeartbeats 4000000 in
theorem t_L_law_623 {h1 : AH} {r : Int32} {k_18 : Nat → Nat → Nat → Int32 → AH → Option (Int32 × AH)} (hk_18 : ∀ (x0 : Nat) (x1 : Nat) (x2 : Nat) (x3 : Int32) (h : AH), k_18 x0 x1 x2 x3 h = some (r, h1) → WA mL_law 51 18 [(0, vR x0), (1, vR x1), (2, vR x2), (3, vI x3)] [] h (some (vI r), h1)) {x0 : Nat} {x1 : Nat} {x2 : Nat} {x3 : Int32} {h : AH} (hf : f_L_law_623 k_18 x0 x1 x2 x3 h = some (r, h1)) : WA mL_law 51 623 [(0, vR x0), (1, vR x1), (2, vR x2), (3, vI x3)] [] h (some (vI r), h1) := by
  unfold f_L_law_623 at hf
  exact (r_aload_n (pc := 623) dL_law_623 1 (i := 1) rfl rfl (r_aload_n (pc := 624) dL_law_624 0 (i := 0) rfl rfl (r_iload_n (pc := 625) dL_law_625 3 (i := 3) rfl rfl (r_iconst (pc := 626) (v := (iv 1)) dL_law_626 rfl (r_iadd (pc := 627) dL_law_627 (r_sload (pc := 628) dL_law_628 hf fun hf => (r_aload_n (pc := 629) dL_law_629 0 (i := 0) rfl rfl (r_iload_n (pc := 630) dL_law_630 3 (i := 3) rfl rfl (r_iconst (pc := 631) (v := (iv 2)) dL_law_631 rfl (r_iadd (pc := 632) dL_law_632 (r_sload (pc := 633) dL_law_633 hf fun hf => (r_aload_n (pc := 634) dL_law_634 0 (i := 0) rfl rfl (r_iload_n (pc := 635) dL_law_635 3 (i := 3) rfl rfl (r_iconst (pc := 636) (v := (iv 3)) dL_law_636 rfl (r_iadd (pc := 637) dL_law_637 (r_sload (pc := 638) dL_law_638 hf fun hf => (r_cV (pc := 639) vI dL_law_639 (cV_L_60 _ rfl) (Nat.le_of_ble_eq_true rfl) rfl (as := [vI (gI h 2 ((x3 + (iv 1))).toNatClampNeg), vI (gI h 2 ((x3 + (iv 2))).toNatClampNeg), vI (gI h 2 ((x3 + (iv 3))).toNatClampNeg)]) rfl rfl (Nat.le_of_ble_eq_true rfl) hf (fun _ _ z => m_X11_inAll z) (fun r2 g1 hf => (r_aload_n (pc := 642) dL_law_642 2 (i := 2) rfl rfl (r_aload_n (pc := 643) dL_law_643 0 (i := 0) rfl rfl (r_iload_n (pc := 644) dL_law_644 3 (i := 3) rfl rfl (r_iconst (pc := 645) (v := (iv 1)) dL_law_645 rfl (r_iadd (pc := 646) dL_law_646 (r_sload (pc := 647) dL_law_647 hf fun hf => (r_aload_n (pc := 648) dL_law_648 0 (i := 0) rfl rfl (r_iload_n (pc := 649) dL_law_649 3 (i := 3) rfl rfl (r_iconst (pc := 650) (v := (iv 2)) dL_law_650 rfl (r_iadd (pc := 651) dL_law_651 (r_sload (pc := 652) dL_law_652 hf fun hf => (r_aload_n (pc := 653) dL_law_653 0 (i := 0) rfl rfl (r_iload_n (pc := 654) dL_law_654 3 (i := 3) rfl rfl (r_iconst (pc := 655) (v := (iv 3)) dL_law_655 rfl (r_iadd (pc := 656) dL_law_656 (r_sload (pc := 657) dL_law_657 hf fun hf => (r_cV (pc := 658) vI dL_law_658 (cV_L_63 _ rfl) (Nat.le_of_ble_eq_true rfl) rfl (as := [vI (gI g1 2 ((x3 + (iv 1))).toNatClampNeg), vI (gI g1 2 ((x3 + (iv 2))).toNatClampNeg), vI (gI g1 2 ((x3 + (iv 3))).toNatClampNeg)]) rfl rfl (Nat.le_of_ble_eq_true rfl) hf (fun _ _ z => m_X12_inAll z) (fun r4 g3 hf => (r_icmp_eq (pc := 661) (tgt := 1917) dL_law_661 (by decide) hf (fun hf => (t_L_law_1917 hk_18 hf)) (fun hf => (r_iconst (pc := 664) (v := (iv 0)) dL_law_664 rfl (r_zreturn (pc := 665) dL_law_665 rfl hf))))))))))))))))))))))))))))))))))))))))
set_option maxRecDepth 100000 in
set_option maxHeartbeats 4000000 in
theorem t_L_law_666 {h1 : AH} {r : Int32} {k_18 : Nat → Nat → Nat → Int32 → AH → Option (Int32 × AH)} (hk_18 : ∀ (x0 : Nat) (x1 : Nat) (x2 : Nat) (x3 : Int32) (h : AH), k_18 x0 x1 x2 x3 h = some (r, h1) → WA mL_law 51 18 [(0, vR x0), (1, vR x1), (2, vR x2), (3, vI x3)] [] h (some (vI r), h1)) {x0 : Nat} {x1 : Nat} {x2 : Nat} {x3 : Int32} {h : AH} (hf : f_L_law_666 k_18 x0 x1 x2 x3 h = some (r, h1)) : WA mL_law 51 666 [(0, vR x0), (1, vR x1), (2, vR x2), (3, vI x3)] [] h (some (vI r), h1) := by
  unfold f_L_law_666 at hf
  exact (r_aload_n (pc := 666) dL_law_666 1 (i := 1) rfl rfl (r_aload_n (pc := 667) dL_law_667 0 (i := 0) rfl rfl (r_iload_n (pc := 668) dL_law_668 3 (i := 3) rfl rfl (r_iconst (pc := 669) (v := (iv 1)) dL_law_669 rfl (r_iadd (pc := 670) dL_law_670 (r_sload (pc := 671) dL_law_671 hf fun hf => (r_aload_n (pc := 672) dL_law_672 0 (i := 0) rfl rfl (r_iload_n (pc := 673) dL_law_673 3 (i := 3) rfl rfl (r_iconst (pc := 674) (v := (iv 2)) dL_law_674 rfl (r_iadd (pc := 675) dL_law_675 (r_sload (pc := 676) dL_law_676 hf fun hf => (r_cV (pc := 677) vI dL_law_677 (cV_L_64 _ rfl) (Nat.le_of_ble_eq_true rfl) rfl (as := [vI (gI h 2 ((x3 + (iv 1))).toNatClampNeg), vI (gI h 2 ((x3 + (iv 2))).toNatClampNeg)]) rfl rfl (Nat.le_of_ble_eq_true rfl) hf (fun _ _ z => m_X11_sure z) (fun r2 g1 hf => (r_aload_n (pc := 680) dL_law_680 2 (i := 2) rfl rfl (r_aload_n (pc := 681) dL_law_681 0 (i := 0) rfl rfl (r_iload_n (pc := 682) dL_law_682 3 (i := 3) rfl rfl (r_iconst (pc := 683) (v := (iv 1)) dL_law_683 rfl (r_iadd (pc := 684) dL_law_684 (r_sload (pc := 685) dL_law_685 hf fun hf => (r_aload_n (pc := 686) dL_law_686 0 (i := 0) rfl rfl (r_iload_n (pc := 687) dL_law_687 3 (i := 3) rfl rfl (r_iconst (pc := 688) (v := (iv 2)) dL_law_688 rfl (r_iadd (pc := 689) dL_law_689 (r_sload (pc := 690) dL_law_690 hf fun hf => (r_cV (pc := 691) vI dL_law_691 (cV_L_67 _ rfl) (Nat.le_of_ble_eq_true rfl) rfl (as := [vI (gI g1 2 ((x3 + (iv 1))).toNatClampNeg), vI (gI g1 2 ((x3 + (iv 2))).toNatClampNeg)]) rfl rfl (Nat.le_of_ble_eq_true rfl) hf (fun _ _ z => m_X12_sure z) (fun r4 g3 hf => (r_icmp_eq (pc := 694) (tgt := 1917) dL_law_694 (by decide) hf (fun hf => (t_L_law_1917 hk_18 hf)) (fun hf => (r_iconst (pc := 697) (v := (iv 0)) dL_law_697 rfl (r_zreturn (pc := 698) dL_law_698 rfl hf))))))))))))))))))))))))))))))
set_option maxRecDepth 100000 in
set_option maxHeartbeats 4000000 in
theorem t_L_law_699 {h1 : AH} {r : Int32} {k_18 : Nat → Nat → Nat → Int32 → AH → Option (Int32 × AH)} (hk_18 : ∀ (x0 : Nat) (x1 : Nat) (x2 : Nat) (x3 : Int32) (h : AH), k_18 x0 x1 x2 x3 h = some (r, h1) → WA mL_law 51 18 [(0, vR x0), (1, vR x1), (2, vR x2), (3, vI x3)] [] h (some (vI r), h1)) {x0 : Nat} {x1 : Nat} {x2 : Nat} {x3 : Int32} {h : AH} (hf : f_L_law_699 k_18 x0 x1 x2 x3 h = some (r, h1)) : WA mL_law 51 699 [(0, vR x0), (1, vR x1), (2, vR x2), (3, vI x3)] [] h (some (vI r), h1) := by
  unfold f_L_law_699 at hf
  exact (r_aload_n (pc := 699) dL_law_699 1 (i := 1) rfl rfl (r_aload_n (pc := 700) dL_law_700 0 (i := 0) rfl rfl (r_iload_n (pc := 701) dL_law_701 3 (i := 3) rfl rfl (r_iconst (pc := 702) (v := (iv 1)) dL_law_702 rfl (r_iadd (pc := 703) dL_law_703 (r_sload (pc := 704) dL_law_704 hf fun hf => (r_aload_n (pc := 705) dL_law_705 0 (i := 0) rfl rfl (r_iload_n (pc := 706) dL_law_706 3 (i := 3) rfl rfl (r_iconst (pc := 707) (v := (iv 2)) dL_law_707 rfl (r_iadd (pc := 708) dL_law_708 (r_sload (pc := 709) dL_law_709 hf fun hf => (r_cV (pc := 710) vI dL_law_710 (cV_L_68 _ rfl) (Nat.le_of_ble_eq_true rfl) rfl (as := [vI (gI h 2 ((x3 + (iv 1))).toNatClampNeg), vI (gI h 2 ((x3 + (iv 2))).toNatClampNeg)]) rfl rfl (Nat.le_of_ble_eq_true rfl) hf (fun _ _ z => m_X11_next z) (fun r2 g1 hf => (r_aload_n (pc := 713) dL_law_713 2 (i := 2) rfl rfl (r_aload_n (pc := 714) dL_law_714 0 (i := 0) rfl rfl (r_iload_n (pc := 715) dL_law_715 3 (i := 3) rfl rfl (r_iconst (pc := 716) (v := (iv 1)) dL_law_716 rfl (r_iadd (pc := 717) dL_law_717 (r_sload (pc := 718) dL_law_718 hf fun hf => (r_aload_n (pc := 719) dL_law_719 0 (i := 0) rfl rfl (r_iload_n (pc := 720) dL_law_720 3 (i := 3) rfl rfl (r_iconst (pc := 721) (v := (iv 2)) dL_law_721 rfl (r_iadd (pc := 722) dL_law_722 (r_sload (pc := 723) dL_law_723 hf fun hf => (r_cV (pc := 724) vI dL_law_724 (cV_L_71 _ rfl) (Nat.le_of_ble_eq_true rfl) rfl (as := [vI (gI g1 2 ((x3 + (iv 1))).toNatClampNeg), vI (gI g1 2 ((x3 + (iv 2))).toNatClampNeg)]) rfl rfl (Nat.le_of_ble_eq_true rfl) hf (fun _ _ z => m_X12_next z) (fun r4 g3 hf => (r_icmp_eq (pc := 727) (tgt := 1917) dL_law_727 (by decide) hf (fun hf => (t_L_law_1917 hk_18 hf)) (fun hf => (r_iconst (pc := 730) (v := (iv 0)) dL_law_730 rfl (r_zreturn (pc := 731) dL_law_731 rfl hf))))))))))))))))))))))))))))))
set_option maxRecDepth 100000 in
set_option maxHeartbeats 4000000 in
theorem t_L_law_732 {h1 : AH} {r : Int32} {k_18 : Nat → Nat → Nat → Int32 → AH → Option (Int32 × AH)} (hk_18 : ∀ (x0 : Nat) (x1 : Nat) (x2 : Nat) (x3 : Int32) (h : AH), k_18 x0 x1 x2 x3 h = some (r, h1) → WA mL_law 51 18 [(0, vR x0), (1, vR x1), (2, vR x2), (3, vI x3)] [] h (some (vI r), h1)) {x0 : Nat} {x1 : Nat} {x2 : Nat} {x3 : Int32} {h : AH} (hf : f_L_law_732 k_18 x0 x1 x2 x3 h = some (r, h1)) : WA mL_law 51 732 [(0, vR x0), (1, vR x1), (2, vR x2), (3, vI x3)] [] h (some (vI r), h1) := by
  unfold f_L_law_732 at hf
  exact (r_aload_n (pc := 732) dL_law_732 1 (i := 1) rfl rfl (r_aload_n (pc := 733) dL_law_733 0 (i := 0) rfl rfl (r_iload_n (pc := 734) dL_law_734 3 (i := 3) rfl rfl (r_iconst (pc := 735) (v := (iv 1)) dL_law_735 rfl (r_iadd (pc := 736) dL_law_736 (r_sload (pc := 737) dL_law_737 hf fun hf => (r_aload_n (pc := 738) dL_law_738 0 (i := 0) rfl rfl (r_iload_n (pc := 739) dL_law_739 3 (i := 3) rfl rfl (r_iconst (pc := 740) (v := (iv 2)) dL_law_740 rfl (r_iadd (pc := 741) dL_law_741 (r_sload (pc := 742) dL_law_742 hf fun hf => (r_aload_n (pc := 743) dL_law_743 0 (i := 0) rfl rfl (r_iload_n (pc := 744) dL_law_744 3 (i := 3) rfl rfl (r_iconst (pc := 745) (v := (iv 3)) dL_law_745 rfl (r_iadd (pc := 746) dL_law_746 (r_sload (pc := 747) dL_law_747 hf fun hf => (r_cV (pc := 748) vI dL_law_748 (cV_L_72 _ rfl) (Nat.le_of_ble_eq_true rfl) rfl (as := [vI (gI h 2 ((x3 + (iv 1))).toNatClampNeg), vI (gI h 2 ((x3 + (iv 2))).toNatClampNeg), vI (gI h 2 ((x3 + (iv 3))).toNatClampNeg)]) rfl rfl (Nat.le_of_ble_eq_true rfl) hf (fun _ _ z => m_X11_opens z) (fun r2 g1 hf => (r_aload_n (pc := 751) dL_law_751 2 (i := 2) rfl rfl (r_aload_n (pc := 752) dL_law_752 0 (i := 0) rfl rfl (r_iload_n (pc := 753) dL_law_753 3 (i := 3) rfl rfl (r_iconst (pc := 754) (v := (iv 1)) dL_law_754 rfl (r_iadd (pc := 755) dL_law_755 (r_sload (pc := 756) dL_law_756 hf fun hf => (r_aload_n (pc := 757) dL_law_757 0 (i := 0) rfl rfl (r_iload_n (pc := 758) dL_law_758 3 (i := 3) rfl rfl (r_iconst (pc := 759) (v := (iv 2)) dL_law_759 rfl (r_iadd (pc := 760) dL_law_760 (r_sload (pc := 761) dL_law_761 hf fun hf => (r_aload_n (pc := 762) dL_law_762 0 (i := 0) rfl rfl (r_iload_n (pc := 763) dL_law_763 3 (i := 3) rfl rfl (r_iconst (pc := 764) (v := (iv 3)) dL_law_764 rfl (r_iadd (pc := 765) dL_law_765 (r_sload (pc := 766) dL_law_766 hf fun hf => (r_cV (pc := 767) vI dL_law_767 (cV_L_75 _ rfl) (Nat.le_of_ble_eq_true rfl) rfl (as := [vI (gI g1 2 ((x3 + (iv 1))).toNatClampNeg), vI (gI g1 2 ((x3 + (iv 2))).toNatClampNeg), vI (gI g1 2 ((x3 + (iv 3))).toNatClampNeg)]) rfl rfl (Nat.le_of_ble_eq_true rfl) hf (fun _ _ z => m_X12_opens z) (fun r4 g3 hf => (r_icmp_eq (pc := 770) (tgt := 1917) dL_law_770 (by decide) hf (fun hf => (t_L_law_1917 hk_18 hf)) (fun hf => (r_iconst (pc := 773) (v := (iv 0)) dL_law_773 rfl (r_zreturn (pc := 774) dL_law_774 rfl hf))))))))))))))))))))))))))))))))))))))))
set_option maxRecDepth 100000 in
set_option maxHeartbeats 4000000 in
theorem t_L_law_775 {h1 : AH} {r : Int32} {k_18 : Nat → Nat → Nat → Int32 → AH → Option (Int32 × AH)} (hk_18 : ∀ (x0 : Nat) (x1 : Nat) (x2 : Nat) (x3 : Int32) (h : AH), k_18 x0 x1 x2 x3 h = some (r, h1) → WA mL_law 51 18 [(0, vR x0), (1, vR x1), (2, vR x2), (3, vI x3)] [] h (some (vI r), h1)) {x0 : Nat} {x1 : Nat} {x2 : Nat} {x3 : Int32} {h : AH} (hf : f_L_law_775 k_18 x0 x1 x2 x3 h = some (r, h1)) : WA mL_law 51 775 [(0, vR x0), (1, vR x1), (2, vR x2), (3, vI x3)] [] h (some (vI r), h1) := by
  unfold f_L_law_775 at hf
  exact (r_aload_n (pc := 775) dL_law_775 1 (i := 1) rfl rfl (r_aload_n (pc := 776) dL_law_776 0 (i := 0) rfl rfl (r_iload_n (pc := 777) dL_law_777 3 (i := 3) rfl rfl (r_iconst (pc := 778) (v := (iv 1)) dL_law_778 rfl (r_iadd (pc := 779) dL_law_779 (r_sload (pc := 780) dL_law_780 hf fun hf => (r_aload_n (pc := 781) dL_law_781 0 (i := 0) rfl rfl (r_iload_n (pc := 782) dL_law_782 3 (i := 3) rfl rfl (r_iconst (pc := 783) (v := (iv 2)) dL_law_783 rfl (r_iadd (pc := 784) dL_law_784 (r_sload (pc := 785) dL_law_785 hf fun hf => (r_aload_n (pc := 786) dL_law_786 0 (i := 0) rfl rfl (r_iload_n (pc := 787) dL_law_787 3 (i := 3) rfl rfl (r_iconst (pc := 788) (v := (iv 3)) dL_law_788 rfl (r_iadd (pc := 789) dL_law_789 (r_sload (pc := 790) dL_law_790 hf fun hf => (r_aload_n (pc := 791) dL_law_791 0 (i := 0) rfl rfl (r_iload_n (pc := 792) dL_law_792 3 (i := 3) rfl rfl (r_iconst (pc := 793) (v := (iv 4)) dL_law_793 rfl (r_iadd (pc := 794) dL_law_794 (r_sload (pc := 795) dL_law_795 hf fun hf => (r_aload_n (pc := 796) dL_law_796 0 (i := 0) rfl rfl (r_iload_n (pc := 797) dL_law_797 3 (i := 3) rfl rfl (r_iconst (pc := 798) (v := (iv 5)) dL_law_798 rfl (r_iadd (pc := 799) dL_law_799 (r_sload (pc := 800) dL_law_800 hf fun hf => (r_cV (pc := 801) vI dL_law_801 (cV_L_76 _ rfl) (Nat.le_of_ble_eq_true rfl) rfl (as := [vI (gI h 2 ((x3 + (iv 1))).toNatClampNeg), vI (gI h 2 ((x3 + (iv 2))).toNatClampNeg), vI (gI h 2 ((x3 + (iv 3))).toNatClampNeg), vI (gI h 2 ((x3 + (iv 4))).toNatClampNeg), vI (gI h 2 ((x3 + (iv 5))).toNatClampNeg)]) rfl rfl (Nat.le_of_ble_eq_true rfl) hf (fun _ _ z => m_X11_hold z) (fun r2 g1 hf => (r_aload_n (pc := 804) dL_law_804 2 (i := 2) rfl rfl (r_aload_n (pc := 805) dL_law_805 0 (i := 0) rfl rfl (r_iload_n (pc := 806) dL_law_806 3 (i := 3) rfl rfl (r_iconst (pc := 807) (v := (iv 1)) dL_law_807 rfl (r_iadd (pc := 808) dL_law_808 (r_sload (pc := 809) dL_law_809 hf fun hf => (r_aload_n (pc := 810) dL_law_810 0 (i := 0) rfl rfl (r_iload_n (pc := 811) dL_law_811 3 (i := 3) rfl rfl (r_iconst (pc := 812) (v := (iv 2)) dL_law_812 rfl (r_iadd (pc := 813) dL_law_813 (r_sload (pc := 814) dL_law_814 hf fun hf => (r_aload_n (pc := 815) dL_law_815 0 (i := 0) rfl rfl (r_iload_n (pc := 816) dL_law_816 3 (i := 3) rfl rfl (r_iconst (pc := 817) (v := (iv 3)) dL_law_817 rfl (r_iadd (pc := 818) dL_law_818 (r_sload (pc := 819) dL_law_819 hf fun hf => (r_aload_n (pc := 820) dL_law_820 0 (i := 0) rfl rfl (r_iload_n (pc := 821) dL_law_821 3 (i := 3) rfl rfl (r_iconst (pc := 822) (v := (iv 4)) dL_law_822 rfl (r_iadd (pc := 823) dL_law_823 (r_sload (pc := 824) dL_law_824 hf fun hf => (r_aload_n (pc := 825) dL_law_825 0 (i := 0) rfl rfl (r_iload_n (pc := 826) dL_law_826 3 (i := 3) rfl rfl (r_iconst (pc := 827) (v := (iv 5)) dL_law_827 rfl (r_iadd (pc := 828) dL_law_828 (r_sload (pc := 829) dL_law_829 hf fun hf => (r_cV (pc := 830) vI dL_law_830 (cV_L_80 _ rfl) (Nat.le_of_ble_eq_true rfl) rfl (as := [vI (gI g1 2 ((x3 + (iv 1))).toNatClampNeg), vI (gI g1 2 ((x3 + (iv 2))).toNatClampNeg), vI (gI g1 2 ((x3 + (iv 3))).toNatClampNeg), vI (gI g1 2 ((x3 + (iv 4))).toNatClampNeg), vI (gI g1 2 ((x3 + (iv 5))).toNatClampNeg)]) rfl rfl (Nat.le_of_ble_eq_true rfl) hf (fun _ _ z => m_X12_hold z) (fun r4 g3 hf => (r_icmp_eq (pc := 833) (tgt := 1917) dL_law_833 (by decide) hf (fun hf => (t_L_law_1917 hk_18 hf)) (fun hf => (r_iconst (pc := 836) (v := (iv 0)) dL_law_836 rfl (r_zreturn (pc := 837) dL_law_837 rfl hf))))))))))))))))))))))))))))))))))))))))))))))))))))))))))))
set_option maxRecDepth 100000 in
set_option maxHeartbeats 4000000 in
theorem t_L_law_838 {h1 : AH} {r : Int32} {k_18 : Nat → Nat → Nat → Int32 → AH → Option (Int32 × AH)} (hk_18 : ∀ (x0 : Nat) (x1 : Nat) (x2 : Nat) (x3 : Int32) (h : AH), k_18 x0 x1 x2 x3 h = some (r, h1) → WA mL_law 51 18 [(0, vR x0), (1, vR x1), (2, vR x2), (3, vI x3)] [] h (some (vI r), h1)) {x0 : Nat} {x1 : Nat} {x2 : Nat} {x3 : Int32} {h : AH} (hf : f_L_law_838 k_18 x0 x1 x2 x3 h = some (r, h1)) : WA mL_law 51 838 [(0, vR x0), (1, vR x1), (2, vR x2), (3, vI x3)] [] h (some (vI r), h1) := by
  unfold f_L_law_838 at hf
  exact (r_aload_n (pc := 838) dL_law_838 1 (i := 1) rfl rfl (r_aload_n (pc := 839) dL_law_839 0 (i := 0) rfl rfl (r_iload_n (pc := 840) dL_law_840 3 (i := 3) rfl rfl (r_iconst (pc := 841) (v := (iv 1)) dL_law_841 rfl (r_iadd (pc := 842) dL_law_842 (r_sload (pc := 843) dL_law_843 hf fun hf => (r_aload_n (pc := 844) dL_law_844 0 (i := 0) rfl rfl (r_iload_n (pc := 845) dL_law_845 3 (i := 3) rfl rfl (r_iconst (pc := 846) (v := (iv 2)) dL_law_846 rfl (r_iadd (pc := 847) dL_law_847 (r_sload (pc := 848) dL_law_848 hf fun hf => (r_aload_n (pc := 849) dL_law_849 0 (i := 0) rfl rfl (r_iload_n (pc := 850) dL_law_850 3 (i := 3) rfl rfl (r_iconst (pc := 851) (v := (iv 3)) dL_law_851 rfl (r_iadd (pc := 852) dL_law_852 (r_sload (pc := 853) dL_law_853 hf fun hf => (r_aload_n (pc := 854) dL_law_854 0 (i := 0) rfl rfl (r_iload_n (pc := 855) dL_law_855 3 (i := 3) rfl rfl (r_iconst (pc := 856) (v := (iv 4)) dL_law_856 rfl (r_iadd (pc := 857) dL_law_857 (r_sload (pc := 858) dL_law_858 hf fun hf => (r_cV (pc := 859) vI dL_law_859 (cV_L_81 _ rfl) (Nat.le_of_ble_eq_true rfl) rfl (as := [vI (gI h 2 ((x3 + (iv 1))).toNatClampNeg), vI (gI h 2 ((x3 + (iv 2))).toNatClampNeg), vI (gI h 2 ((x3 + (iv 3))).toNatClampNeg), vI (gI h 2 ((x3 + (iv 4))).toNatClampNeg)]) rfl rfl (Nat.le_of_ble_eq_true rfl) hf (fun _ _ z => m_X11_by z) (fun r2 g1 hf => (r_aload_n (pc := 862) dL_law_862 2 (i := 2) rfl rfl (r_aload_n (pc := 863) dL_law_863 0 (i := 0) rfl rfl (r_iload_n (pc := 864) dL_law_864 3 (i := 3) rfl rfl (r_iconst (pc := 865) (v := (iv 1)) dL_law_865 rfl (r_iadd (pc := 866) dL_law_866 (r_sload (pc := 867) dL_law_867 hf fun hf => (r_aload_n (pc := 868) dL_law_868 0 (i := 0) rfl rfl (r_iload_n (pc := 869) dL_law_869 3 (i := 3) rfl rfl (r_iconst (pc := 870) (v := (iv 2)) dL_law_870 rfl (r_iadd (pc := 871) dL_law_871 (r_sload (pc := 872) dL_law_872 hf fun hf => (r_aload_n (pc := 873) dL_law_873 0 (i := 0) rfl rfl (r_iload_n (pc := 874) dL_law_874 3 (i := 3) rfl rfl (r_iconst (pc := 875) (v := (iv 3)) dL_law_875 rfl (r_iadd (pc := 876) dL_law_876 (r_sload (pc := 877) dL_law_877 hf fun hf => (r_aload_n (pc := 878) dL_law_878 0 (i := 0) rfl rfl (r_iload_n (pc := 879) dL_law_879 3 (i := 3) rfl rfl (r_iconst (pc := 880) (v := (iv 4)) dL_law_880 rfl (r_iadd (pc := 881) dL_law_881 (r_sload (pc := 882) dL_law_882 hf fun hf => (r_cV (pc := 883) vI dL_law_883 (cV_L_85 _ rfl) (Nat.le_of_ble_eq_true rfl) rfl (as := [vI (gI g1 2 ((x3 + (iv 1))).toNatClampNeg), vI (gI g1 2 ((x3 + (iv 2))).toNatClampNeg), vI (gI g1 2 ((x3 + (iv 3))).toNatClampNeg), vI (gI g1 2 ((x3 + (iv 4))).toNatClampNeg)]) rfl rfl (Nat.le_of_ble_eq_true rfl) hf (fun _ _ z => m_X12_by z) (fun r4 g3 hf => (r_icmp_eq (pc := 886) (tgt := 1917) dL_law_886 (by decide) hf (fun hf => (t_L_law_1917 hk_18 hf)) (fun hf => (r_iconst (pc := 889) (v := (iv 0)) dL_law_889 rfl (r_zreturn (pc := 890) dL_law_890 rfl hf))))))))))))))))))))))))))))))))))))))))))))))))))
set_option maxRecDepth 100000 in
set_option maxHeartbeats 4000000 in
theorem t_L_law_891 {h1 : AH} {r : Int32} {k_18 : Nat → Nat → Nat → Int32 → AH → Option (Int32 × AH)} (hk_18 : ∀ (x0 : Nat) (x1 : Nat) (x2 : Nat) (x3 : Int32) (h : AH), k_18 x0 x1 x2 x3 h = some (r, h1) → WA mL_law 51 18 [(0, vR x0), (1, vR x1), (2, vR x2), (3, vI x3)] [] h (some (vI r), h1)) {x0 : Nat} {x1 : Nat} {x2 : Nat} {x3 : Int32} {h : AH} (hf : f_L_law_891 k_18 x0 x1 x2 x3 h = some (r, h1)) : WA mL_law 51 891 [(0, vR x0), (1, vR x1), (2, vR x2), (3, vI x3)] [] h (some (vI r), h1) := by
  unfold f_L_law_891 at hf
  exact (r_aload_n (pc := 891) dL_law_891 1 (i := 1) rfl rfl (r_aload_n (pc := 892) dL_law_892 0 (i := 0) rfl rfl (r_iload_n (pc := 893) dL_law_893 3 (i := 3) rfl rfl (r_iconst (pc := 894) (v := (iv 1)) dL_law_894 rfl (r_iadd (pc := 895) dL_law_895 (r_sload (pc := 896) dL_law_896 hf fun hf => (r_aload_n (pc := 897) dL_law_897 0 (i := 0) rfl rfl (r_iload_n (pc := 898) dL_law_898 3 (i := 3) rfl rfl (r_iconst (pc := 899) (v := (iv 2)) dL_law_899 rfl (r_iadd (pc := 900) dL_law_900 (r_sload (pc := 901) dL_law_901 hf fun hf => (r_cV (pc := 902) vI dL_law_902 (cV_L_86 _ rfl) (Nat.le_of_ble_eq_true rfl) rfl (as := [vI (gI h 2 ((x3 + (iv 1))).toNatClampNeg), vI (gI h 2 ((x3 + (iv 2))).toNatClampNeg)]) rfl rfl (Nat.le_of_ble_eq_true rfl) hf (fun _ _ z => m_X11_none z) (fun r2 g1 hf => (r_aload_n (pc := 905) dL_law_905 2 (i := 2) rfl rfl (r_aload_n (pc := 906) dL_law_906 0 (i := 0) rfl rfl (r_iload_n (pc := 907) dL_law_907 3 (i := 3) rfl rfl (r_iconst (pc := 908) (v := (iv 1)) dL_law_908 rfl (r_iadd (pc := 909) dL_law_909 (r_sload (pc := 910) dL_law_910 hf fun hf => (r_aload_n (pc := 911) dL_law_911 0 (i := 0) rfl rfl (r_iload_n (pc := 912) dL_law_912 3 (i := 3) rfl rfl (r_iconst (pc := 913) (v := (iv 2)) dL_law_913 rfl (r_iadd (pc := 914) dL_law_914 (r_sload (pc := 915) dL_law_915 hf fun hf => (r_cV (pc := 916) vI dL_law_916 (cV_L_89 _ rfl) (Nat.le_of_ble_eq_true rfl) rfl (as := [vI (gI g1 2 ((x3 + (iv 1))).toNatClampNeg), vI (gI g1 2 ((x3 + (iv 2))).toNatClampNeg)]) rfl rfl (Nat.le_of_ble_eq_true rfl) hf (fun _ _ z => m_X12_none z) (fun r4 g3 hf => (r_icmp_eq (pc := 919) (tgt := 1917) dL_law_919 (by decide) hf (fun hf => (t_L_law_1917 hk_18 hf)) (fun hf => (r_iconst (pc := 922) (v := (iv 0)) dL_law_922 rfl (r_zreturn (pc := 923) dL_law_923 rfl hf))))))))))))))))))))))))))))))
set_option maxRecDepth 100000 in
set_option maxHeartbeats 4000000 in
theorem t_L_law_924 {h1 : AH} {r : Int32} {k_18 : Nat → Nat → Nat → Int32 → AH → Option (Int32 × AH)} (hk_18 : ∀ (x0 : Nat) (x1 : Nat) (x2 : Nat) (x3 : Int32) (h : AH), k_18 x0 x1 x2 x3 h = some (r, h1) → WA mL_law 51 18 [(0, vR x0), (1, vR x1), (2, vR x2), (3, vI x3)] [] h (some (vI r), h1)) {x0 : Nat} {x1 : Nat} {x2 : Nat} {x3 : Int32} {h : AH} (hf : f_L_law_924 k_18 x0 x1 x2 x3 h = some (r, h1)) : WA mL_law 51 924 [(0, vR x0), (1, vR x1), (2, vR x2), (3, vI x3)] [] h (some (vI r), h1) := by
  unfold f_L_law_924 at hf
  exact (r_aload_n (pc := 924) dL_law_924 1 (i := 1) rfl rfl (r_aload_n (pc := 925) dL_law_925 0 (i := 0) rfl rfl (r_iload_n (pc := 926) dL_law_926 3 (i := 3) rfl rfl (r_iconst (pc := 927) (v := (iv 1)) dL_law_927 rfl (r_iadd (pc := 928) dL_law_928 (r_sload (pc := 929) dL_law_929 hf fun hf => (r_aload_n (pc := 930) dL_law_930 0 (i := 0) rfl rfl (r_iload_n (pc := 931) dL_law_931 3 (i := 3) rfl rfl (r_iconst (pc := 932) (v := (iv 2)) dL_law_932 rfl (r_iadd (pc := 933) dL_law_933 (r_sload (pc := 934) dL_law_934 hf fun hf => (r_aload_n (pc := 935) dL_law_935 0 (i := 0) rfl rfl (r_iload_n (pc := 936) dL_law_936 3 (i := 3) rfl rfl (r_iconst (pc := 937) (v := (iv 3)) dL_law_937 rfl (r_iadd (pc := 938) dL_law_938 (r_sload (pc := 939) dL_law_939 hf fun hf => (r_aload_n (pc := 940) dL_law_940 0 (i := 0) rfl rfl (r_iload_n (pc := 941) dL_law_941 3 (i := 3) rfl rfl (r_iconst (pc := 942) (v := (iv 4)) dL_law_942 rfl (r_iadd (pc := 943) dL_law_943 (r_sload (pc := 944) dL_law_944 hf fun hf => (r_cV (pc := 945) vI dL_law_945 (cV_L_90 _ rfl) (Nat.le_of_ble_eq_true rfl) rfl (as := [vI (gI h 2 ((x3 + (iv 1))).toNatClampNeg), vI (gI h 2 ((x3 + (iv 2))).toNatClampNeg), vI (gI h 2 ((x3 + (iv 3))).toNatClampNeg), vI (gI h 2 ((x3 + (iv 4))).toNatClampNeg)]) rfl rfl (Nat.le_of_ble_eq_true rfl) hf (fun _ _ z => m_X11_claim z) (fun r2 g1 hf => (r_aload_n (pc := 948) dL_law_948 2 (i := 2) rfl rfl (r_aload_n (pc := 949) dL_law_949 0 (i := 0) rfl rfl (r_iload_n (pc := 950) dL_law_950 3 (i := 3) rfl rfl (r_iconst (pc := 951) (v := (iv 1)) dL_law_951 rfl (r_iadd (pc := 952) dL_law_952 (r_sload (pc := 953) dL_law_953 hf fun hf => (r_aload_n (pc := 954) dL_law_954 0 (i := 0) rfl rfl (r_iload_n (pc := 955) dL_law_955 3 (i := 3) rfl rfl (r_iconst (pc := 956) (v := (iv 2)) dL_law_956 rfl (r_iadd (pc := 957) dL_law_957 (r_sload (pc := 958) dL_law_958 hf fun hf => (r_aload_n (pc := 959) dL_law_959 0 (i := 0) rfl rfl (r_iload_n (pc := 960) dL_law_960 3 (i := 3) rfl rfl (r_iconst (pc := 961) (v := (iv 3)) dL_law_961 rfl (r_iadd (pc := 962) dL_law_962 (r_sload (pc := 963) dL_law_963 hf fun hf => (r_aload_n (pc := 964) dL_law_964 0 (i := 0) rfl rfl (r_iload_n (pc := 965) dL_law_965 3 (i := 3) rfl rfl (r_iconst (pc := 966) (v := (iv 4)) dL_law_966 rfl (r_iadd (pc := 967) dL_law_967 (r_sload (pc := 968) dL_law_968 hf fun hf => (r_cV (pc := 969) vI dL_law_969 (cV_L_93 _ rfl) (Nat.le_of_ble_eq_true rfl) rfl (as := [vI (gI g1 2 ((x3 + (iv 1))).toNatClampNeg), vI (gI g1 2 ((x3 + (iv 2))).toNatClampNeg), vI (gI g1 2 ((x3 + (iv 3))).toNatClampNeg), vI (gI g1 2 ((x3 + (iv 4))).toNatClampNeg)]) rfl rfl (Nat.le_of_ble_eq_true rfl) hf (fun _ _ z => m_X12_claim z) (fun r4 g3 hf => (r_icmp_eq (pc := 972) (tgt := 1917) dL_law_972 (by decide) hf (fun hf => (t_L_law_1917 hk_18 hf)) (fun hf => (r_iconst (pc := 975) (v := (iv 0)) dL_law_975 rfl (r_zreturn (pc := 976) dL_law_976 rfl hf))))))))))))))))))))))))))))))))))))))))))))))))))
set_option maxRecDepth 100000 in
set_option maxHeartbeats 4000000 in
theorem t_L_law_977 {h1 : AH} {r : Int32} {k_18 : Nat → Nat → Nat → Int32 → AH → Option (Int32 × AH)} (hk_18 : ∀ (x0 : Nat) (x1 : Nat) (x2 : Nat) (x3 : Int32) (h : AH), k_18 x0 x1 x2 x3 h = some (r, h1) → WA mL_law 51 18 [(0, vR x0), (1, vR x1), (2, vR x2), (3, vI x3)] [] h (some (vI r), h1)) {x0 : Nat} {x1 : Nat} {x2 : Nat} {x3 : Int32} {h : AH} (hf : f_L_law_977 k_18 x0 x1 x2 x3 h = some (r, h1)) : WA mL_law 51 977 [(0, vR x0), (1, vR x1), (2, vR x2), (3, vI x3)] [] h (some (vI r), h1) := by
  unfold f_L_law_977 at hf
  exact (r_aload_n (pc := 977) dL_law_977 1 (i := 1) rfl rfl (r_aload_n (pc := 978) dL_law_978 0 (i := 0) rfl rfl (r_iload_n (pc := 979) dL_law_979 3 (i := 3) rfl rfl (r_iconst (pc := 980) (v := (iv 1)) dL_law_980 rfl (r_iadd (pc := 981) dL_law_981 (r_sload (pc := 982) dL_law_982 hf fun hf => (r_aload_n (pc := 983) dL_law_983 0 (i := 0) rfl rfl (r_iload_n (pc := 984) dL_law_984 3 (i := 3) rfl rfl (r_iconst (pc := 985) (v := (iv 2)) dL_law_985 rfl (r_iadd (pc := 986) dL_law_986 (r_sload (pc := 987) dL_law_987 hf fun hf => (r_aload_n (pc := 988) dL_law_988 0 (i := 0) rfl rfl (r_iload_n (pc := 989) dL_law_989 3 (i := 3) rfl rfl (r_iconst (pc := 990) (v := (iv 3)) dL_law_990 rfl (r_iadd (pc := 991) dL_law_991 (r_sload (pc := 992) dL_law_992 hf fun hf => (r_aload_n (pc := 993) dL_law_993 0 (i := 0) rfl rfl (r_iload_n (pc := 994) dL_law_994 3 (i := 3) rfl rfl (r_iconst (pc := 995) (v := (iv 4)) dL_law_995 rfl (r_iadd (pc := 996) dL_law_996 (r_sload (pc := 997) dL_law_997 hf fun hf => (r_cV (pc := 998) vI dL_law_998 (cV_L_94 _ rfl) (Nat.le_of_ble_eq_true rfl) rfl (as := [vI (gI h 2 ((x3 + (iv 1))).toNatClampNeg), vI (gI h 2 ((x3 + (iv 2))).toNatClampNeg), vI (gI h 2 ((x3 + (iv 3))).toNatClampNeg), vI (gI h 2 ((x3 + (iv 4))).toNatClampNeg)]) rfl rfl (Nat.le_of_ble_eq_true rfl) hf (fun _ _ z => m_X11_must z) (fun r2 g1 hf => (r_aload_n (pc := 1001) dL_law_1001 2 (i := 2) rfl rfl (r_aload_n (pc := 1002) dL_law_1002 0 (i := 0) rfl rfl (r_iload_n (pc := 1003) dL_law_1003 3 (i := 3) rfl rfl (r_iconst (pc := 1004) (v := (iv 1)) dL_law_1004 rfl (r_iadd (pc := 1005) dL_law_1005 (r_sload (pc := 1006) dL_law_1006 hf fun hf => (r_aload_n (pc := 1007) dL_law_1007 0 (i := 0) rfl rfl (r_iload_n (pc := 1008) dL_law_1008 3 (i := 3) rfl rfl (r_iconst (pc := 1009) (v := (iv 2)) dL_law_1009 rfl (r_iadd (pc := 1010) dL_law_1010 (r_sload (pc := 1011) dL_law_1011 hf fun hf => (r_aload_n (pc := 1012) dL_law_1012 0 (i := 0) rfl rfl (r_iload_n (pc := 1013) dL_law_1013 3 (i := 3) rfl rfl (r_iconst (pc := 1014) (v := (iv 3)) dL_law_1014 rfl (r_iadd (pc := 1015) dL_law_1015 (r_sload (pc := 1016) dL_law_1016 hf fun hf => (r_aload_n (pc := 1017) dL_law_1017 0 (i := 0) rfl rfl (r_iload_n (pc := 1018) dL_law_1018 3 (i := 3) rfl rfl (r_iconst (pc := 1019) (v := (iv 4)) dL_law_1019 rfl (r_iadd (pc := 1020) dL_law_1020 (r_sload (pc := 1021) dL_law_1021 hf fun hf => (r_cV (pc := 1022) vI dL_law_1022 (cV_L_97 _ rfl) (Nat.le_of_ble_eq_true rfl) rfl (as := [vI (gI g1 2 ((x3 + (iv 1))).toNatClampNeg), vI (gI g1 2 ((x3 + (iv 2))).toNatClampNeg), vI (gI g1 2 ((x3 + (iv 3))).toNatClampNeg), vI (gI g1 2 ((x3 + (iv 4))).toNatClampNeg)]) rfl rfl (Nat.le_of_ble_eq_true rfl) hf (fun _ _ z => m_X12_must z) (fun r4 g3 hf => (r_icmp_eq (pc := 1025) (tgt := 1917) dL_law_1025 (by decide) hf (fun hf => (t_L_law_1917 hk_18 hf)) (fun hf => (r_iconst (pc := 1028) (v := (iv 0)) dL_law_1028 rfl (r_zreturn (pc := 1029) dL_law_1029 rfl hf))))))))))))))))))))))))))))))))))))))))))))))))))
set_option maxRecDepth 100000 in
set_option maxHeartbeats 4000000 in
theorem t_L_law_1030 {h1 : AH} {r : Int32} {k_18 : Nat → Nat → Nat → Int32 → AH → Option (Int32 × AH)} (hk_18 : ∀ (x0 : Nat) (x1 : Nat) (x2 : Nat) (x3 : Int32) (h : AH), k_18 x0 x1 x2 x3 h = some (r, h1) → WA mL_law 51 18 [(0, vR x0), (1, vR x1), (2, vR x2), (3, vI x3)] [] h (some (vI r), h1)) {x0 : Nat} {x1 : Nat} {x2 : Nat} {x3 : Int32} {h : AH} (hf : f_L_law_1030 k_18 x0 x1 x2 x3 h = some (r, h1)) : WA mL_law 51 1030 [(0, vR x0), (1, vR x1), (2, vR x2), (3, vI x3)] [] h (some (vI r), h1) := by
  unfold f_L_law_1030 at hf
  exact (r_aload_n (pc := 1030) dL_law_1030 1 (i := 1) rfl rfl (r_aload_n (pc := 1031) dL_law_1031 0 (i := 0) rfl rfl (r_iload_n (pc := 1032) dL_law_1032 3 (i := 3) rfl rfl (r_iconst (pc := 1033) (v := (iv 1)) dL_law_1033 rfl (r_iadd (pc := 1034) dL_law_1034 (r_sload (pc := 1035) dL_law_1035 hf fun hf => (r_aload_n (pc := 1036) dL_law_1036 0 (i := 0) rfl rfl (r_iload_n (pc := 1037) dL_law_1037 3 (i := 3) rfl rfl (r_iconst (pc := 1038) (v := (iv 2)) dL_law_1038 rfl (r_iadd (pc := 1039) dL_law_1039 (r_sload (pc := 1040) dL_law_1040 hf fun hf => (r_cV (pc := 1041) vI dL_law_1041 (cV_L_98 _ rfl) (Nat.le_of_ble_eq_true rfl) rfl (as := [vI (gI h 2 ((x3 + (iv 1))).toNatClampNeg), vI (gI h 2 ((x3 + (iv 2))).toNatClampNeg)]) rfl rfl (Nat.le_of_ble_eq_true rfl) hf (fun _ _ z => m_X11_line z) (fun r2 g1 hf => (r_aload_n (pc := 1044) dL_law_1044 2 (i := 2) rfl rfl (r_aload_n (pc := 1045) dL_law_1045 0 (i := 0) rfl rfl (r_iload_n (pc := 1046) dL_law_1046 3 (i := 3) rfl rfl (r_iconst (pc := 1047) (v := (iv 1)) dL_law_1047 rfl (r_iadd (pc := 1048) dL_law_1048 (r_sload (pc := 1049) dL_law_1049 hf fun hf => (r_aload_n (pc := 1050) dL_law_1050 0 (i := 0) rfl rfl (r_iload_n (pc := 1051) dL_law_1051 3 (i := 3) rfl rfl (r_iconst (pc := 1052) (v := (iv 2)) dL_law_1052 rfl (r_iadd (pc := 1053) dL_law_1053 (r_sload (pc := 1054) dL_law_1054 hf fun hf => (r_cV (pc := 1055) vI dL_law_1055 (cV_L_101 _ rfl) (Nat.le_of_ble_eq_true rfl) rfl (as := [vI (gI g1 2 ((x3 + (iv 1))).toNatClampNeg), vI (gI g1 2 ((x3 + (iv 2))).toNatClampNeg)]) rfl rfl (Nat.le_of_ble_eq_true rfl) hf (fun _ _ z => m_X12_line z) (fun r4 g3 hf => (r_icmp_eq (pc := 1058) (tgt := 1917) dL_law_1058 (by decide) hf (fun hf => (t_L_law_1917 hk_18 hf)) (fun hf => (r_iconst (pc := 1061) (v := (iv 0)) dL_law_1061 rfl (r_zreturn (pc := 1062) dL_law_1062 rfl hf))))))))))))))))))))))))))))))
set_option maxRecDepth 100000 in
set_option maxHeartbeats 4000000 in
theorem t_L_law_1063 {h1 : AH} {r : Int32} {k_18 : Nat → Nat → Nat → Int32 → AH → Option (Int32 × AH)} (hk_18 : ∀ (x0 : Nat) (x1 : Nat) (x2 : Nat) (x3 : Int32) (h : AH), k_18 x0 x1 x2 x3 h = some (r, h1) → WA mL_law 51 18 [(0, vR x0), (1, vR x1), (2, vR x2), (3, vI x3)] [] h (some (vI r), h1)) {x0 : Nat} {x1 : Nat} {x2 : Nat} {x3 : Int32} {h : AH} (hf : f_L_law_1063 k_18 x0 x1 x2 x3 h = some (r, h1)) : WA mL_law 51 1063 [(0, vR x0), (1, vR x1), (2, vR x2), (3, vI x3)] [] h (some (vI r), h1) := by
  unfold f_L_law_1063 at hf
  exact (r_aload_n (pc := 1063) dL_law_1063 1 (i := 1) rfl rfl (r_aload_n (pc := 1064) dL_law_1064 0 (i := 0) rfl rfl (r_iload_n (pc := 1065) dL_law_1065 3 (i := 3) rfl rfl (r_iconst (pc := 1066) (v := (iv 1)) dL_law_1066 rfl (r_iadd (pc := 1067) dL_law_1067 (r_sload (pc := 1068) dL_law_1068 hf fun hf => (r_aload_n (pc := 1069) dL_law_1069 0 (i := 0) rfl rfl (r_iload_n (pc := 1070) dL_law_1070 3 (i := 3) rfl rfl (r_iconst (pc := 1071) (v := (iv 2)) dL_law_1071 rfl (r_iadd (pc := 1072) dL_law_1072 (r_sload (pc := 1073) dL_law_1073 hf fun hf => (r_cV (pc := 1074) vI dL_law_1074 (cV_L_102 _ rfl) (Nat.le_of_ble_eq_true rfl) rfl (as := [vI (gI h 2 ((x3 + (iv 1))).toNatClampNeg), vI (gI h 2 ((x3 + (iv 2))).toNatClampNeg)]) rfl rfl (Nat.le_of_ble_eq_true rfl) hf (fun _ _ z => m_X11_wrong z) (fun r2 g1 hf => (r_aload_n (pc := 1077) dL_law_1077 2 (i := 2) rfl rfl (r_aload_n (pc := 1078) dL_law_1078 0 (i := 0) rfl rfl (r_iload_n (pc := 1079) dL_law_1079 3 (i := 3) rfl rfl (r_iconst (pc := 1080) (v := (iv 1)) dL_law_1080 rfl (r_iadd (pc := 1081) dL_law_1081 (r_sload (pc := 1082) dL_law_1082 hf fun hf => (r_aload_n (pc := 1083) dL_law_1083 0 (i := 0) rfl rfl (r_iload_n (pc := 1084) dL_law_1084 3 (i := 3) rfl rfl (r_iconst (pc := 1085) (v := (iv 2)) dL_law_1085 rfl (r_iadd (pc := 1086) dL_law_1086 (r_sload (pc := 1087) dL_law_1087 hf fun hf => (r_cV (pc := 1088) vI dL_law_1088 (cV_L_105 _ rfl) (Nat.le_of_ble_eq_true rfl) rfl (as := [vI (gI g1 2 ((x3 + (iv 1))).toNatClampNeg), vI (gI g1 2 ((x3 + (iv 2))).toNatClampNeg)]) rfl rfl (Nat.le_of_ble_eq_true rfl) hf (fun _ _ z => m_X12_wrong z) (fun r4 g3 hf => (r_icmp_eq (pc := 1091) (tgt := 1917) dL_law_1091 (by decide) hf (fun hf => (t_L_law_1917 hk_18 hf)) (fun hf => (r_iconst (pc := 1094) (v := (iv 0)) dL_law_1094 rfl (r_zreturn (pc := 1095) dL_law_1095 rfl hf))))))))))))))))))))))))))))))
set_option maxRecDepth 100000 in
set_option maxHeartbeats 4000000 in
theorem t_L_law_1096 {h1 : AH} {r : Int32} {k_18 : Nat → Nat → Nat → Int32 → AH → Option (Int32 × AH)} (hk_18 : ∀ (x0 : Nat) (x1 : Nat) (x2 : Nat) (x3 : Int32) (h : AH), k_18 x0 x1 x2 x3 h = some (r, h1) → WA mL_law 51 18 [(0, vR x0), (1, vR x1), (2, vR x2), (3, vI x3)] [] h (some (vI r), h1)) {x0 : Nat} {x1 : Nat} {x2 : Nat} {x3 : Int32} {h : AH} (hf : f_L_law_1096 k_18 x0 x1 x2 x3 h = some (r, h1)) : WA mL_law 51 1096 [(0, vR x0), (1, vR x1), (2, vR x2), (3, vI x3)] [] h (some (vI r), h1) := by
  unfold f_L_law_1096 at hf
  exact (r_aload_n (pc := 1096) dL_law_1096 1 (i := 1) rfl rfl (r_aload_n (pc := 1097) dL_law_1097 0 (i := 0) rfl rfl (r_iload_n (pc := 1098) dL_law_1098 3 (i := 3) rfl rfl (r_iconst (pc := 1099) (v := (iv 1)) dL_law_1099 rfl (r_iadd (pc := 1100) dL_law_1100 (r_sload (pc := 1101) dL_law_1101 hf fun hf => (r_aload_n (pc := 1102) dL_law_1102 0 (i := 0) rfl rfl (r_iload_n (pc := 1103) dL_law_1103 3 (i := 3) rfl rfl (r_iconst (pc := 1104) (v := (iv 2)) dL_law_1104 rfl (r_iadd (pc := 1105) dL_law_1105 (r_sload (pc := 1106) dL_law_1106 hf fun hf => (r_i2l (pc := 1107) dL_law_1107 (r_bipush (pc := 1108) (v := (iv 32)) dL_law_1108 bi_32 (r_lshl (pc := 1110) dL_law_1110 (r_aload_n (pc := 1111) dL_law_1111 0 (i := 0) rfl rfl (r_iload_n (pc := 1112) dL_law_1112 3 (i := 3) rfl rfl (r_iconst (pc := 1113) (v := (iv 3)) dL_law_1113 rfl (r_iadd (pc := 1114) dL_law_1114 (r_sload (pc := 1115) dL_law_1115 hf fun hf => (r_i2l (pc := 1116) dL_law_1116 (r_ldc2 (pc := 1117) (v := (jv 4294967295)) dL_law_1117 ct_L_36 (r_land (pc := 1120) dL_law_1120 (r_lor (pc := 1121) dL_law_1121 (r_cV (pc := 1122) vI dL_law_1122 (cV_L_106 _ rfl) (Nat.le_of_ble_eq_true rfl) rfl (as := [vI (gI h 2 ((x3 + (iv 1))).toNatClampNeg), vJ ((x_lshl ((gI h 2 ((x3 + (iv 2))).toNatClampNeg)).toInt64 (iv 32)) ||| (((gI h 2 ((x3 + (iv 3))).toNatClampNeg)).toInt64 &&& (jv 4294967295)))]) rfl rfl (Nat.le_of_ble_eq_true rfl) hf (fun _ _ z => m_X11_second z) (fun r2 g1 hf => (r_aload_n (pc := 1125) dL_law_1125 2 (i := 2) rfl rfl (r_aload_n (pc := 1126) dL_law_1126 0 (i := 0) rfl rfl (r_iload_n (pc := 1127) dL_law_1127 3 (i := 3) rfl rfl (r_iconst (pc := 1128) (v := (iv 1)) dL_law_1128 rfl (r_iadd (pc := 1129) dL_law_1129 (r_sload (pc := 1130) dL_law_1130 hf fun hf => (r_aload_n (pc := 1131) dL_law_1131 0 (i := 0) rfl rfl (r_iload_n (pc := 1132) dL_law_1132 3 (i := 3) rfl rfl (r_iconst (pc := 1133) (v := (iv 2)) dL_law_1133 rfl (r_iadd (pc := 1134) dL_law_1134 (r_sload (pc := 1135) dL_law_1135 hf fun hf => (r_i2l (pc := 1136) dL_law_1136 (r_bipush (pc := 1137) (v := (iv 32)) dL_law_1137 bi_32 (r_lshl (pc := 1139) dL_law_1139 (r_aload_n (pc := 1140) dL_law_1140 0 (i := 0) rfl rfl (r_iload_n (pc := 1141) dL_law_1141 3 (i := 3) rfl rfl (r_iconst (pc := 1142) (v := (iv 3)) dL_law_1142 rfl (r_iadd (pc := 1143) dL_law_1143 (r_sload (pc := 1144) dL_law_1144 hf fun hf => (r_i2l (pc := 1145) dL_law_1145 (r_ldc2 (pc := 1146) (v := (jv 4294967295)) dL_law_1146 ct_L_36 (r_land (pc := 1149) dL_law_1149 (r_lor (pc := 1150) dL_law_1150 (r_cV (pc := 1151) vI dL_law_1151 (cV_L_110 _ rfl) (Nat.le_of_ble_eq_true rfl) rfl (as := [vI (gI g1 2 ((x3 + (iv 1))).toNatClampNeg), vJ ((x_lshl ((gI g1 2 ((x3 + (iv 2))).toNatClampNeg)).toInt64 (iv 32)) ||| (((gI g1 2 ((x3 + (iv 3))).toNatClampNeg)).toInt64 &&& (jv 4294967295)))]) rfl rfl (Nat.le_of_ble_eq_true rfl) hf (fun _ _ z => m_X12_second z) (fun r4 g3 hf => (r_icmp_eq (pc := 1154) (tgt := 1917) dL_law_1154 (by decide) hf (fun hf => (t_L_law_1917 hk_18 hf)) (fun hf => (r_iconst (pc := 1157) (v := (iv 0)) dL_law_1157 rfl (r_zreturn (pc := 1158) dL_law_1158 rfl hf))))))))))))))))))))))))))))))))))))))))))))))))))))))
set_option maxRecDepth 100000 in
set_option maxHeartbeats 4000000 in
theorem t_L_law_1159 {h1 : AH} {r : Int32} {k_18 : Nat → Nat → Nat → Int32 → AH → Option (Int32 × AH)} (hk_18 : ∀ (x0 : Nat) (x1 : Nat) (x2 : Nat) (x3 : Int32) (h : AH), k_18 x0 x1 x2 x3 h = some (r, h1) → WA mL_law 51 18 [(0, vR x0), (1, vR x1), (2, vR x2), (3, vI x3)] [] h (some (vI r), h1)) {x0 : Nat} {x1 : Nat} {x2 : Nat} {x3 : Int32} {h : AH} (hf : f_L_law_1159 k_18 x0 x1 x2 x3 h = some (r, h1)) : WA mL_law 51 1159 [(0, vR x0), (1, vR x1), (2, vR x2), (3, vI x3)] [] h (some (vI r), h1) := by
  unfold f_L_law_1159 at hf
  exact (r_aload_n (pc := 1159) dL_law_1159 1 (i := 1) rfl rfl (r_aload_n (pc := 1160) dL_law_1160 0 (i := 0) rfl rfl (r_iload_n (pc := 1161) dL_law_1161 3 (i := 3) rfl rfl (r_iconst (pc := 1162) (v := (iv 1)) dL_law_1162 rfl (r_iadd (pc := 1163) dL_law_1163 (r_sload (pc := 1164) dL_law_1164 hf fun hf => (r_aload_n (pc := 1165) dL_law_1165 0 (i := 0) rfl rfl (r_iload_n (pc := 1166) dL_law_1166 3 (i := 3) rfl rfl (r_iconst (pc := 1167) (v := (iv 2)) dL_law_1167 rfl (r_iadd (pc := 1168) dL_law_1168 (r_sload (pc := 1169) dL_law_1169 hf fun hf => (r_aload_n (pc := 1170) dL_law_1170 0 (i := 0) rfl rfl (r_iload_n (pc := 1171) dL_law_1171 3 (i := 3) rfl rfl (r_iconst (pc := 1172) (v := (iv 3)) dL_law_1172 rfl (r_iadd (pc := 1173) dL_law_1173 (r_sload (pc := 1174) dL_law_1174 hf fun hf => (r_cV (pc := 1175) vI dL_law_1175 (cV_L_111 _ rfl) (Nat.le_of_ble_eq_true rfl) rfl (as := [vI (gI h 2 ((x3 + (iv 1))).toNatClampNeg), vI (gI h 2 ((x3 + (iv 2))).toNatClampNeg), vI (gI h 2 ((x3 + (iv 3))).toNatClampNeg)]) rfl rfl (Nat.le_of_ble_eq_true rfl) hf (fun _ _ z => m_X11_split z) (fun r2 g1 hf => (r_aload_n (pc := 1178) dL_law_1178 2 (i := 2) rfl rfl (r_aload_n (pc := 1179) dL_law_1179 0 (i := 0) rfl rfl (r_iload_n (pc := 1180) dL_law_1180 3 (i := 3) rfl rfl (r_iconst (pc := 1181) (v := (iv 1)) dL_law_1181 rfl (r_iadd (pc := 1182) dL_law_1182 (r_sload (pc := 1183) dL_law_1183 hf fun hf => (r_aload_n (pc := 1184) dL_law_1184 0 (i := 0) rfl rfl (r_iload_n (pc := 1185) dL_law_1185 3 (i := 3) rfl rfl (r_iconst (pc := 1186) (v := (iv 2)) dL_law_1186 rfl (r_iadd (pc := 1187) dL_law_1187 (r_sload (pc := 1188) dL_law_1188 hf fun hf => (r_aload_n (pc := 1189) dL_law_1189 0 (i := 0) rfl rfl (r_iload_n (pc := 1190) dL_law_1190 3 (i := 3) rfl rfl (r_iconst (pc := 1191) (v := (iv 3)) dL_law_1191 rfl (r_iadd (pc := 1192) dL_law_1192 (r_sload (pc := 1193) dL_law_1193 hf fun hf => (r_cV (pc := 1194) vI dL_law_1194 (cV_L_114 _ rfl) (Nat.le_of_ble_eq_true rfl) rfl (as := [vI (gI g1 2 ((x3 + (iv 1))).toNatClampNeg), vI (gI g1 2 ((x3 + (iv 2))).toNatClampNeg), vI (gI g1 2 ((x3 + (iv 3))).toNatClampNeg)]) rfl rfl (Nat.le_of_ble_eq_true rfl) hf (fun _ _ z => m_X12_split z) (fun r4 g3 hf => (r_icmp_eq (pc := 1197) (tgt := 1917) dL_law_1197 (by decide) hf (fun hf => (t_L_law_1917 hk_18 hf)) (fun hf => (r_iconst (pc := 1200) (v := (iv 0)) dL_law_1200 rfl (r_zreturn (pc := 1201) dL_law_1201 rfl hf))))))))))))))))))))))))))))))))))))))))
set_option maxRecDepth 100000 in
set_option maxHeartbeats 4000000 in
theorem t_L_law_1202 {h1 : AH} {r : Int32} {k_18 : Nat → Nat → Nat → Int32 → AH → Option (Int32 × AH)} (hk_18 : ∀ (x0 : Nat) (x1 : Nat) (x2 : Nat) (x3 : Int32) (h : AH), k_18 x0 x1 x2 x3 h = some (r, h1) → WA mL_law 51 18 [(0, vR x0), (1, vR x1), (2, vR x2), (3, vI x3)] [] h (some (vI r), h1)) {x0 : Nat} {x1 : Nat} {x2 : Nat} {x3 : Int32} {h : AH} (hf : f_L_law_1202 k_18 x0 x1 x2 x3 h = some (r, h1)) : WA mL_law 51 1202 [(0, vR x0), (1, vR x1), (2, vR x2), (3, vI x3)] [] h (some (vI r), h1) := by
  unfold f_L_law_1202 at hf
  exact (r_aload_n (pc := 1202) dL_law_1202 1 (i := 1) rfl rfl (r_aload_n (pc := 1203) dL_law_1203 0 (i := 0) rfl rfl (r_iload_n (pc := 1204) dL_law_1204 3 (i := 3) rfl rfl (r_iconst (pc := 1205) (v := (iv 1)) dL_law_1205 rfl (r_iadd (pc := 1206) dL_law_1206 (r_sload (pc := 1207) dL_law_1207 hf fun hf => (r_aload_n (pc := 1208) dL_law_1208 0 (i := 0) rfl rfl (r_iload_n (pc := 1209) dL_law_1209 3 (i := 3) rfl rfl (r_iconst (pc := 1210) (v := (iv 2)) dL_law_1210 rfl (r_iadd (pc := 1211) dL_law_1211 (r_sload (pc := 1212) dL_law_1212 hf fun hf => (r_cV (pc := 1213) vI dL_law_1213 (cV_L_115 _ rfl) (Nat.le_of_ble_eq_true rfl) rfl (as := [vI (gI h 2 ((x3 + (iv 1))).toNatClampNeg), vI (gI h 2 ((x3 + (iv 2))).toNatClampNeg)]) rfl rfl (Nat.le_of_ble_eq_true rfl) hf (fun _ _ z => m_X11_splits z) (fun r2 g1 hf => (r_aload_n (pc := 1216) dL_law_1216 2 (i := 2) rfl rfl (r_aload_n (pc := 1217) dL_law_1217 0 (i := 0) rfl rfl (r_iload_n (pc := 1218) dL_law_1218 3 (i := 3) rfl rfl (r_iconst (pc := 1219) (v := (iv 1)) dL_law_1219 rfl (r_iadd (pc := 1220) dL_law_1220 (r_sload (pc := 1221) dL_law_1221 hf fun hf => (r_aload_n (pc := 1222) dL_law_1222 0 (i := 0) rfl rfl (r_iload_n (pc := 1223) dL_law_1223 3 (i := 3) rfl rfl (r_iconst (pc := 1224) (v := (iv 2)) dL_law_1224 rfl (r_iadd (pc := 1225) dL_law_1225 (r_sload (pc := 1226) dL_law_1226 hf fun hf => (r_cV (pc := 1227) vI dL_law_1227 (cV_L_118 _ rfl) (Nat.le_of_ble_eq_true rfl) rfl (as := [vI (gI g1 2 ((x3 + (iv 1))).toNatClampNeg), vI (gI g1 2 ((x3 + (iv 2))).toNatClampNeg)]) rfl rfl (Nat.le_of_ble_eq_true rfl) hf (fun _ _ z => m_X12_splits z) (fun r4 g3 hf => (r_icmp_eq (pc := 1230) (tgt := 1917) dL_law_1230 (by decide) hf (fun hf => (t_L_law_1917 hk_18 hf)) (fun hf => (r_iconst (pc := 1233) (v := (iv 0)) dL_law_1233 rfl (r_zreturn (pc := 1234) dL_law_1234 rfl hf))))))))))))))))))))))))))))))
set_option maxRecDepth 100000 in
set_option maxHeartbeats 4000000 in
theorem t_L_law_1235 {h1 : AH} {r : Int32} {k_18 : Nat → Nat → Nat → Int32 → AH → Option (Int32 × AH)} (hk_18 : ∀ (x0 : Nat) (x1 : Nat) (x2 : Nat) (x3 : Int32) (h : AH), k_18 x0 x1 x2 x3 h = some (r, h1) → WA mL_law 51 18 [(0, vR x0), (1, vR x1), (2, vR x2), (3, vI x3)] [] h (some (vI r), h1)) {x0 : Nat} {x1 : Nat} {x2 : Nat} {x3 : Int32} {h : AH} (hf : f_L_law_1235 k_18 x0 x1 x2 x3 h = some (r, h1)) : WA mL_law 51 1235 [(0, vR x0), (1, vR x1), (2, vR x2), (3, vI x3)] [] h (some (vI r), h1) := by
  unfold f_L_law_1235 at hf
  exact (r_aload_n (pc := 1235) dL_law_1235 1 (i := 1) rfl rfl (r_aload_n (pc := 1236) dL_law_1236 0 (i := 0) rfl rfl (r_iload_n (pc := 1237) dL_law_1237 3 (i := 3) rfl rfl (r_iconst (pc := 1238) (v := (iv 1)) dL_law_1238 rfl (r_iadd (pc := 1239) dL_law_1239 (r_sload (pc := 1240) dL_law_1240 hf fun hf => (r_aload_n (pc := 1241) dL_law_1241 0 (i := 0) rfl rfl (r_iload_n (pc := 1242) dL_law_1242 3 (i := 3) rfl rfl (r_iconst (pc := 1243) (v := (iv 2)) dL_law_1243 rfl (r_iadd (pc := 1244) dL_law_1244 (r_sload (pc := 1245) dL_law_1245 hf fun hf => (r_cV (pc := 1246) vI dL_law_1246 (cV_L_119 _ rfl) (Nat.le_of_ble_eq_true rfl) rfl (as := [vI (gI h 2 ((x3 + (iv 1))).toNatClampNeg), vI (gI h 2 ((x3 + (iv 2))).toNatClampNeg)]) rfl rfl (Nat.le_of_ble_eq_true rfl) hf (fun _ _ z => m_X11_changed z) (fun r2 g1 hf => (r_aload_n (pc := 1249) dL_law_1249 2 (i := 2) rfl rfl (r_aload_n (pc := 1250) dL_law_1250 0 (i := 0) rfl rfl (r_iload_n (pc := 1251) dL_law_1251 3 (i := 3) rfl rfl (r_iconst (pc := 1252) (v := (iv 1)) dL_law_1252 rfl (r_iadd (pc := 1253) dL_law_1253 (r_sload (pc := 1254) dL_law_1254 hf fun hf => (r_aload_n (pc := 1255) dL_law_1255 0 (i := 0) rfl rfl (r_iload_n (pc := 1256) dL_law_1256 3 (i := 3) rfl rfl (r_iconst (pc := 1257) (v := (iv 2)) dL_law_1257 rfl (r_iadd (pc := 1258) dL_law_1258 (r_sload (pc := 1259) dL_law_1259 hf fun hf => (r_cV (pc := 1260) vI dL_law_1260 (cV_L_122 _ rfl) (Nat.le_of_ble_eq_true rfl) rfl (as := [vI (gI g1 2 ((x3 + (iv 1))).toNatClampNeg), vI (gI g1 2 ((x3 + (iv 2))).toNatClampNeg)]) rfl rfl (Nat.le_of_ble_eq_true rfl) hf (fun _ _ z => m_X12_changed z) (fun r4 g3 hf => (r_icmp_eq (pc := 1263) (tgt := 1917) dL_law_1263 (by decide) hf (fun hf => (t_L_law_1917 hk_18 hf)) (fun hf => (r_iconst (pc := 1266) (v := (iv 0)) dL_law_1266 rfl (r_zreturn (pc := 1267) dL_law_1267 rfl hf))))))))))))))))))))))))))))))
set_option maxRecDepth 100000 in
set_option maxHeartbeats 4000000 in
theorem t_L_law_1268 {h1 : AH} {r : Int32} {k_18 : Nat → Nat → Nat → Int32 → AH → Option (Int32 × AH)} (hk_18 : ∀ (x0 : Nat) (x1 : Nat) (x2 : Nat) (x3 : Int32) (h : AH), k_18 x0 x1 x2 x3 h = some (r, h1) → WA mL_law 51 18 [(0, vR x0), (1, vR x1), (2, vR x2), (3, vI x3)] [] h (some (vI r), h1)) {x0 : Nat} {x1 : Nat} {x2 : Nat} {x3 : Int32} {h : AH} (hf : f_L_law_1268 k_18 x0 x1 x2 x3 h = some (r, h1)) : WA mL_law 51 1268 [(0, vR x0), (1, vR x1), (2, vR x2), (3, vI x3)] [] h (some (vI r), h1) := by
  unfold f_L_law_1268 at hf
  exact (r_aload_n (pc := 1268) dL_law_1268 1 (i := 1) rfl rfl (r_aload_n (pc := 1269) dL_law_1269 0 (i := 0) rfl rfl (r_iload_n (pc := 1270) dL_law_1270 3 (i := 3) rfl rfl (r_iconst (pc := 1271) (v := (iv 1)) dL_law_1271 rfl (r_iadd (pc := 1272) dL_law_1272 (r_sload (pc := 1273) dL_law_1273 hf fun hf => (r_aload_n (pc := 1274) dL_law_1274 0 (i := 0) rfl rfl (r_iload_n (pc := 1275) dL_law_1275 3 (i := 3) rfl rfl (r_iconst (pc := 1276) (v := (iv 2)) dL_law_1276 rfl (r_iadd (pc := 1277) dL_law_1277 (r_sload (pc := 1278) dL_law_1278 hf fun hf => (r_aload_n (pc := 1279) dL_law_1279 0 (i := 0) rfl rfl (r_iload_n (pc := 1280) dL_law_1280 3 (i := 3) rfl rfl (r_iconst (pc := 1281) (v := (iv 3)) dL_law_1281 rfl (r_iadd (pc := 1282) dL_law_1282 (r_sload (pc := 1283) dL_law_1283 hf fun hf => (r_aload_n (pc := 1284) dL_law_1284 0 (i := 0) rfl rfl (r_iload_n (pc := 1285) dL_law_1285 3 (i := 3) rfl rfl (r_iconst (pc := 1286) (v := (iv 4)) dL_law_1286 rfl (r_iadd (pc := 1287) dL_law_1287 (r_sload (pc := 1288) dL_law_1288 hf fun hf => (r_cV (pc := 1289) vI dL_law_1289 (cV_L_123 _ rfl) (Nat.le_of_ble_eq_true rfl) rfl (as := [vI (gI h 2 ((x3 + (iv 1))).toNatClampNeg), vI (gI h 2 ((x3 + (iv 2))).toNatClampNeg), vI (gI h 2 ((x3 + (iv 3))).toNatClampNeg), vI (gI h 2 ((x3 + (iv 4))).toNatClampNeg)]) rfl rfl (Nat.le_of_ble_eq_true rfl) hf (fun _ _ z => m_X11_parted z) (fun r2 g1 hf => (r_aload_n (pc := 1292) dL_law_1292 2 (i := 2) rfl rfl (r_aload_n (pc := 1293) dL_law_1293 0 (i := 0) rfl rfl (r_iload_n (pc := 1294) dL_law_1294 3 (i := 3) rfl rfl (r_iconst (pc := 1295) (v := (iv 1)) dL_law_1295 rfl (r_iadd (pc := 1296) dL_law_1296 (r_sload (pc := 1297) dL_law_1297 hf fun hf => (r_aload_n (pc := 1298) dL_law_1298 0 (i := 0) rfl rfl (r_iload_n (pc := 1299) dL_law_1299 3 (i := 3) rfl rfl (r_iconst (pc := 1300) (v := (iv 2)) dL_law_1300 rfl (r_iadd (pc := 1301) dL_law_1301 (r_sload (pc := 1302) dL_law_1302 hf fun hf => (r_aload_n (pc := 1303) dL_law_1303 0 (i := 0) rfl rfl (r_iload_n (pc := 1304) dL_law_1304 3 (i := 3) rfl rfl (r_iconst (pc := 1305) (v := (iv 3)) dL_law_1305 rfl (r_iadd (pc := 1306) dL_law_1306 (r_sload (pc := 1307) dL_law_1307 hf fun hf => (r_aload_n (pc := 1308) dL_law_1308 0 (i := 0) rfl rfl (r_iload_n (pc := 1309) dL_law_1309 3 (i := 3) rfl rfl (r_iconst (pc := 1310) (v := (iv 4)) dL_law_1310 rfl (r_iadd (pc := 1311) dL_law_1311 (r_sload (pc := 1312) dL_law_1312 hf fun hf => (r_cV (pc := 1313) vI dL_law_1313 (cV_L_126 _ rfl) (Nat.le_of_ble_eq_true rfl) rfl (as := [vI (gI g1 2 ((x3 + (iv 1))).toNatClampNeg), vI (gI g1 2 ((x3 + (iv 2))).toNatClampNeg), vI (gI g1 2 ((x3 + (iv 3))).toNatClampNeg), vI (gI g1 2 ((x3 + (iv 4))).toNatClampNeg)]) rfl rfl (Nat.le_of_ble_eq_true rfl) hf (fun _ _ z => m_X12_parted z) (fun r4 g3 hf => (r_icmp_eq (pc := 1316) (tgt := 1917) dL_law_1316 (by decide) hf (fun hf => (t_L_law_1917 hk_18 hf)) (fun hf => (r_iconst (pc := 1319) (v := (iv 0)) dL_law_1319 rfl (r_zreturn (pc := 1320) dL_law_1320 rfl hf))))))))))))))))))))))))))))))))))))))))))))))))))
set_option maxRecDepth 100000 in
set_option maxHeartbeats 4000000 in
theorem t_L_law_1321 {h1 : AH} {r : Int32} {k_18 : Nat → Nat → Nat → Int32 → AH → Option (Int32 × AH)} (hk_18 : ∀ (x0 : Nat) (x1 : Nat) (x2 : Nat) (x3 : Int32) (h : AH), k_18 x0 x1 x2 x3 h = some (r, h1) → WA mL_law 51 18 [(0, vR x0), (1, vR x1), (2, vR x2), (3, vI x3)] [] h (some (vI r), h1)) {x0 : Nat} {x1 : Nat} {x2 : Nat} {x3 : Int32} {h : AH} (hf : f_L_law_1321 k_18 x0 x1 x2 x3 h = some (r, h1)) : WA mL_law 51 1321 [(0, vR x0), (1, vR x1), (2, vR x2), (3, vI x3)] [] h (some (vI r), h1) := by
  unfold f_L_law_1321 at hf
  exact (r_aload_n (pc := 1321) dL_law_1321 1 (i := 1) rfl rfl (r_aload_n (pc := 1322) dL_law_1322 0 (i := 0) rfl rfl (r_iload_n (pc := 1323) dL_law_1323 3 (i := 3) rfl rfl (r_iconst (pc := 1324) (v := (iv 1)) dL_law_1324 rfl (r_iadd (pc := 1325) dL_law_1325 (r_sload (pc := 1326) dL_law_1326 hf fun hf => (r_aload_n (pc := 1327) dL_law_1327 0 (i := 0) rfl rfl (r_iload_n (pc := 1328) dL_law_1328 3 (i := 3) rfl rfl (r_iconst (pc := 1329) (v := (iv 2)) dL_law_1329 rfl (r_iadd (pc := 1330) dL_law_1330 (r_sload (pc := 1331) dL_law_1331 hf fun hf => (r_aload_n (pc := 1332) dL_law_1332 0 (i := 0) rfl rfl (r_iload_n (pc := 1333) dL_law_1333 3 (i := 3) rfl rfl (r_iconst (pc := 1334) (v := (iv 3)) dL_law_1334 rfl (r_iadd (pc := 1335) dL_law_1335 (r_sload (pc := 1336) dL_law_1336 hf fun hf => (r_cV (pc := 1337) vI dL_law_1337 (cV_L_127 _ rfl) (Nat.le_of_ble_eq_true rfl) rfl (as := [vI (gI h 2 ((x3 + (iv 1))).toNatClampNeg), vI (gI h 2 ((x3 + (iv 2))).toNatClampNeg), vI (gI h 2 ((x3 + (iv 3))).toNatClampNeg)]) rfl rfl (Nat.le_of_ble_eq_true rfl) hf (fun _ _ z => m_X11_weight z) (fun r2 g1 hf => (r_aload_n (pc := 1340) dL_law_1340 2 (i := 2) rfl rfl (r_aload_n (pc := 1341) dL_law_1341 0 (i := 0) rfl rfl (r_iload_n (pc := 1342) dL_law_1342 3 (i := 3) rfl rfl (r_iconst (pc := 1343) (v := (iv 1)) dL_law_1343 rfl (r_iadd (pc := 1344) dL_law_1344 (r_sload (pc := 1345) dL_law_1345 hf fun hf => (r_aload_n (pc := 1346) dL_law_1346 0 (i := 0) rfl rfl (r_iload_n (pc := 1347) dL_law_1347 3 (i := 3) rfl rfl (r_iconst (pc := 1348) (v := (iv 2)) dL_law_1348 rfl (r_iadd (pc := 1349) dL_law_1349 (r_sload (pc := 1350) dL_law_1350 hf fun hf => (r_aload_n (pc := 1351) dL_law_1351 0 (i := 0) rfl rfl (r_iload_n (pc := 1352) dL_law_1352 3 (i := 3) rfl rfl (r_iconst (pc := 1353) (v := (iv 3)) dL_law_1353 rfl (r_iadd (pc := 1354) dL_law_1354 (r_sload (pc := 1355) dL_law_1355 hf fun hf => (r_cV (pc := 1356) vI dL_law_1356 (cV_L_130 _ rfl) (Nat.le_of_ble_eq_true rfl) rfl (as := [vI (gI g1 2 ((x3 + (iv 1))).toNatClampNeg), vI (gI g1 2 ((x3 + (iv 2))).toNatClampNeg), vI (gI g1 2 ((x3 + (iv 3))).toNatClampNeg)]) rfl rfl (Nat.le_of_ble_eq_true rfl) hf (fun _ _ z => m_X12_weight z) (fun r4 g3 hf => (r_icmp_eq (pc := 1359) (tgt := 1917) dL_law_1359 (by decide) hf (fun hf => (t_L_law_1917 hk_18 hf)) (fun hf => (r_iconst (pc := 1362) (v := (iv 0)) dL_law_1362 rfl (r_zreturn (pc := 1363) dL_law_1363 rfl hf))))))))))))))))))))))))))))))))))))))))
set_option maxRecDepth 100000 in
set_option maxHeartbeats 4000000 in
theorem t_L_law_1364 {h1 : AH} {r : Int32} {k_18 : Nat → Nat → Nat → Int32 → AH → Option (Int32 × AH)} (hk_18 : ∀ (x0 : Nat) (x1 : Nat) (x2 : Nat) (x3 : Int32) (h : AH), k_18 x0 x1 x2 x3 h = some (r, h1) → WA mL_law 51 18 [(0, vR x0), (1, vR x1), (2, vR x2), (3, vI x3)] [] h (some (vI r), h1)) {x0 : Nat} {x1 : Nat} {x2 : Nat} {x3 : Int32} {h : AH} (hf : f_L_law_1364 k_18 x0 x1 x2 x3 h = some (r, h1)) : WA mL_law 51 1364 [(0, vR x0), (1, vR x1), (2, vR x2), (3, vI x3)] [] h (some (vI r), h1) := by
  unfold f_L_law_1364 at hf
  exact (r_aload_n (pc := 1364) dL_law_1364 1 (i := 1) rfl rfl (r_aload_n (pc := 1365) dL_law_1365 0 (i := 0) rfl rfl (r_iload_n (pc := 1366) dL_law_1366 3 (i := 3) rfl rfl (r_iconst (pc := 1367) (v := (iv 1)) dL_law_1367 rfl (r_iadd (pc := 1368) dL_law_1368 (r_sload (pc := 1369) dL_law_1369 hf fun hf => (r_aload_n (pc := 1370) dL_law_1370 0 (i := 0) rfl rfl (r_iload_n (pc := 1371) dL_law_1371 3 (i := 3) rfl rfl (r_iconst (pc := 1372) (v := (iv 2)) dL_law_1372 rfl (r_iadd (pc := 1373) dL_law_1373 (r_sload (pc := 1374) dL_law_1374 hf fun hf => (r_cV (pc := 1375) vI dL_law_1375 (cV_L_131 _ rfl) (Nat.le_of_ble_eq_true rfl) rfl (as := [vI (gI h 2 ((x3 + (iv 1))).toNatClampNeg), vI (gI h 2 ((x3 + (iv 2))).toNatClampNeg)]) rfl rfl (Nat.le_of_ble_eq_true rfl) hf (fun _ _ z => m_X11_likeliest z) (fun r2 g1 hf => (r_aload_n (pc := 1378) dL_law_1378 2 (i := 2) rfl rfl (r_aload_n (pc := 1379) dL_law_1379 0 (i := 0) rfl rfl (r_iload_n (pc := 1380) dL_law_1380 3 (i := 3) rfl rfl (r_iconst (pc := 1381) (v := (iv 1)) dL_law_1381 rfl (r_iadd (pc := 1382) dL_law_1382 (r_sload (pc := 1383) dL_law_1383 hf fun hf => (r_aload_n (pc := 1384) dL_law_1384 0 (i := 0) rfl rfl (r_iload_n (pc := 1385) dL_law_1385 3 (i := 3) rfl rfl (r_iconst (pc := 1386) (v := (iv 2)) dL_law_1386 rfl (r_iadd (pc := 1387) dL_law_1387 (r_sload (pc := 1388) dL_law_1388 hf fun hf => (r_cV (pc := 1389) vI dL_law_1389 (cV_L_134 _ rfl) (Nat.le_of_ble_eq_true rfl) rfl (as := [vI (gI g1 2 ((x3 + (iv 1))).toNatClampNeg), vI (gI g1 2 ((x3 + (iv 2))).toNatClampNeg)]) rfl rfl (Nat.le_of_ble_eq_true rfl) hf (fun _ _ z => m_X12_likeliest z) (fun r4 g3 hf => (r_icmp_eq (pc := 1392) (tgt := 1917) dL_law_1392 (by decide) hf (fun hf => (t_L_law_1917 hk_18 hf)) (fun hf => (r_iconst (pc := 1395) (v := (iv 0)) dL_law_1395 rfl (r_zreturn (pc := 1396) dL_law_1396 rfl hf))))))))))))))))))))))))))))))
set_option maxRecDepth 100000 in
set_option maxHeartbeats 4000000 in
theorem t_L_law_1397 {h1 : AH} {r : Int32} {k_18 : Nat → Nat → Nat → Int32 → AH → Option (Int32 × AH)} (hk_18 : ∀ (x0 : Nat) (x1 : Nat) (x2 : Nat) (x3 : Int32) (h : AH), k_18 x0 x1 x2 x3 h = some (r, h1) → WA mL_law 51 18 [(0, vR x0), (1, vR x1), (2, vR x2), (3, vI x3)] [] h (some (vI r), h1)) {x0 : Nat} {x1 : Nat} {x2 : Nat} {x3 : Int32} {h : AH} (hf : f_L_law_1397 k_18 x0 x1 x2 x3 h = some (r, h1)) : WA mL_law 51 1397 [(0, vR x0), (1, vR x1), (2, vR x2), (3, vI x3)] [] h (some (vI r), h1) := by
  unfold f_L_law_1397 at hf
  exact (r_aload_n (pc := 1397) dL_law_1397 1 (i := 1) rfl rfl (r_aload_n (pc := 1398) dL_law_1398 0 (i := 0) rfl rfl (r_iload_n (pc := 1399) dL_law_1399 3 (i := 3) rfl rfl (r_iconst (pc := 1400) (v := (iv 1)) dL_law_1400 rfl (r_iadd (pc := 1401) dL_law_1401 (r_sload (pc := 1402) dL_law_1402 hf fun hf => (r_aload_n (pc := 1403) dL_law_1403 0 (i := 0) rfl rfl (r_iload_n (pc := 1404) dL_law_1404 3 (i := 3) rfl rfl (r_iconst (pc := 1405) (v := (iv 2)) dL_law_1405 rfl (r_iadd (pc := 1406) dL_law_1406 (r_sload (pc := 1407) dL_law_1407 hf fun hf => (r_cV (pc := 1408) vI dL_law_1408 (cV_L_135 _ rfl) (Nat.le_of_ble_eq_true rfl) rfl (as := [vI (gI h 2 ((x3 + (iv 1))).toNatClampNeg), vI (gI h 2 ((x3 + (iv 2))).toNatClampNeg)]) rfl rfl (Nat.le_of_ble_eq_true rfl) hf (fun _ _ z => m_X11_weighs z) (fun r2 g1 hf => (r_aload_n (pc := 1411) dL_law_1411 2 (i := 2) rfl rfl (r_aload_n (pc := 1412) dL_law_1412 0 (i := 0) rfl rfl (r_iload_n (pc := 1413) dL_law_1413 3 (i := 3) rfl rfl (r_iconst (pc := 1414) (v := (iv 1)) dL_law_1414 rfl (r_iadd (pc := 1415) dL_law_1415 (r_sload (pc := 1416) dL_law_1416 hf fun hf => (r_aload_n (pc := 1417) dL_law_1417 0 (i := 0) rfl rfl (r_iload_n (pc := 1418) dL_law_1418 3 (i := 3) rfl rfl (r_iconst (pc := 1419) (v := (iv 2)) dL_law_1419 rfl (r_iadd (pc := 1420) dL_law_1420 (r_sload (pc := 1421) dL_law_1421 hf fun hf => (r_cV (pc := 1422) vI dL_law_1422 (cV_L_138 _ rfl) (Nat.le_of_ble_eq_true rfl) rfl (as := [vI (gI g1 2 ((x3 + (iv 1))).toNatClampNeg), vI (gI g1 2 ((x3 + (iv 2))).toNatClampNeg)]) rfl rfl (Nat.le_of_ble_eq_true rfl) hf (fun _ _ z => m_X12_weighs z) (fun r4 g3 hf => (r_icmp_eq (pc := 1425) (tgt := 1917) dL_law_1425 (by decide) hf (fun hf => (t_L_law_1917 hk_18 hf)) (fun hf => (r_iconst (pc := 1428) (v := (iv 0)) dL_law_1428 rfl (r_zreturn (pc := 1429) dL_law_1429 rfl hf))))))))))))))))))))))))))))))
set_option maxRecDepth 100000 in
set_option maxHeartbeats 4000000 in
theorem t_L_law_1430 {h1 : AH} {r : Int32} {k_18 : Nat → Nat → Nat → Int32 → AH → Option (Int32 × AH)} (hk_18 : ∀ (x0 : Nat) (x1 : Nat) (x2 : Nat) (x3 : Int32) (h : AH), k_18 x0 x1 x2 x3 h = some (r, h1) → WA mL_law 51 18 [(0, vR x0), (1, vR x1), (2, vR x2), (3, vI x3)] [] h (some (vI r), h1)) {x0 : Nat} {x1 : Nat} {x2 : Nat} {x3 : Int32} {h : AH} (hf : f_L_law_1430 k_18 x0 x1 x2 x3 h = some (r, h1)) : WA mL_law 51 1430 [(0, vR x0), (1, vR x1), (2, vR x2), (3, vI x3)] [] h (some (vI r), h1) := by
  unfold f_L_law_1430 at hf
  exact (r_aload_n (pc := 1430) dL_law_1430 1 (i := 1) rfl rfl (r_aload_n (pc := 1431) dL_law_1431 0 (i := 0) rfl rfl (r_iload_n (pc := 1432) dL_law_1432 3 (i := 3) rfl rfl (r_iconst (pc := 1433) (v := (iv 1)) dL_law_1433 rfl (r_iadd (pc := 1434) dL_law_1434 (r_sload (pc := 1435) dL_law_1435 hf fun hf => (r_aload_n (pc := 1436) dL_law_1436 0 (i := 0) rfl rfl (r_iload_n (pc := 1437) dL_law_1437 3 (i := 3) rfl rfl (r_iconst (pc := 1438) (v := (iv 2)) dL_law_1438 rfl (r_iadd (pc := 1439) dL_law_1439 (r_sload (pc := 1440) dL_law_1440 hf fun hf => (r_aload_n (pc := 1441) dL_law_1441 0 (i := 0) rfl rfl (r_iload_n (pc := 1442) dL_law_1442 3 (i := 3) rfl rfl (r_iconst (pc := 1443) (v := (iv 3)) dL_law_1443 rfl (r_iadd (pc := 1444) dL_law_1444 (r_sload (pc := 1445) dL_law_1445 hf fun hf => (r_cV (pc := 1446) vI dL_law_1446 (cV_L_139 _ rfl) (Nat.le_of_ble_eq_true rfl) rfl (as := [vI (gI h 2 ((x3 + (iv 1))).toNatClampNeg), vI (gI h 2 ((x3 + (iv 2))).toNatClampNeg), vI (gI h 2 ((x3 + (iv 3))).toNatClampNeg)]) rfl rfl (Nat.le_of_ble_eq_true rfl) hf (fun _ _ z => m_X11_chance z) (fun r2 g1 hf => (r_aload_n (pc := 1449) dL_law_1449 2 (i := 2) rfl rfl (r_aload_n (pc := 1450) dL_law_1450 0 (i := 0) rfl rfl (r_iload_n (pc := 1451) dL_law_1451 3 (i := 3) rfl rfl (r_iconst (pc := 1452) (v := (iv 1)) dL_law_1452 rfl (r_iadd (pc := 1453) dL_law_1453 (r_sload (pc := 1454) dL_law_1454 hf fun hf => (r_aload_n (pc := 1455) dL_law_1455 0 (i := 0) rfl rfl (r_iload_n (pc := 1456) dL_law_1456 3 (i := 3) rfl rfl (r_iconst (pc := 1457) (v := (iv 2)) dL_law_1457 rfl (r_iadd (pc := 1458) dL_law_1458 (r_sload (pc := 1459) dL_law_1459 hf fun hf => (r_aload_n (pc := 1460) dL_law_1460 0 (i := 0) rfl rfl (r_iload_n (pc := 1461) dL_law_1461 3 (i := 3) rfl rfl (r_iconst (pc := 1462) (v := (iv 3)) dL_law_1462 rfl (r_iadd (pc := 1463) dL_law_1463 (r_sload (pc := 1464) dL_law_1464 hf fun hf => (r_cV (pc := 1465) vI dL_law_1465 (cV_L_142 _ rfl) (Nat.le_of_ble_eq_true rfl) rfl (as := [vI (gI g1 2 ((x3 + (iv 1))).toNatClampNeg), vI (gI g1 2 ((x3 + (iv 2))).toNatClampNeg), vI (gI g1 2 ((x3 + (iv 3))).toNatClampNeg)]) rfl rfl (Nat.le_of_ble_eq_true rfl) hf (fun _ _ z => m_X12_chance z) (fun r4 g3 hf => (r_icmp_eq (pc := 1468) (tgt := 1917) dL_law_1468 (by decide) hf (fun hf => (t_L_law_1917 hk_18 hf)) (fun hf => (r_iconst (pc := 1471) (v := (iv 0)) dL_law_1471 rfl (r_zreturn (pc := 1472) dL_law_1472 rfl hf))))))))))))))))))))))))))))))))))))))))
set_option maxRecDepth 100000 in
set_option maxHeartbeats 4000000 in
theorem t_L_law_1473 {h1 : AH} {r : Int32} {k_18 : Nat → Nat → Nat → Int32 → AH → Option (Int32 × AH)} (hk_18 : ∀ (x0 : Nat) (x1 : Nat) (x2 : Nat) (x3 : Int32) (h : AH), k_18 x0 x1 x2 x3 h = some (r, h1) → WA mL_law 51 18 [(0, vR x0), (1, vR x1), (2, vR x2), (3, vI x3)] [] h (some (vI r), h1)) {x0 : Nat} {x1 : Nat} {x2 : Nat} {x3 : Int32} {h : AH} (hf : f_L_law_1473 k_18 x0 x1 x2 x3 h = some (r, h1)) : WA mL_law 51 1473 [(0, vR x0), (1, vR x1), (2, vR x2), (3, vI x3)] [] h (some (vI r), h1) := by
  unfold f_L_law_1473 at hf
  exact (r_aload_n (pc := 1473) dL_law_1473 1 (i := 1) rfl rfl (r_aload_n (pc := 1474) dL_law_1474 0 (i := 0) rfl rfl (r_iload_n (pc := 1475) dL_law_1475 3 (i := 3) rfl rfl (r_iconst (pc := 1476) (v := (iv 1)) dL_law_1476 rfl (r_iadd (pc := 1477) dL_law_1477 (r_sload (pc := 1478) dL_law_1478 hf fun hf => (r_cV (pc := 1479) vI dL_law_1479 (cV_L_143 _ rfl) (Nat.le_of_ble_eq_true rfl) rfl (as := [vI (gI h 2 ((x3 + (iv 1))).toNatClampNeg)]) rfl rfl (Nat.le_of_ble_eq_true rfl) hf (fun _ _ z => m_X11_knowing z) (fun r2 g1 hf => (r_aload_n (pc := 1482) dL_law_1482 2 (i := 2) rfl rfl (r_aload_n (pc := 1483) dL_law_1483 0 (i := 0) rfl rfl (r_iload_n (pc := 1484) dL_law_1484 3 (i := 3) rfl rfl (r_iconst (pc := 1485) (v := (iv 1)) dL_law_1485 rfl (r_iadd (pc := 1486) dL_law_1486 (r_sload (pc := 1487) dL_law_1487 hf fun hf => (r_cV (pc := 1488) vI dL_law_1488 (cV_L_147 _ rfl) (Nat.le_of_ble_eq_true rfl) rfl (as := [vI (gI g1 2 ((x3 + (iv 1))).toNatClampNeg)]) rfl rfl (Nat.le_of_ble_eq_true rfl) hf (fun _ _ z => m_X12_knowing z) (fun r4 g3 hf => (r_icmp_eq (pc := 1491) (tgt := 1917) dL_law_1491 (by decide) hf (fun hf => (t_L_law_1917 hk_18 hf)) (fun hf => (r_iconst (pc := 1494) (v := (iv 0)) dL_law_1494 rfl (r_zreturn (pc := 1495) dL_law_1495 rfl hf))))))))))))))))))))
set_option maxRecDepth 100000 in
set_option maxHeartbeats 4000000 in
theorem t_L_law_1496 {h1 : AH} {r : Int32} {k_18 : Nat → Nat → Nat → Int32 → AH → Option (Int32 × AH)} (hk_18 : ∀ (x0 : Nat) (x1 : Nat) (x2 : Nat) (x3 : Int32) (h : AH), k_18 x0 x1 x2 x3 h = some (r, h1) → WA mL_law 51 18 [(0, vR x0), (1, vR x1), (2, vR x2), (3, vI x3)] [] h (some (vI r), h1)) {x0 : Nat} {x1 : Nat} {x2 : Nat} {x3 : Int32} {h : AH} (hf : f_L_law_1496 k_18 x0 x1 x2 x3 h = some (r, h1)) : WA mL_law 51 1496 [(0, vR x0), (1, vR x1), (2, vR x2), (3, vI x3)] [] h (some (vI r), h1) := by
  unfold f_L_law_1496 at hf
  exact (r_aload_n (pc := 1496) dL_law_1496 1 (i := 1) rfl rfl (r_aload_n (pc := 1497) dL_law_1497 0 (i := 0) rfl rfl (r_iload_n (pc := 1498) dL_law_1498 3 (i := 3) rfl rfl (r_iconst (pc := 1499) (v := (iv 1)) dL_law_1499 rfl (r_iadd (pc := 1500) dL_law_1500 (r_sload (pc := 1501) dL_law_1501 hf fun hf => (r_aload_n (pc := 1502) dL_law_1502 0 (i := 0) rfl rfl (r_iload_n (pc := 1503) dL_law_1503 3 (i := 3) rfl rfl (r_iconst (pc := 1504) (v := (iv 2)) dL_law_1504 rfl (r_iadd (pc := 1505) dL_law_1505 (r_sload (pc := 1506) dL_law_1506 hf fun hf => (r_aload_n (pc := 1507) dL_law_1507 0 (i := 0) rfl rfl (r_iload_n (pc := 1508) dL_law_1508 3 (i := 3) rfl rfl (r_iconst (pc := 1509) (v := (iv 3)) dL_law_1509 rfl (r_iadd (pc := 1510) dL_law_1510 (r_sload (pc := 1511) dL_law_1511 hf fun hf => (r_cV (pc := 1512) vI dL_law_1512 (cV_L_148 _ rfl) (Nat.le_of_ble_eq_true rfl) rfl (as := [vI (gI h 2 ((x3 + (iv 1))).toNatClampNeg), vI (gI h 2 ((x3 + (iv 2))).toNatClampNeg), vI (gI h 2 ((x3 + (iv 3))).toNatClampNeg)]) rfl rfl (Nat.le_of_ble_eq_true rfl) hf (fun _ _ z => m_X11_act z) (fun r2 g1 hf => (r_aload_n (pc := 1515) dL_law_1515 2 (i := 2) rfl rfl (r_aload_n (pc := 1516) dL_law_1516 0 (i := 0) rfl rfl (r_iload_n (pc := 1517) dL_law_1517 3 (i := 3) rfl rfl (r_iconst (pc := 1518) (v := (iv 1)) dL_law_1518 rfl (r_iadd (pc := 1519) dL_law_1519 (r_sload (pc := 1520) dL_law_1520 hf fun hf => (r_aload_n (pc := 1521) dL_law_1521 0 (i := 0) rfl rfl (r_iload_n (pc := 1522) dL_law_1522 3 (i := 3) rfl rfl (r_iconst (pc := 1523) (v := (iv 2)) dL_law_1523 rfl (r_iadd (pc := 1524) dL_law_1524 (r_sload (pc := 1525) dL_law_1525 hf fun hf => (r_aload_n (pc := 1526) dL_law_1526 0 (i := 0) rfl rfl (r_iload_n (pc := 1527) dL_law_1527 3 (i := 3) rfl rfl (r_iconst (pc := 1528) (v := (iv 3)) dL_law_1528 rfl (r_iadd (pc := 1529) dL_law_1529 (r_sload (pc := 1530) dL_law_1530 hf fun hf => (r_cV (pc := 1531) vI dL_law_1531 (cV_L_151 _ rfl) (Nat.le_of_ble_eq_true rfl) rfl (as := [vI (gI g1 2 ((x3 + (iv 1))).toNatClampNeg), vI (gI g1 2 ((x3 + (iv 2))).toNatClampNeg), vI (gI g1 2 ((x3 + (iv 3))).toNatClampNeg)]) rfl rfl (Nat.le_of_ble_eq_true rfl) hf (fun _ _ z => m_X12_act z) (fun r4 g3 hf => (r_icmp_eq (pc := 1534) (tgt := 1917) dL_law_1534 (by decide) hf (fun hf => (t_L_law_1917 hk_18 hf)) (fun hf => (r_iconst (pc := 1537) (v := (iv 0)) dL_law_1537 rfl (r_zreturn (pc := 1538) dL_law_1538 rfl hf))))))))))))))))))))))))))))))))))))))))
set_option maxRecDepth 100000 in
set_option maxHeartbeats 4000000 in
theorem t_L_law_1539 {h1 : AH} {r : Int32} {k_18 : Nat → Nat → Nat → Int32 → AH → Option (Int32 × AH)} (hk_18 : ∀ (x0 : Nat) (x1 : Nat) (x2 : Nat) (x3 : Int32) (h : AH), k_18 x0 x1 x2 x3 h = some (r, h1) → WA mL_law 51 18 [(0, vR x0), (1, vR x1), (2, vR x2), (3, vI x3)] [] h (some (vI r), h1)) {x0 : Nat} {x1 : Nat} {x2 : Nat} {x3 : Int32} {h : AH} (hf : f_L_law_1539 k_18 x0 x1 x2 x3 h = some (r, h1)) : WA mL_law 51 1539 [(0, vR x0), (1, vR x1), (2, vR x2), (3, vI x3)] [] h (some (vI r), h1) := by
  unfold f_L_law_1539 at hf
  exact (r_aload_n (pc := 1539) dL_law_1539 1 (i := 1) rfl rfl (r_aload_n (pc := 1540) dL_law_1540 0 (i := 0) rfl rfl (r_iload_n (pc := 1541) dL_law_1541 3 (i := 3) rfl rfl (r_iconst (pc := 1542) (v := (iv 1)) dL_law_1542 rfl (r_iadd (pc := 1543) dL_law_1543 (r_sload (pc := 1544) dL_law_1544 hf fun hf => (r_cV (pc := 1545) vI dL_law_1545 (cV_L_152 _ rfl) (Nat.le_of_ble_eq_true rfl) rfl (as := [vI (gI h 2 ((x3 + (iv 1))).toNatClampNeg)]) rfl rfl (Nat.le_of_ble_eq_true rfl) hf (fun _ _ z => m_X11_trace z) (fun r2 g1 hf => (r_aload_n (pc := 1548) dL_law_1548 2 (i := 2) rfl rfl (r_aload_n (pc := 1549) dL_law_1549 0 (i := 0) rfl rfl (r_iload_n (pc := 1550) dL_law_1550 3 (i := 3) rfl rfl (r_iconst (pc := 1551) (v := (iv 1)) dL_law_1551 rfl (r_iadd (pc := 1552) dL_law_1552 (r_sload (pc := 1553) dL_law_1553 hf fun hf => (r_cV (pc := 1554) vI dL_law_1554 (cV_L_155 _ rfl) (Nat.le_of_ble_eq_true rfl) rfl (as := [vI (gI g1 2 ((x3 + (iv 1))).toNatClampNeg)]) rfl rfl (Nat.le_of_ble_eq_true rfl) hf (fun _ _ z => m_X12_trace z) (fun r4 g3 hf => (r_icmp_eq (pc := 1557) (tgt := 1917) dL_law_1557 (by decide) hf (fun hf => (t_L_law_1917 hk_18 hf)) (fun hf => (r_iconst (pc := 1560) (v := (iv 0)) dL_law_1560 rfl (r_zreturn (pc := 1561) dL_law_1561 rfl hf))))))))))))))))))))
set_option maxRecDepth 100000 in
set_option maxHeartbeats 4000000 in
theorem t_L_law_1562 {h1 : AH} {r : Int32} {k_18 : Nat → Nat → Nat → Int32 → AH → Option (Int32 × AH)} (hk_18 : ∀ (x0 : Nat) (x1 : Nat) (x2 : Nat) (x3 : Int32) (h : AH), k_18 x0 x1 x2 x3 h = some (r, h1) → WA mL_law 51 18 [(0, vR x0), (1, vR x1), (2, vR x2), (3, vI x3)] [] h (some (vI r), h1)) {x0 : Nat} {x1 : Nat} {x2 : Nat} {x3 : Int32} {h : AH} (hf : f_L_law_1562 k_18 x0 x1 x2 x3 h = some (r, h1)) : WA mL_law 51 1562 [(0, vR x0), (1, vR x1), (2, vR x2), (3, vI x3)] [] h (some (vI r), h1) := by
  unfold f_L_law_1562 at hf
  exact (r_aload_n (pc := 1562) dL_law_1562 1 (i := 1) rfl rfl (r_aload_n (pc := 1563) dL_law_1563 0 (i := 0) rfl rfl (r_iload_n (pc := 1564) dL_law_1564 3 (i := 3) rfl rfl (r_iconst (pc := 1565) (v := (iv 1)) dL_law_1565 rfl (r_iadd (pc := 1566) dL_law_1566 (r_sload (pc := 1567) dL_law_1567 hf fun hf => (r_aload_n (pc := 1568) dL_law_1568 0 (i := 0) rfl rfl (r_iload_n (pc := 1569) dL_law_1569 3 (i := 3) rfl rfl (r_iconst (pc := 1570) (v := (iv 2)) dL_law_1570 rfl (r_iadd (pc := 1571) dL_law_1571 (r_sload (pc := 1572) dL_law_1572 hf fun hf => (r_cV (pc := 1573) vI dL_law_1573 (cV_L_156 _ rfl) (Nat.le_of_ble_eq_true rfl) rfl (as := [vI (gI h 2 ((x3 + (iv 1))).toNatClampNeg), vI (gI h 2 ((x3 + (iv 2))).toNatClampNeg)]) rfl rfl (Nat.le_of_ble_eq_true rfl) hf (fun _ _ z => m_X11_keep z) (fun r2 g1 hf => (r_aload_n (pc := 1576) dL_law_1576 2 (i := 2) rfl rfl (r_aload_n (pc := 1577) dL_law_1577 0 (i := 0) rfl rfl (r_iload_n (pc := 1578) dL_law_1578 3 (i := 3) rfl rfl (r_iconst (pc := 1579) (v := (iv 1)) dL_law_1579 rfl (r_iadd (pc := 1580) dL_law_1580 (r_sload (pc := 1581) dL_law_1581 hf fun hf => (r_aload_n (pc := 1582) dL_law_1582 0 (i := 0) rfl rfl (r_iload_n (pc := 1583) dL_law_1583 3 (i := 3) rfl rfl (r_iconst (pc := 1584) (v := (iv 2)) dL_law_1584 rfl (r_iadd (pc := 1585) dL_law_1585 (r_sload (pc := 1586) dL_law_1586 hf fun hf => (r_cV (pc := 1587) vI dL_law_1587 (cV_L_159 _ rfl) (Nat.le_of_ble_eq_true rfl) rfl (as := [vI (gI g1 2 ((x3 + (iv 1))).toNatClampNeg), vI (gI g1 2 ((x3 + (iv 2))).toNatClampNeg)]) rfl rfl (Nat.le_of_ble_eq_true rfl) hf (fun _ _ z => m_X12_keep z) (fun r4 g3 hf => (r_icmp_eq (pc := 1590) (tgt := 1917) dL_law_1590 (by decide) hf (fun hf => (t_L_law_1917 hk_18 hf)) (fun hf => (r_iconst (pc := 1593) (v := (iv 0)) dL_law_1593 rfl (r_zreturn (pc := 1594) dL_law_1594 rfl hf))))))))))))))))))))))))))))))
set_option maxRecDepth 100000 in
set_option maxHeartbeats 4000000 in
theorem t_L_law_1595 {h1 : AH} {r : Int32} {k_18 : Nat → Nat → Nat → Int32 → AH → Option (Int32 × AH)} (hk_18 : ∀ (x0 : Nat) (x1 : Nat) (x2 : Nat) (x3 : Int32) (h : AH), k_18 x0 x1 x2 x3 h = some (r, h1) → WA mL_law 51 18 [(0, vR x0), (1, vR x1), (2, vR x2), (3, vI x3)] [] h (some (vI r), h1)) {x0 : Nat} {x1 : Nat} {x2 : Nat} {x3 : Int32} {h : AH} (hf : f_L_law_1595 k_18 x0 x1 x2 x3 h = some (r, h1)) : WA mL_law 51 1595 [(0, vR x0), (1, vR x1), (2, vR x2), (3, vI x3)] [] h (some (vI r), h1) := by
  unfold f_L_law_1595 at hf
  exact (r_aload_n (pc := 1595) dL_law_1595 1 (i := 1) rfl rfl (r_aload_n (pc := 1596) dL_law_1596 0 (i := 0) rfl rfl (r_iload_n (pc := 1597) dL_law_1597 3 (i := 3) rfl rfl (r_iconst (pc := 1598) (v := (iv 1)) dL_law_1598 rfl (r_iadd (pc := 1599) dL_law_1599 (r_sload (pc := 1600) dL_law_1600 hf fun hf => (r_aload_n (pc := 1601) dL_law_1601 0 (i := 0) rfl rfl (r_iload_n (pc := 1602) dL_law_1602 3 (i := 3) rfl rfl (r_iconst (pc := 1603) (v := (iv 2)) dL_law_1603 rfl (r_iadd (pc := 1604) dL_law_1604 (r_sload (pc := 1605) dL_law_1605 hf fun hf => (r_aload_n (pc := 1606) dL_law_1606 0 (i := 0) rfl rfl (r_iload_n (pc := 1607) dL_law_1607 3 (i := 3) rfl rfl (r_iconst (pc := 1608) (v := (iv 3)) dL_law_1608 rfl (r_iadd (pc := 1609) dL_law_1609 (r_sload (pc := 1610) dL_law_1610 hf fun hf => (r_cV (pc := 1611) vI dL_law_1611 (cV_L_160 _ rfl) (Nat.le_of_ble_eq_true rfl) rfl (as := [vI (gI h 2 ((x3 + (iv 1))).toNatClampNeg), vI (gI h 2 ((x3 + (iv 2))).toNatClampNeg), vI (gI h 2 ((x3 + (iv 3))).toNatClampNeg)]) rfl rfl (Nat.le_of_ble_eq_true rfl) hf (fun _ _ z => m_X11_row z) (fun r2 g1 hf => (r_aload_n (pc := 1614) dL_law_1614 2 (i := 2) rfl rfl (r_aload_n (pc := 1615) dL_law_1615 0 (i := 0) rfl rfl (r_iload_n (pc := 1616) dL_law_1616 3 (i := 3) rfl rfl (r_iconst (pc := 1617) (v := (iv 1)) dL_law_1617 rfl (r_iadd (pc := 1618) dL_law_1618 (r_sload (pc := 1619) dL_law_1619 hf fun hf => (r_aload_n (pc := 1620) dL_law_1620 0 (i := 0) rfl rfl (r_iload_n (pc := 1621) dL_law_1621 3 (i := 3) rfl rfl (r_iconst (pc := 1622) (v := (iv 2)) dL_law_1622 rfl (r_iadd (pc := 1623) dL_law_1623 (r_sload (pc := 1624) dL_law_1624 hf fun hf => (r_aload_n (pc := 1625) dL_law_1625 0 (i := 0) rfl rfl (r_iload_n (pc := 1626) dL_law_1626 3 (i := 3) rfl rfl (r_iconst (pc := 1627) (v := (iv 3)) dL_law_1627 rfl (r_iadd (pc := 1628) dL_law_1628 (r_sload (pc := 1629) dL_law_1629 hf fun hf => (r_cV (pc := 1630) vI dL_law_1630 (cV_L_163 _ rfl) (Nat.le_of_ble_eq_true rfl) rfl (as := [vI (gI g1 2 ((x3 + (iv 1))).toNatClampNeg), vI (gI g1 2 ((x3 + (iv 2))).toNatClampNeg), vI (gI g1 2 ((x3 + (iv 3))).toNatClampNeg)]) rfl rfl (Nat.le_of_ble_eq_true rfl) hf (fun _ _ z => m_X12_row z) (fun r4 g3 hf => (r_icmp_eq (pc := 1633) (tgt := 1917) dL_law_1633 (by decide) hf (fun hf => (t_L_law_1917 hk_18 hf)) (fun hf => (r_iconst (pc := 1636) (v := (iv 0)) dL_law_1636 rfl (r_zreturn (pc := 1637) dL_law_1637 rfl hf))))))))))))))))))))))))))))))))))))))))
set_option maxRecDepth 100000 in
set_option maxHeartbeats 4000000 in
theorem t_L_law_1638 {h1 : AH} {r : Int32} {k_18 : Nat → Nat → Nat → Int32 → AH → Option (Int32 × AH)} (hk_18 : ∀ (x0 : Nat) (x1 : Nat) (x2 : Nat) (x3 : Int32) (h : AH), k_18 x0 x1 x2 x3 h = some (r, h1) → WA mL_law 51 18 [(0, vR x0), (1, vR x1), (2, vR x2), (3, vI x3)] [] h (some (vI r), h1)) {x0 : Nat} {x1 : Nat} {x2 : Nat} {x3 : Int32} {h : AH} (hf : f_L_law_1638 k_18 x0 x1 x2 x3 h = some (r, h1)) : WA mL_law 51 1638 [(0, vR x0), (1, vR x1), (2, vR x2), (3, vI x3)] [] h (some (vI r), h1) := by
  unfold f_L_law_1638 at hf
  exact (r_aload_n (pc := 1638) dL_law_1638 1 (i := 1) rfl rfl (r_aload_n (pc := 1639) dL_law_1639 0 (i := 0) rfl rfl (r_iload_n (pc := 1640) dL_law_1640 3 (i := 3) rfl rfl (r_iconst (pc := 1641) (v := (iv 1)) dL_law_1641 rfl (r_iadd (pc := 1642) dL_law_1642 (r_sload (pc := 1643) dL_law_1643 hf fun hf => (r_aload_n (pc := 1644) dL_law_1644 0 (i := 0) rfl rfl (r_iload_n (pc := 1645) dL_law_1645 3 (i := 3) rfl rfl (r_iconst (pc := 1646) (v := (iv 2)) dL_law_1646 rfl (r_iadd (pc := 1647) dL_law_1647 (r_sload (pc := 1648) dL_law_1648 hf fun hf => (r_aload_n (pc := 1649) dL_law_1649 0 (i := 0) rfl rfl (r_iload_n (pc := 1650) dL_law_1650 3 (i := 3) rfl rfl (r_iconst (pc := 1651) (v := (iv 3)) dL_law_1651 rfl (r_iadd (pc := 1652) dL_law_1652 (r_sload (pc := 1653) dL_law_1653 hf fun hf => (r_i2l (pc := 1654) dL_law_1654 (r_bipush (pc := 1655) (v := (iv 32)) dL_law_1655 bi_32 (r_lshl (pc := 1657) dL_law_1657 (r_aload_n (pc := 1658) dL_law_1658 0 (i := 0) rfl rfl (r_iload_n (pc := 1659) dL_law_1659 3 (i := 3) rfl rfl (r_iconst (pc := 1660) (v := (iv 4)) dL_law_1660 rfl (r_iadd (pc := 1661) dL_law_1661 (r_sload (pc := 1662) dL_law_1662 hf fun hf => (r_i2l (pc := 1663) dL_law_1663 (r_ldc2 (pc := 1664) (v := (jv 4294967295)) dL_law_1664 ct_L_36 (r_land (pc := 1667) dL_law_1667 (r_lor (pc := 1668) dL_law_1668 (r_cV (pc := 1669) vI dL_law_1669 (cV_L_164 _ rfl) (Nat.le_of_ble_eq_true rfl) rfl (as := [vI (gI h 2 ((x3 + (iv 1))).toNatClampNeg), vI (gI h 2 ((x3 + (iv 2))).toNatClampNeg), vJ ((x_lshl ((gI h 2 ((x3 + (iv 3))).toNatClampNeg)).toInt64 (iv 32)) ||| (((gI h 2 ((x3 + (iv 4))).toNatClampNeg)).toInt64 &&& (jv 4294967295)))]) rfl rfl (Nat.le_of_ble_eq_true rfl) hf (fun _ _ z => m_X11_put z) (fun r2 g1 hf => (r_aload_n (pc := 1672) dL_law_1672 2 (i := 2) rfl rfl (r_aload_n (pc := 1673) dL_law_1673 0 (i := 0) rfl rfl (r_iload_n (pc := 1674) dL_law_1674 3 (i := 3) rfl rfl (r_iconst (pc := 1675) (v := (iv 1)) dL_law_1675 rfl (r_iadd (pc := 1676) dL_law_1676 (r_sload (pc := 1677) dL_law_1677 hf fun hf => (r_aload_n (pc := 1678) dL_law_1678 0 (i := 0) rfl rfl (r_iload_n (pc := 1679) dL_law_1679 3 (i := 3) rfl rfl (r_iconst (pc := 1680) (v := (iv 2)) dL_law_1680 rfl (r_iadd (pc := 1681) dL_law_1681 (r_sload (pc := 1682) dL_law_1682 hf fun hf => (r_aload_n (pc := 1683) dL_law_1683 0 (i := 0) rfl rfl (r_iload_n (pc := 1684) dL_law_1684 3 (i := 3) rfl rfl (r_iconst (pc := 1685) (v := (iv 3)) dL_law_1685 rfl (r_iadd (pc := 1686) dL_law_1686 (r_sload (pc := 1687) dL_law_1687 hf fun hf => (r_i2l (pc := 1688) dL_law_1688 (r_bipush (pc := 1689) (v := (iv 32)) dL_law_1689 bi_32 (r_lshl (pc := 1691) dL_law_1691 (r_aload_n (pc := 1692) dL_law_1692 0 (i := 0) rfl rfl (r_iload_n (pc := 1693) dL_law_1693 3 (i := 3) rfl rfl (r_iconst (pc := 1694) (v := (iv 4)) dL_law_1694 rfl (r_iadd (pc := 1695) dL_law_1695 (r_sload (pc := 1696) dL_law_1696 hf fun hf => (r_i2l (pc := 1697) dL_law_1697 (r_ldc2 (pc := 1698) (v := (jv 4294967295)) dL_law_1698 ct_L_36 (r_land (pc := 1701) dL_law_1701 (r_lor (pc := 1702) dL_law_1702 (r_cV (pc := 1703) vI dL_law_1703 (cV_L_168 _ rfl) (Nat.le_of_ble_eq_true rfl) rfl (as := [vI (gI g1 2 ((x3 + (iv 1))).toNatClampNeg), vI (gI g1 2 ((x3 + (iv 2))).toNatClampNeg), vJ ((x_lshl ((gI g1 2 ((x3 + (iv 3))).toNatClampNeg)).toInt64 (iv 32)) ||| (((gI g1 2 ((x3 + (iv 4))).toNatClampNeg)).toInt64 &&& (jv 4294967295)))]) rfl rfl (Nat.le_of_ble_eq_true rfl) hf (fun _ _ z => m_X12_put z) (fun r4 g3 hf => (r_icmp_eq (pc := 1706) (tgt := 1917) dL_law_1706 (by decide) hf (fun hf => (t_L_law_1917 hk_18 hf)) (fun hf => (r_iconst (pc := 1709) (v := (iv 0)) dL_law_1709 rfl (r_zreturn (pc := 1710) dL_law_1710 rfl hf))))))))))))))))))))))))))))))))))))))))))))))))))))))))))))))))
set_option maxRecDepth 100000 in
set_option maxHeartbeats 4000000 in
theorem t_L_law_1711 {h1 : AH} {r : Int32} {k_18 : Nat → Nat → Nat → Int32 → AH → Option (Int32 × AH)} (hk_18 : ∀ (x0 : Nat) (x1 : Nat) (x2 : Nat) (x3 : Int32) (h : AH), k_18 x0 x1 x2 x3 h = some (r, h1) → WA mL_law 51 18 [(0, vR x0), (1, vR x1), (2, vR x2), (3, vI x3)] [] h (some (vI r), h1)) {x0 : Nat} {x1 : Nat} {x2 : Nat} {x3 : Int32} {h : AH} (hf : f_L_law_1711 k_18 x0 x1 x2 x3 h = some (r, h1)) : WA mL_law 51 1711 [(0, vR x0), (1, vR x1), (2, vR x2), (3, vI x3)] [] h (some (vI r), h1) := by
  unfold f_L_law_1711 at hf
  exact (r_aload_n (pc := 1711) dL_law_1711 1 (i := 1) rfl rfl (r_aload_n (pc := 1712) dL_law_1712 0 (i := 0) rfl rfl (r_iload_n (pc := 1713) dL_law_1713 3 (i := 3) rfl rfl (r_iconst (pc := 1714) (v := (iv 1)) dL_law_1714 rfl (r_iadd (pc := 1715) dL_law_1715 (r_sload (pc := 1716) dL_law_1716 hf fun hf => (r_aload_n (pc := 1717) dL_law_1717 0 (i := 0) rfl rfl (r_iload_n (pc := 1718) dL_law_1718 3 (i := 3) rfl rfl (r_iconst (pc := 1719) (v := (iv 2)) dL_law_1719 rfl (r_iadd (pc := 1720) dL_law_1720 (r_sload (pc := 1721) dL_law_1721 hf fun hf => (r_cV (pc := 1722) vJ dL_law_1722 (cV_L_169 _ rfl) (Nat.le_of_ble_eq_true rfl) rfl (as := [vI (gI h 2 ((x3 + (iv 1))).toNatClampNeg), vI (gI h 2 ((x3 + (iv 2))).toNatClampNeg)]) rfl rfl (Nat.le_of_ble_eq_true rfl) hf (fun _ _ z => m_X11_element z) (fun r2 g1 hf => (r_aload_n (pc := 1725) dL_law_1725 2 (i := 2) rfl rfl (r_aload_n (pc := 1726) dL_law_1726 0 (i := 0) rfl rfl (r_iload_n (pc := 1727) dL_law_1727 3 (i := 3) rfl rfl (r_iconst (pc := 1728) (v := (iv 1)) dL_law_1728 rfl (r_iadd (pc := 1729) dL_law_1729 (r_sload (pc := 1730) dL_law_1730 hf fun hf => (r_aload_n (pc := 1731) dL_law_1731 0 (i := 0) rfl rfl (r_iload_n (pc := 1732) dL_law_1732 3 (i := 3) rfl rfl (r_iconst (pc := 1733) (v := (iv 2)) dL_law_1733 rfl (r_iadd (pc := 1734) dL_law_1734 (r_sload (pc := 1735) dL_law_1735 hf fun hf => (r_cV (pc := 1736) vJ dL_law_1736 (cV_L_173 _ rfl) (Nat.le_of_ble_eq_true rfl) rfl (as := [vI (gI g1 2 ((x3 + (iv 1))).toNatClampNeg), vI (gI g1 2 ((x3 + (iv 2))).toNatClampNeg)]) rfl rfl (Nat.le_of_ble_eq_true rfl) hf (fun _ _ z => m_X12_element z) (fun r4 g3 hf => (r_lcmp (pc := 1739) dL_law_1739 (r_if_eq (pc := 1740) (tgt := 1917) dL_law_1740 (by decide) hf (fun hf => (t_L_law_1917 hk_18 hf)) (fun hf => (r_iconst (pc := 1743) (v := (iv 0)) dL_law_1743 rfl (r_zreturn (pc := 1744) dL_law_1744 rfl hf)))))))))))))))))))))))))))))))
set_option maxRecDepth 100000 in
set_option maxHeartbeats 4000000 in
theorem t_L_law_1745 {h1 : AH} {r : Int32} {k_18 : Nat → Nat → Nat → Int32 → AH → Option (Int32 × AH)} (hk_18 : ∀ (x0 : Nat) (x1 : Nat) (x2 : Nat) (x3 : Int32) (h : AH), k_18 x0 x1 x2 x3 h = some (r, h1) → WA mL_law 51 18 [(0, vR x0), (1, vR x1), (2, vR x2), (3, vI x3)] [] h (some (vI r), h1)) {x0 : Nat} {x1 : Nat} {x2 : Nat} {x3 : Int32} {h : AH} (hf : f_L_law_1745 k_18 x0 x1 x2 x3 h = some (r, h1)) : WA mL_law 51 1745 [(0, vR x0), (1, vR x1), (2, vR x2), (3, vI x3)] [] h (some (vI r), h1) := by
  unfold f_L_law_1745 at hf
  exact (r_aload_n (pc := 1745) dL_law_1745 1 (i := 1) rfl rfl (r_aload_n (pc := 1746) dL_law_1746 0 (i := 0) rfl rfl (r_iload_n (pc := 1747) dL_law_1747 3 (i := 3) rfl rfl (r_iconst (pc := 1748) (v := (iv 1)) dL_law_1748 rfl (r_iadd (pc := 1749) dL_law_1749 (r_sload (pc := 1750) dL_law_1750 hf fun hf => (r_aload_n (pc := 1751) dL_law_1751 0 (i := 0) rfl rfl (r_iload_n (pc := 1752) dL_law_1752 3 (i := 3) rfl rfl (r_iconst (pc := 1753) (v := (iv 2)) dL_law_1753 rfl (r_iadd (pc := 1754) dL_law_1754 (r_sload (pc := 1755) dL_law_1755 hf fun hf => (r_aload_n (pc := 1756) dL_law_1756 0 (i := 0) rfl rfl (r_iload_n (pc := 1757) dL_law_1757 3 (i := 3) rfl rfl (r_iconst (pc := 1758) (v := (iv 3)) dL_law_1758 rfl (r_iadd (pc := 1759) dL_law_1759 (r_sload (pc := 1760) dL_law_1760 hf fun hf => (r_aload_n (pc := 1761) dL_law_1761 0 (i := 0) rfl rfl (r_iload_n (pc := 1762) dL_law_1762 3 (i := 3) rfl rfl (r_iconst (pc := 1763) (v := (iv 4)) dL_law_1763 rfl (r_iadd (pc := 1764) dL_law_1764 (r_sload (pc := 1765) dL_law_1765 hf fun hf => (r_aload_n (pc := 1766) dL_law_1766 0 (i := 0) rfl rfl (r_iload_n (pc := 1767) dL_law_1767 3 (i := 3) rfl rfl (r_iconst (pc := 1768) (v := (iv 5)) dL_law_1768 rfl (r_iadd (pc := 1769) dL_law_1769 (r_sload (pc := 1770) dL_law_1770 hf fun hf => (r_cV (pc := 1771) vI dL_law_1771 (cV_L_174 _ rfl) (Nat.le_of_ble_eq_true rfl) rfl (as := [vI (gI h 2 ((x3 + (iv 1))).toNatClampNeg), vI (gI h 2 ((x3 + (iv 2))).toNatClampNeg), vI (gI h 2 ((x3 + (iv 3))).toNatClampNeg), vI (gI h 2 ((x3 + (iv 4))).toNatClampNeg), vI (gI h 2 ((x3 + (iv 5))).toNatClampNeg)]) rfl rfl (Nat.le_of_ble_eq_true rfl) hf (fun _ _ z => m_X11_shift z) (fun r2 g1 hf => (r_aload_n (pc := 1774) dL_law_1774 2 (i := 2) rfl rfl (r_aload_n (pc := 1775) dL_law_1775 0 (i := 0) rfl rfl (r_iload_n (pc := 1776) dL_law_1776 3 (i := 3) rfl rfl (r_iconst (pc := 1777) (v := (iv 1)) dL_law_1777 rfl (r_iadd (pc := 1778) dL_law_1778 (r_sload (pc := 1779) dL_law_1779 hf fun hf => (r_aload_n (pc := 1780) dL_law_1780 0 (i := 0) rfl rfl (r_iload_n (pc := 1781) dL_law_1781 3 (i := 3) rfl rfl (r_iconst (pc := 1782) (v := (iv 2)) dL_law_1782 rfl (r_iadd (pc := 1783) dL_law_1783 (r_sload (pc := 1784) dL_law_1784 hf fun hf => (r_aload_n (pc := 1785) dL_law_1785 0 (i := 0) rfl rfl (r_iload_n (pc := 1786) dL_law_1786 3 (i := 3) rfl rfl (r_iconst (pc := 1787) (v := (iv 3)) dL_law_1787 rfl (r_iadd (pc := 1788) dL_law_1788 (r_sload (pc := 1789) dL_law_1789 hf fun hf => (r_aload_n (pc := 1790) dL_law_1790 0 (i := 0) rfl rfl (r_iload_n (pc := 1791) dL_law_1791 3 (i := 3) rfl rfl (r_iconst (pc := 1792) (v := (iv 4)) dL_law_1792 rfl (r_iadd (pc := 1793) dL_law_1793 (r_sload (pc := 1794) dL_law_1794 hf fun hf => (r_aload_n (pc := 1795) dL_law_1795 0 (i := 0) rfl rfl (r_iload_n (pc := 1796) dL_law_1796 3 (i := 3) rfl rfl (r_iconst (pc := 1797) (v := (iv 5)) dL_law_1797 rfl (r_iadd (pc := 1798) dL_law_1798 (r_sload (pc := 1799) dL_law_1799 hf fun hf => (r_cV (pc := 1800) vI dL_law_1800 (cV_L_177 _ rfl) (Nat.le_of_ble_eq_true rfl) rfl (as := [vI (gI g1 2 ((x3 + (iv 1))).toNatClampNeg), vI (gI g1 2 ((x3 + (iv 2))).toNatClampNeg), vI (gI g1 2 ((x3 + (iv 3))).toNatClampNeg), vI (gI g1 2 ((x3 + (iv 4))).toNatClampNeg), vI (gI g1 2 ((x3 + (iv 5))).toNatClampNeg)]) rfl rfl (Nat.le_of_ble_eq_true rfl) hf (fun _ _ z => m_X12_shift z) (fun r4 g3 hf => (r_icmp_eq (pc := 1803) (tgt := 1917) dL_law_1803 (by decide) hf (fun hf => (t_L_law_1917 hk_18 hf)) (fun hf => (r_iconst (pc := 1806) (v := (iv 0)) dL_law_1806 rfl (r_zreturn (pc := 1807) dL_law_1807 rfl hf))))))))))))))))))))))))))))))))))))))))))))))))))))))))))))
set_option maxRecDepth 100000 in
set_option maxHeartbeats 4000000 in
theorem t_L_law_1808 {h1 : AH} {r : Int32} {k_18 : Nat → Nat → Nat → Int32 → AH → Option (Int32 × AH)} (hk_18 : ∀ (x0 : Nat) (x1 : Nat) (x2 : Nat) (x3 : Int32) (h : AH), k_18 x0 x1 x2 x3 h = some (r, h1) → WA mL_law 51 18 [(0, vR x0), (1, vR x1), (2, vR x2), (3, vI x3)] [] h (some (vI r), h1)) {x0 : Nat} {x1 : Nat} {x2 : Nat} {x3 : Int32} {h : AH} (hf : f_L_law_1808 k_18 x0 x1 x2 x3 h = some (r, h1)) : WA mL_law 51 1808 [(0, vR x0), (1, vR x1), (2, vR x2), (3, vI x3)] [] h (some (vI r), h1) := by
  unfold f_L_law_1808 at hf
  exact (r_aload_n (pc := 1808) dL_law_1808 1 (i := 1) rfl rfl (r_aload_n (pc := 1809) dL_law_1809 0 (i := 0) rfl rfl (r_iload_n (pc := 1810) dL_law_1810 3 (i := 3) rfl rfl (r_iconst (pc := 1811) (v := (iv 1)) dL_law_1811 rfl (r_iadd (pc := 1812) dL_law_1812 (r_sload (pc := 1813) dL_law_1813 hf fun hf => (r_aload_n (pc := 1814) dL_law_1814 0 (i := 0) rfl rfl (r_iload_n (pc := 1815) dL_law_1815 3 (i := 3) rfl rfl (r_iconst (pc := 1816) (v := (iv 2)) dL_law_1816 rfl (r_iadd (pc := 1817) dL_law_1817 (r_sload (pc := 1818) dL_law_1818 hf fun hf => (r_cV (pc := 1819) vI dL_law_1819 (cV_L_178 _ rfl) (Nat.le_of_ble_eq_true rfl) rfl (as := [vI (gI h 2 ((x3 + (iv 1))).toNatClampNeg), vI (gI h 2 ((x3 + (iv 2))).toNatClampNeg)]) rfl rfl (Nat.le_of_ble_eq_true rfl) hf (fun _ _ z => m_X11_taken z) (fun r2 g1 hf => (r_aload_n (pc := 1822) dL_law_1822 2 (i := 2) rfl rfl (r_aload_n (pc := 1823) dL_law_1823 0 (i := 0) rfl rfl (r_iload_n (pc := 1824) dL_law_1824 3 (i := 3) rfl rfl (r_iconst (pc := 1825) (v := (iv 1)) dL_law_1825 rfl (r_iadd (pc := 1826) dL_law_1826 (r_sload (pc := 1827) dL_law_1827 hf fun hf => (r_aload_n (pc := 1828) dL_law_1828 0 (i := 0) rfl rfl (r_iload_n (pc := 1829) dL_law_1829 3 (i := 3) rfl rfl (r_iconst (pc := 1830) (v := (iv 2)) dL_law_1830 rfl (r_iadd (pc := 1831) dL_law_1831 (r_sload (pc := 1832) dL_law_1832 hf fun hf => (r_cV (pc := 1833) vI dL_law_1833 (cV_L_181 _ rfl) (Nat.le_of_ble_eq_true rfl) rfl (as := [vI (gI g1 2 ((x3 + (iv 1))).toNatClampNeg), vI (gI g1 2 ((x3 + (iv 2))).toNatClampNeg)]) rfl rfl (Nat.le_of_ble_eq_true rfl) hf (fun _ _ z => m_X12_taken z) (fun r4 g3 hf => (r_icmp_eq (pc := 1836) (tgt := 1917) dL_law_1836 (by decide) hf (fun hf => (t_L_law_1917 hk_18 hf)) (fun hf => (r_iconst (pc := 1839) (v := (iv 0)) dL_law_1839 rfl (r_zreturn (pc := 1840) dL_law_1840 rfl hf))))))))))))))))))))))))))))))
set_option maxRecDepth 100000 in
set_option maxHeartbeats 4000000 in
theorem t_L_law_1841 {h1 : AH} {r : Int32} {k_18 : Nat → Nat → Nat → Int32 → AH → Option (Int32 × AH)} (hk_18 : ∀ (x0 : Nat) (x1 : Nat) (x2 : Nat) (x3 : Int32) (h : AH), k_18 x0 x1 x2 x3 h = some (r, h1) → WA mL_law 51 18 [(0, vR x0), (1, vR x1), (2, vR x2), (3, vI x3)] [] h (some (vI r), h1)) {x0 : Nat} {x1 : Nat} {x2 : Nat} {x3 : Int32} {h : AH} (hf : f_L_law_1841 k_18 x0 x1 x2 x3 h = some (r, h1)) : WA mL_law 51 1841 [(0, vR x0), (1, vR x1), (2, vR x2), (3, vI x3)] [] h (some (vI r), h1) := by
  unfold f_L_law_1841 at hf
  exact (r_aload_n (pc := 1841) dL_law_1841 1 (i := 1) rfl rfl (r_aload_n (pc := 1842) dL_law_1842 0 (i := 0) rfl rfl (r_iload_n (pc := 1843) dL_law_1843 3 (i := 3) rfl rfl (r_iconst (pc := 1844) (v := (iv 1)) dL_law_1844 rfl (r_iadd (pc := 1845) dL_law_1845 (r_sload (pc := 1846) dL_law_1846 hf fun hf => (r_aload_n (pc := 1847) dL_law_1847 0 (i := 0) rfl rfl (r_iload_n (pc := 1848) dL_law_1848 3 (i := 3) rfl rfl (r_iconst (pc := 1849) (v := (iv 2)) dL_law_1849 rfl (r_iadd (pc := 1850) dL_law_1850 (r_sload (pc := 1851) dL_law_1851 hf fun hf => (r_aload_n (pc := 1852) dL_law_1852 0 (i := 0) rfl rfl (r_iload_n (pc := 1853) dL_law_1853 3 (i := 3) rfl rfl (r_iconst (pc := 1854) (v := (iv 3)) dL_law_1854 rfl (r_iadd (pc := 1855) dL_law_1855 (r_sload (pc := 1856) dL_law_1856 hf fun hf => (r_aload_n (pc := 1857) dL_law_1857 0 (i := 0) rfl rfl (r_iload_n (pc := 1858) dL_law_1858 3 (i := 3) rfl rfl (r_iconst (pc := 1859) (v := (iv 4)) dL_law_1859 rfl (r_iadd (pc := 1860) dL_law_1860 (r_sload (pc := 1861) dL_law_1861 hf fun hf => (r_cV (pc := 1862) vI dL_law_1862 (cV_L_182 _ rfl) (Nat.le_of_ble_eq_true rfl) rfl (as := [vI (gI h 2 ((x3 + (iv 1))).toNatClampNeg), vI (gI h 2 ((x3 + (iv 2))).toNatClampNeg), vI (gI h 2 ((x3 + (iv 3))).toNatClampNeg), vI (gI h 2 ((x3 + (iv 4))).toNatClampNeg)]) rfl rfl (Nat.le_of_ble_eq_true rfl) hf (fun _ _ z => m_X11_boxes z) (fun r2 g1 hf => (r_aload_n (pc := 1865) dL_law_1865 2 (i := 2) rfl rfl (r_aload_n (pc := 1866) dL_law_1866 0 (i := 0) rfl rfl (r_iload_n (pc := 1867) dL_law_1867 3 (i := 3) rfl rfl (r_iconst (pc := 1868) (v := (iv 1)) dL_law_1868 rfl (r_iadd (pc := 1869) dL_law_1869 (r_sload (pc := 1870) dL_law_1870 hf fun hf => (r_aload_n (pc := 1871) dL_law_1871 0 (i := 0) rfl rfl (r_iload_n (pc := 1872) dL_law_1872 3 (i := 3) rfl rfl (r_iconst (pc := 1873) (v := (iv 2)) dL_law_1873 rfl (r_iadd (pc := 1874) dL_law_1874 (r_sload (pc := 1875) dL_law_1875 hf fun hf => (r_aload_n (pc := 1876) dL_law_1876 0 (i := 0) rfl rfl (r_iload_n (pc := 1877) dL_law_1877 3 (i := 3) rfl rfl (r_iconst (pc := 1878) (v := (iv 3)) dL_law_1878 rfl (r_iadd (pc := 1879) dL_law_1879 (r_sload (pc := 1880) dL_law_1880 hf fun hf => (r_aload_n (pc := 1881) dL_law_1881 0 (i := 0) rfl rfl (r_iload_n (pc := 1882) dL_law_1882 3 (i := 3) rfl rfl (r_iconst (pc := 1883) (v := (iv 4)) dL_law_1883 rfl (r_iadd (pc := 1884) dL_law_1884 (r_sload (pc := 1885) dL_law_1885 hf fun hf => (r_cV (pc := 1886) vI dL_law_1886 (cV_L_185 _ rfl) (Nat.le_of_ble_eq_true rfl) rfl (as := [vI (gI g1 2 ((x3 + (iv 1))).toNatClampNeg), vI (gI g1 2 ((x3 + (iv 2))).toNatClampNeg), vI (gI g1 2 ((x3 + (iv 3))).toNatClampNeg), vI (gI g1 2 ((x3 + (iv 4))).toNatClampNeg)]) rfl rfl (Nat.le_of_ble_eq_true rfl) hf (fun _ _ z => m_X12_boxes z) (fun r4 g3 hf => (r_icmp_eq (pc := 1889) (tgt := 1917) dL_law_1889 (by decide) hf (fun hf => (t_L_law_1917 hk_18 hf)) (fun hf => (r_iconst (pc := 1892) (v := (iv 0)) dL_law_1892 rfl (r_zreturn (pc := 1893) dL_law_1893 rfl hf))))))))))))))))))))))))))))))))))))))))))))))))))
set_option maxRecDepth 100000 in
set_option maxHeartbeats 4000000 in
theorem t_L_law_1894 {h1 : AH} {r : Int32} {k_18 : Nat → Nat → Nat → Int32 → AH → Option (Int32 × AH)} (hk_18 : ∀ (x0 : Nat) (x1 : Nat) (x2 : Nat) (x3 : Int32) (h : AH), k_18 x0 x1 x2 x3 h = some (r, h1) → WA mL_law 51 18 [(0, vR x0), (1, vR x1), (2, vR x2), (3, vI x3)] [] h (some (vI r), h1)) {x0 : Nat} {x1 : Nat} {x2 : Nat} {x3 : Int32} {h : AH} (hf : f_L_law_1894 k_18 x0 x1 x2 x3 h = some (r, h1)) : WA mL_law 51 1894 [(0, vR x0), (1, vR x1), (2, vR x2), (3, vI x3)] [] h (some (vI r), h1) := by
  unfold f_L_law_1894 at hf
  exact (r_aload_n (pc := 1894) dL_law_1894 1 (i := 1) rfl rfl (r_aload_n (pc := 1895) dL_law_1895 0 (i := 0) rfl rfl (r_iload_n (pc := 1896) dL_law_1896 3 (i := 3) rfl rfl (r_iconst (pc := 1897) (v := (iv 1)) dL_law_1897 rfl (r_iadd (pc := 1898) dL_law_1898 (r_sload (pc := 1899) dL_law_1899 hf fun hf => (r_cV (pc := 1900) vI dL_law_1900 (cV_L_186 _ rfl) (Nat.le_of_ble_eq_true rfl) rfl (as := [vI (gI h 2 ((x3 + (iv 1))).toNatClampNeg)]) rfl rfl (Nat.le_of_ble_eq_true rfl) hf (fun _ _ z => m_X11_count z) (fun r2 g1 hf => (r_aload_n (pc := 1903) dL_law_1903 2 (i := 2) rfl rfl (r_aload_n (pc := 1904) dL_law_1904 0 (i := 0) rfl rfl (r_iload_n (pc := 1905) dL_law_1905 3 (i := 3) rfl rfl (r_iconst (pc := 1906) (v := (iv 1)) dL_law_1906 rfl (r_iadd (pc := 1907) dL_law_1907 (r_sload (pc := 1908) dL_law_1908 hf fun hf => (r_cV (pc := 1909) vI dL_law_1909 (cV_L_189 _ rfl) (Nat.le_of_ble_eq_true rfl) rfl (as := [vI (gI g1 2 ((x3 + (iv 1))).toNatClampNeg)]) rfl rfl (Nat.le_of_ble_eq_true rfl) hf (fun _ _ z => m_X12_count z) (fun r4 g3 hf => (r_icmp_eq (pc := 1912) (tgt := 1917) dL_law_1912 (by decide) hf (fun hf => (t_L_law_1917 hk_18 hf)) (fun hf => (r_iconst (pc := 1915) (v := (iv 0)) dL_law_1915 rfl (r_zreturn (pc := 1916) dL_law_1916 rfl hf))))))))))))))))))))
set_option maxRecDepth 100000 in
set_option maxHeartbeats 4000000 in
theorem v_L_law_18 {h1 : AH} {r : Int32} {self : Nat → Nat → Nat → Int32 → AH → Option (Int32 × AH)} (hself : ∀ (x0 : Nat) (x1 : Nat) (x2 : Nat) (x3 : Int32) (h : AH), self x0 x1 x2 x3 h = some (r, h1) → WA mL_law 51 18 [(0, vR x0), (1, vR x1), (2, vR x2), (3, vI x3)] [] h (some (vI r), h1)) {x0 : Nat} {x1 : Nat} {x2 : Nat} {x3 : Int32} {h : AH} (hf : b_L_law_18 self x0 x1 x2 x3 h = some (r, h1)) : WA mL_law 51 18 [(0, vR x0), (1, vR x1), (2, vR x2), (3, vI x3)] [] h (some (vI r), h1) := by
  unfold b_L_law_18 at hf
  exact (r_iload_n (pc := 18) dL_law_18 3 (i := 3) rfl rfl (r_aload_n (pc := 19) dL_law_19 0 (i := 0) rfl rfl (r_slen (pc := 20) dL_law_20 hf fun hf => (r_bipush (pc := 21) (v := (iv 6)) dL_law_21 bi_6 (r_isub (pc := 23) dL_law_23 (r_icmp_gt (pc := 24) (tgt := 1923) dL_law_24 (by decide) hf (fun hf => (r_iconst (pc := 1923) (v := (iv 1)) dL_law_1923 rfl (r_zreturn (pc := 1924) dL_law_1924 rfl hf))) (fun hf => (r_aload_n (pc := 27) dL_law_27 0 (i := 0) rfl rfl (r_iload_n (pc := 28) dL_law_28 3 (i := 3) rfl rfl (r_sload (pc := 29) dL_law_29 hf fun hf => (r_bipush (pc := 30) (v := (iv 63)) dL_law_30 bi_63 (r_iand (pc := 32) dL_law_32 (r_case hf (fun hx hf => (r_tabIn (pc := 33) (tgt := 212) dL_law_33 hx (by decide) (by decide) (off := 179) (by decide) (by decide) (t_L_law_212 hself hf))) (fun n0 hf => (r_case hf (fun hx hf => (r_tabIn (pc := 33) (tgt := 245) dL_law_33 hx (by decide) (by decide) (off := 212) (by decide) (by decide) (t_L_law_245 hself hf))) (fun n1 hf => (r_case hf (fun hx hf => (r_tabIn (pc := 33) (tgt := 258) dL_law_33 hx (by decide) (by decide) (off := 225) (by decide) (by decide) (t_L_law_258 hself hf))) (fun n2 hf => (r_case hf (fun hx hf => (r_tabIn (pc := 33) (tgt := 291) dL_law_33 hx (by decide) (by decide) (off := 258) (by decide) (by decide) (t_L_law_291 hself hf))) (fun n3 hf => (r_case hf (fun hx hf => (r_tabIn (pc := 33) (tgt := 324) dL_law_33 hx (by decide) (by decide) (off := 291) (by decide) (by decide) (t_L_law_324 hself hf))) (fun n4 hf => (r_case hf (fun hx hf => (r_tabIn (pc := 33) (tgt := 348) dL_law_33 hx (by decide) (by decide) (off := 315) (by decide) (by decide) (t_L_law_348 hself hf))) (fun n5 hf => (r_case hf (fun hx hf => (r_tabIn (pc := 33) (tgt := 421) dL_law_33 hx (by decide) (by decide) (off := 388) (by decide) (by decide) (t_L_law_421 hself hf))) (fun n6 hf => (r_case hf (fun hx hf => (r_tabIn (pc := 33) (tgt := 494) dL_law_33 hx (by decide) (by decide) (off := 461) (by decide) (by decide) (t_L_law_494 hself hf))) (fun n7 hf => (r_case hf (fun hx hf => (r_tabIn (pc := 33) (tgt := 537) dL_law_33 hx (by decide) (by decide) (off := 504) (by decide) (by decide) (t_L_law_537 hself hf))) (fun n8 hf => (r_case hf (fun hx hf => (r_tabIn (pc := 33) (tgt := 580) dL_law_33 hx (by decide) (by decide) (off := 547) (by decide) (by decide) (t_L_law_580 hself hf))) (fun n9 hf => (r_case hf (fun hx hf => (r_tabIn (pc := 33) (tgt := 623) dL_law_33 hx (by decide) (by decide) (off := 590) (by decide) (by decide) (t_L_law_623 hself hf))) (fun n10 hf => (r_case hf (fun hx hf => (r_tabIn (pc := 33) (tgt := 666) dL_law_33 hx (by decide) (by decide) (off := 633) (by decide) (by decide) (t_L_law_666 hself hf))) (fun n11 hf => (r_case hf (fun hx hf => (r_tabIn (pc := 33) (tgt := 699) dL_law_33 hx (by decide) (by decide) (off := 666) (by decide) (by decide) (t_L_law_699 hself hf))) (fun n12 hf => (r_case hf (fun hx hf => (r_tabIn (pc := 33) (tgt := 732) dL_law_33 hx (by decide) (by decide) (off := 699) (by decide) (by decide) (t_L_law_732 hself hf))) (fun n13 hf => (r_case hf (fun hx hf => (r_tabIn (pc := 33) (tgt := 775) dL_law_33 hx (by decide) (by decide) (off := 742) (by decide) (by decide) (t_L_law_775 hself hf))) (fun n14 hf => (r_case hf (fun hx hf => (r_tabIn (pc := 33) (tgt := 838) dL_law_33 hx (by decide) (by decide) (off := 805) (by decide) (by decide) (t_L_law_838 hself hf))) (fun n15 hf => (r_case hf (fun hx hf => (r_tabIn (pc := 33) (tgt := 891) dL_law_33 hx (by decide) (by decide) (off := 858) (by decide) (by decide) (t_L_law_891 hself hf))) (fun n16 hf => (r_case hf (fun hx hf => (r_tabIn (pc := 33) (tgt := 924) dL_law_33 hx (by decide) (by decide) (off := 891) (by decide) (by decide) (t_L_law_924 hself hf))) (fun n17 hf => (r_case hf (fun hx hf => (r_tabIn (pc := 33) (tgt := 977) dL_law_33 hx (by decide) (by decide) (off := 944) (by decide) (by decide) (t_L_law_977 hself hf))) (fun n18 hf => (r_case hf (fun hx hf => (r_tabIn (pc := 33) (tgt := 1030) dL_law_33 hx (by decide) (by decide) (off := 997) (by decide) (by decide) (t_L_law_1030 hself hf))) (fun n19 hf => (r_case hf (fun hx hf => (r_tabIn (pc := 33) (tgt := 1063) dL_law_33 hx (by decide) (by decide) (off := 1030) (by decide) (by decide) (t_L_law_1063 hself hf))) (fun n20 hf => (r_case hf (fun hx hf => (r_tabIn (pc := 33) (tgt := 1096) dL_law_33 hx (by decide) (by decide) (off := 1063) (by decide) (by decide) (t_L_law_1096 hself hf))) (fun n21 hf => (r_case hf (fun hx hf => (r_tabIn (pc := 33) (tgt := 1159) dL_law_33 hx (by decide) (by decide) (off := 1126) (by decide) (by decide) (t_L_law_1159 hself hf))) (fun n22 hf => (r_case hf (fun hx hf => (r_tabIn (pc := 33) (tgt := 1202) dL_law_33 hx (by decide) (by decide) (off := 1169) (by decide) (by decide) (t_L_law_1202 hself hf))) (fun n23 hf => (r_case hf (fun hx hf => (r_tabIn (pc := 33) (tgt := 1235) dL_law_33 hx (by decide) (by decide) (off := 1202) (by decide) (by decide) (t_L_law_1235 hself hf))) (fun n24 hf => (r_case hf (fun hx hf => (r_tabIn (pc := 33) (tgt := 1268) dL_law_33 hx (by decide) (by decide) (off := 1235) (by decide) (by decide) (t_L_law_1268 hself hf))) (fun n25 hf => (r_case hf (fun hx hf => (r_tabIn (pc := 33) (tgt := 1321) dL_law_33 hx (by decide) (by decide) (off := 1288) (by decide) (by decide) (t_L_law_1321 hself hf))) (fun n26 hf => (r_case hf (fun hx hf => (r_tabIn (pc := 33) (tgt := 1364) dL_law_33 hx (by decide) (by decide) (off := 1331) (by decide) (by decide) (t_L_law_1364 hself hf))) (fun n27 hf => (r_case hf (fun hx hf => (r_tabIn (pc := 33) (tgt := 1397) dL_law_33 hx (by decide) (by decide) (off := 1364) (by decide) (by decide) (t_L_law_1397 hself hf))) (fun n28 hf => (r_case hf (fun hx hf => (r_tabIn (pc := 33) (tgt := 1430) dL_law_33 hx (by decide) (by decide) (off := 1397) (by decide) (by decide) (t_L_law_1430 hself hf))) (fun n29 hf => (r_case hf (fun hx hf => (r_tabIn (pc := 33) (tgt := 1473) dL_law_33 hx (by decide) (by decide) (off := 1440) (by decide) (by decide) (t_L_law_1473 hself hf))) (fun n30 hf => (r_case hf (fun hx hf => (r_tabIn (pc := 33) (tgt := 1496) dL_law_33 hx (by decide) (by decide) (off := 1463) (by decide) (by decide) (t_L_law_1496 hself hf))) (fun n31 hf => (r_case hf (fun hx hf => (r_tabIn (pc := 33) (tgt := 1539) dL_law_33 hx (by decide) (by decide) (off := 1506) (by decide) (by decide) (t_L_law_1539 hself hf))) (fun n32 hf => (r_case hf (fun hx hf => (r_tabIn (pc := 33) (tgt := 1562) dL_law_33 hx (by decide) (by decide) (off := 1529) (by decide) (by decide) (t_L_law_1562 hself hf))) (fun n33 hf => (r_case hf (fun hx hf => (r_tabIn (pc := 33) (tgt := 1595) dL_law_33 hx (by decide) (by decide) (off := 1562) (by decide) (by decide) (t_L_law_1595 hself hf))) (fun n34 hf => (r_case hf (fun hx hf => (r_tabIn (pc := 33) (tgt := 1638) dL_law_33 hx (by decide) (by decide) (off := 1605) (by decide) (by decide) (t_L_law_1638 hself hf))) (fun n35 hf => (r_case hf (fun hx hf => (r_tabIn (pc := 33) (tgt := 1711) dL_law_33 hx (by decide) (by decide) (off := 1678) (by decide) (by decide) (t_L_law_1711 hself hf))) (fun n36 hf => (r_case hf (fun hx hf => (r_tabIn (pc := 33) (tgt := 1745) dL_law_33 hx (by decide) (by decide) (off := 1712) (by decide) (by decide) (t_L_law_1745 hself hf))) (fun n37 hf => (r_case hf (fun hx hf => (r_tabIn (pc := 33) (tgt := 1808) dL_law_33 hx (by decide) (by decide) (off := 1775) (by decide) (by decide) (t_L_law_1808 hself hf))) (fun n38 hf => (r_case hf (fun hx hf => (r_tabIn (pc := 33) (tgt := 1841) dL_law_33 hx (by decide) (by decide) (off := 1808) (by decide) (by decide) (t_L_law_1841 hself hf))) (fun n39 hf => (r_case hf (fun hx hf => (r_tabIn (pc := 33) (tgt := 1894) dL_law_33 hx (by decide) (by decide) (off := 1861) (by decide) (by decide) (t_L_law_1894 hself hf))) (fun n40 hf => (r_tabOut (pc := 33) (tgt := 1917) dL_law_33 (tswOut41 n0 n1 n2 n3 n4 n5 n6 n7 n8 n9 n10 n11 n12 n13 n14 n15 n16 n17 n18 n19 n20 n21 n22 n23 n24 n25 n26 n27 n28 n29 n30 n31 n32 n33 n34 n35 n36 n37 n38 n39 n40) (by decide) (t_L_law_1917 hself hf))))))))))))))))))))))))))))))))))))))))))))))))))))))))))))))))))))))))))))))))))))))))))))))))
theorem u_L_law_18 {h1 : AH} {r : Int32} : ∀ (n0 : Nat) (x0 : Nat) (x1 : Nat) (x2 : Nat) (x3 : Int32) (h : AH), lp (b_L_law_18 ) (fun _ _ _ _ _ => none) n0 x0 x1 x2 x3 h = some (r, h1) → WA mL_law 51 18 [(0, vR x0), (1, vR x1), (2, vR x2), (3, vI x3)] [] h (some (vI r), h1) := by
  intro n0
  induction n0 with
  | zero => intro x0 x1 x2 x3 h hf; have hf : (none : Option (Int32 × AH)) = some (r, h1) := hf; cases hf
  | succ n0 ih => intro x0 x1 x2 x3 h hf; exact v_L_law_18 ih hf
theorem t_L_law_18 {h1 : AH} {r : Int32} {x0 : Nat} {x1 : Nat} {x2 : Nat} {x3 : Int32} {h : AH} (hf : f_L_law_18 x0 x1 x2 x3 h = some (r, h1)) : WA mL_law 51 18 [(0, vR x0), (1, vR x1), (2, vR x2), (3, vI x3)] [] h (some (vI r), h1) := u_L_law_18 FU x0 x1 x2 x3 h hf
set_option maxRecDepth 100000 in
set_option maxHeartbeats 4000000 in
theorem e_L_law {h1 : AH} {r : Int32} {x0 : Nat} {h : AH} (hf : f_L_law x0 h = some (r, h1)) : WA mL_law 51 0 [(0, vR x0)] [] h (some (vI r), h1) := by
  unfold f_L_law at hf
  exact (r_new (pc := 0) dL_law_0 (c := 11) rfl rfl rfl nw_L_7.1 nw_L_7.2.1 nw_L_7.2.2 hf fun a1 g2 hf => (r_dup (pc := 3) dL_law_3 rfl (r_cI (pc := 4) dL_law_4 (cI_L_9 _ rfl) (Nat.le_of_ble_eq_true rfl) (as := []) rfl rfl (Nat.le_of_ble_eq_true rfl) hf (fun _ z => m_X11_init z) (fun g3 hf => (r_astore_n (pc := 7) (i := 1) dL_law_7 rfl (by decide) (ls' := [(0, vR x0)]) rfl hf fun w4 hf => (r_new (pc := 8) dL_law_8 (c := 12) rfl rfl rfl nw_L_10.1 nw_L_10.2.1 nw_L_10.2.2 hf fun a5 g6 hf => (r_dup (pc := 11) dL_law_11 rfl (r_cI (pc := 12) dL_law_12 (cI_L_12 _ rfl) (Nat.le_of_ble_eq_true rfl) (as := []) rfl rfl (Nat.le_of_ble_eq_true rfl) hf (fun _ z => m_X12_init z) (fun g7 hf => (r_astore_n (pc := 15) (i := 2) dL_law_15 rfl (by decide) (ls' := [(1, vR w4), (0, vR x0)]) rfl hf fun w8 hf => (r_iconst (pc := 16) (v := (iv 0)) dL_law_16 rfl (r_istore_n (pc := 17) (i := 3) dL_law_17 rfl (by decide) (ls' := [(2, vR w8), (1, vR w4), (0, vR x0)]) rfl hf fun w9 hf => (r_sub [3, 2, 1, 0] rfl (t_L_law_18 hf))))))))))))))
