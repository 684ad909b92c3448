/-! What each instruction is. -/
theorem jd_La_law_248 : decode jq_La_law.2.1 248 = .ok (.aload_n 0, 1) := by decide +kernel
theorem jd_La_law_249 : decode jq_La_law.2.1 249 = .ok (.iload_n 3, 1) := by decide +kernel
theorem jd_La_law_250 : decode jq_La_law.2.1 250 = .ok (.iconst 2, 1) := by decide +kernel
theorem jd_La_law_251 : decode jq_La_law.2.1 251 = .ok (.iadd, 1) := by decide +kernel
theorem jd_La_law_252 : decode jq_La_law.2.1 252 = .ok (.iaload, 1) := by decide +kernel
theorem jd_La_law_253 : decode jq_La_law.2.1 253 = .ok (.aload_n 0, 1) := by decide +kernel
theorem jd_La_law_254 : decode jq_La_law.2.1 254 = .ok (.iload_n 3, 1) := by decide +kernel
theorem jd_La_law_255 : decode jq_La_law.2.1 255 = .ok (.iconst 3, 1) := by decide +kernel
theorem jd_La_law_256 : decode jq_La_law.2.1 256 = .ok (.iadd, 1) := by decide +kernel
theorem jd_La_law_257 : decode jq_La_law.2.1 257 = .ok (.iaload, 1) := by decide +kernel
theorem jd_La_law_258 : decode jq_La_law.2.1 258 = .ok (.aload_n 0, 1) := by decide +kernel
theorem jd_La_law_259 : decode jq_La_law.2.1 259 = .ok (.iload_n 3, 1) := by decide +kernel
theorem jd_La_law_260 : decode jq_La_law.2.1 260 = .ok (.iconst 4, 1) := by decide +kernel
theorem jd_La_law_261 : decode jq_La_law.2.1 261 = .ok (.iadd, 1) := by decide +kernel
theorem jd_La_law_262 : decode jq_La_law.2.1 262 = .ok (.iaload, 1) := by decide +kernel
theorem jd_La_law_263 : decode jq_La_law.2.1 263 = .ok (.invokevirtual 35, 3) := by decide +kernel
theorem jd_La_law_266 : decode jq_La_law.2.1 266 = .ok (.if_icmp .eq 455, 3) := by decide +kernel
theorem jd_La_law_269 : decode jq_La_law.2.1 269 = .ok (.iconst 0, 1) := by decide +kernel
theorem jd_La_law_270 : decode jq_La_law.2.1 270 = .ok (.ireturn, 1) := by decide +kernel
theorem jd_La_law_271 : decode jq_La_law.2.1 271 = .ok (.aload_n 1, 1) := by decide +kernel
theorem jd_La_law_272 : decode jq_La_law.2.1 272 = .ok (.aload_n 0, 1) := by decide +kernel
theorem jd_La_law_273 : decode jq_La_law.2.1 273 = .ok (.iload_n 3, 1) := by decide +kernel
theorem jd_La_law_274 : decode jq_La_law.2.1 274 = .ok (.iconst 1, 1) := by decide +kernel
theorem jd_La_law_275 : decode jq_La_law.2.1 275 = .ok (.iadd, 1) := by decide +kernel
theorem jd_La_law_276 : decode jq_La_law.2.1 276 = .ok (.iaload, 1) := by decide +kernel
theorem jd_La_law_277 : decode jq_La_law.2.1 277 = .ok (.aload_n 0, 1) := by decide +kernel
theorem jd_La_law_278 : decode jq_La_law.2.1 278 = .ok (.iload_n 3, 1) := by decide +kernel
theorem jd_La_law_279 : decode jq_La_law.2.1 279 = .ok (.iconst 2, 1) := by decide +kernel
theorem jd_La_law_280 : decode jq_La_law.2.1 280 = .ok (.iadd, 1) := by decide +kernel
theorem jd_La_law_281 : decode jq_La_law.2.1 281 = .ok (.iaload, 1) := by decide +kernel
theorem jd_La_law_282 : decode jq_La_law.2.1 282 = .ok (.aload_n 0, 1) := by decide +kernel
theorem jd_La_law_283 : decode jq_La_law.2.1 283 = .ok (.iload_n 3, 1) := by decide +kernel
theorem jd_La_law_284 : decode jq_La_law.2.1 284 = .ok (.iconst 3, 1) := by decide +kernel
theorem jd_La_law_285 : decode jq_La_law.2.1 285 = .ok (.iadd, 1) := by decide +kernel
theorem jd_La_law_286 : decode jq_La_law.2.1 286 = .ok (.iaload, 1) := by decide +kernel
theorem jd_La_law_287 : decode jq_La_law.2.1 287 = .ok (.aload_n 0, 1) := by decide +kernel
theorem jd_La_law_288 : decode jq_La_law.2.1 288 = .ok (.iload_n 3, 1) := by decide +kernel
theorem jd_La_law_289 : decode jq_La_law.2.1 289 = .ok (.iconst 4, 1) := by decide +kernel
theorem jd_La_law_290 : decode jq_La_law.2.1 290 = .ok (.iadd, 1) := by decide +kernel
theorem jd_La_law_291 : decode jq_La_law.2.1 291 = .ok (.iaload, 1) := by decide +kernel
theorem jd_La_law_292 : decode jq_La_law.2.1 292 = .ok (.invokevirtual 36, 3) := by decide +kernel
theorem jd_La_law_295 : decode jq_La_law.2.1 295 = .ok (.aload_n 2, 1) := by decide +kernel
theorem jd_La_law_296 : decode jq_La_law.2.1 296 = .ok (.aload_n 0, 1) := by decide +kernel
theorem jd_La_law_297 : decode jq_La_law.2.1 297 = .ok (.iload_n 3, 1) := by decide +kernel
theorem jd_La_law_298 : decode jq_La_law.2.1 298 = .ok (.iconst 1, 1) := by decide +kernel
theorem jd_La_law_299 : decode jq_La_law.2.1 299 = .ok (.iadd, 1) := by decide +kernel
theorem jd_La_law_300 : decode jq_La_law.2.1 300 = .ok (.iaload, 1) := by decide +kernel
theorem jd_La_law_301 : decode jq_La_law.2.1 301 = .ok (.aload_n 0, 1) := by decide +kernel
theorem jd_La_law_302 : decode jq_La_law.2.1 302 = .ok (.iload_n 3, 1) := by decide +kernel
theorem jd_La_law_303 : decode jq_La_law.2.1 303 = .ok (.iconst 2, 1) := by decide +kernel
theorem jd_La_law_304 : decode jq_La_law.2.1 304 = .ok (.iadd, 1) := by decide +kernel
theorem jd_La_law_305 : decode jq_La_law.2.1 305 = .ok (.iaload, 1) := by decide +kernel
theorem jd_La_law_306 : decode jq_La_law.2.1 306 = .ok (.aload_n 0, 1) := by decide +kernel
theorem jd_La_law_307 : decode jq_La_law.2.1 307 = .ok (.iload_n 3, 1) := by decide +kernel
theorem jd_La_law_308 : decode jq_La_law.2.1 308 = .ok (.iconst 3, 1) := by decide +kernel
theorem jd_La_law_309 : decode jq_La_law.2.1 309 = .ok (.iadd, 1) := by decide +kernel
theorem jd_La_law_310 : decode jq_La_law.2.1 310 = .ok (.iaload, 1) := by decide +kernel
theorem jd_La_law_311 : decode jq_La_law.2.1 311 = .ok (.aload_n 0, 1) := by decide +kernel
theorem jd_La_law_312 : decode jq_La_law.2.1 312 = .ok (.iload_n 3, 1) := by decide +kernel
theorem jd_La_law_313 : decode jq_La_law.2.1 313 = .ok (.iconst 4, 1) := by decide +kernel
theorem jd_La_law_314 : decode jq_La_law.2.1 314 = .ok (.iadd, 1) := by decide +kernel
theorem jd_La_law_315 : decode jq_La_law.2.1 315 = .ok (.iaload, 1) := by decide +kernel
theorem jd_La_law_316 : decode jq_La_law.2.1 316 = .ok (.invokevirtual 39, 3) := by decide +kernel
theorem jd_La_law_319 : decode jq_La_law.2.1 319 = .ok (.if_icmp .eq 402, 3) := by decide +kernel
theorem jd_La_law_322 : decode jq_La_law.2.1 322 = .ok (.iconst 0, 1) := by decide +kernel
theorem jd_La_law_323 : decode jq_La_law.2.1 323 = .ok (.ireturn, 1) := by decide +kernel
theorem jd_La_law_324 : decode jq_La_law.2.1 324 = .ok (.aload_n 1, 1) := by decide +kernel
theorem jd_La_law_325 : decode jq_La_law.2.1 325 = .ok (.aload_n 0, 1) := by decide +kernel
theorem jd_La_law_326 : decode jq_La_law.2.1 326 = .ok (.iload_n 3, 1) := by decide +kernel
theorem jd_La_law_327 : decode jq_La_law.2.1 327 = .ok (.iconst 1, 1) := by decide +kernel
theorem jd_La_law_328 : decode jq_La_law.2.1 328 = .ok (.iadd, 1) := by decide +kernel
theorem jd_La_law_329 : decode jq_La_law.2.1 329 = .ok (.iaload, 1) := by decide +kernel
theorem jd_La_law_330 : decode jq_La_law.2.1 330 = .ok (.invokevirtual 40, 3) := by decide +kernel
theorem jd_La_law_333 : decode jq_La_law.2.1 333 = .ok (.aload_n 2, 1) := by decide +kernel
theorem jd_La_law_334 : decode jq_La_law.2.1 334 = .ok (.aload_n 0, 1) := by decide +kernel
theorem jd_La_law_335 : decode jq_La_law.2.1 335 = .ok (.iload_n 3, 1) := by decide +kernel
theorem jd_La_law_336 : decode jq_La_law.2.1 336 = .ok (.iconst 1, 1) := by decide +kernel
theorem jd_La_law_337 : decode jq_La_law.2.1 337 = .ok (.iadd, 1) := by decide +kernel
theorem jd_La_law_338 : decode jq_La_law.2.1 338 = .ok (.iaload, 1) := by decide +kernel
theorem jd_La_law_339 : decode jq_La_law.2.1 339 = .ok (.invokevirtual 44, 3) := by decide +kernel
theorem jd_La_law_342 : decode jq_La_law.2.1 342 = .ok (.if_icmp .eq 379, 3) := by decide +kernel
theorem jd_La_law_345 : decode jq_La_law.2.1 345 = .ok (.iconst 0, 1) := by decide +kernel
theorem jd_La_law_346 : decode jq_La_law.2.1 346 = .ok (.ireturn, 1) := by decide +kernel
theorem jd_La_law_347 : decode jq_La_law.2.1 347 = .ok (.aload_n 1, 1) := by decide +kernel
theorem jd_La_law_348 : decode jq_La_law.2.1 348 = .ok (.aload_n 0, 1) := by decide +kernel
theorem jd_La_law_349 : decode jq_La_law.2.1 349 = .ok (.iload_n 3, 1) := by decide +kernel
theorem jd_La_law_350 : decode jq_La_law.2.1 350 = .ok (.iconst 1, 1) := by decide +kernel
theorem jd_La_law_351 : decode jq_La_law.2.1 351 = .ok (.iadd, 1) := by decide +kernel
theorem jd_La_law_352 : decode jq_La_law.2.1 352 = .ok (.iaload, 1) := by decide +kernel
theorem jd_La_law_353 : decode jq_La_law.2.1 353 = .ok (.invokevirtual 45, 3) := by decide +kernel
theorem jd_La_law_356 : decode jq_La_law.2.1 356 = .ok (.aload_n 2, 1) := by decide +kernel
theorem jd_La_law_357 : decode jq_La_law.2.1 357 = .ok (.aload_n 0, 1) := by decide +kernel
theorem jd_La_law_358 : decode jq_La_law.2.1 358 = .ok (.iload_n 3, 1) := by decide +kernel
theorem jd_La_law_359 : decode jq_La_law.2.1 359 = .ok (.iconst 1, 1) := by decide +kernel
theorem jd_La_law_360 : decode jq_La_law.2.1 360 = .ok (.iadd, 1) := by decide +kernel
theorem jd_La_law_361 : decode jq_La_law.2.1 361 = .ok (.iaload, 1) := by decide +kernel
theorem jd_La_law_362 : decode jq_La_law.2.1 362 = .ok (.invokevirtual 48, 3) := by decide +kernel
theorem jd_La_law_365 : decode jq_La_law.2.1 365 = .ok (.if_icmp .eq 356, 3) := by decide +kernel
theorem jd_La_law_368 : decode jq_La_law.2.1 368 = .ok (.iconst 0, 1) := by decide +kernel
theorem jd_La_law_369 : decode jq_La_law.2.1 369 = .ok (.ireturn, 1) := by decide +kernel
theorem jd_La_law_370 : decode jq_La_law.2.1 370 = .ok (.aload_n 1, 1) := by decide +kernel
theorem jd_La_law_371 : decode jq_La_law.2.1 371 = .ok (.aload_n 0, 1) := by decide +kernel
theorem jd_La_law_372 : decode jq_La_law.2.1 372 = .ok (.iload_n 3, 1) := by decide +kernel
theorem jd_La_law_373 : decode jq_La_law.2.1 373 = .ok (.iconst 1, 1) := by decide +kernel
theorem jd_La_law_374 : decode jq_La_law.2.1 374 = .ok (.iadd, 1) := by decide +kernel
theorem jd_La_law_375 : decode jq_La_law.2.1 375 = .ok (.iaload, 1) := by decide +kernel
theorem jd_La_law_376 : decode jq_La_law.2.1 376 = .ok (.invokevirtual 49, 3) := by decide +kernel
theorem jd_La_law_379 : decode jq_La_law.2.1 379 = .ok (.aload_n 2, 1) := by decide +kernel
theorem jd_La_law_380 : decode jq_La_law.2.1 380 = .ok (.aload_n 0, 1) := by decide +kernel
theorem jd_La_law_381 : decode jq_La_law.2.1 381 = .ok (.iload_n 3, 1) := by decide +kernel
theorem jd_La_law_382 : decode jq_La_law.2.1 382 = .ok (.iconst 1, 1) := by decide +kernel
theorem jd_La_law_383 : decode jq_La_law.2.1 383 = .ok (.iadd, 1) := by decide +kernel
theorem jd_La_law_384 : decode jq_La_law.2.1 384 = .ok (.iaload, 1) := by decide +kernel
theorem jd_La_law_385 : decode jq_La_law.2.1 385 = .ok (.invokevirtual 52, 3) := by decide +kernel
theorem jd_La_law_388 : decode jq_La_law.2.1 388 = .ok (.if_icmp .eq 333, 3) := by decide +kernel
theorem jd_La_law_391 : decode jq_La_law.2.1 391 = .ok (.iconst 0, 1) := by decide +kernel
theorem jd_La_law_392 : decode jq_La_law.2.1 392 = .ok (.ireturn, 1) := by decide +kernel
theorem jd_La_law_393 : decode jq_La_law.2.1 393 = .ok (.aload_n 1, 1) := by decide +kernel
theorem jd_La_law_394 : decode jq_La_law.2.1 394 = .ok (.invokevirtual 53, 3) := by decide +kernel
theorem jd_La_law_397 : decode jq_La_law.2.1 397 = .ok (.aload_n 2, 1) := by decide +kernel
theorem jd_La_law_398 : decode jq_La_law.2.1 398 = .ok (.invokevirtual 57, 3) := by decide +kernel
theorem jd_La_law_401 : decode jq_La_law.2.1 401 = .ok (.if_icmp .eq 320, 3) := by decide +kernel
theorem jd_La_law_404 : decode jq_La_law.2.1 404 = .ok (.iconst 0, 1) := by decide +kernel
theorem jd_La_law_405 : decode jq_La_law.2.1 405 = .ok (.ireturn, 1) := by decide +kernel
theorem jd_La_law_406 : decode jq_La_law.2.1 406 = .ok (.aload_n 1, 1) := by decide +kernel
theorem jd_La_law_407 : decode jq_La_law.2.1 407 = .ok (.aload_n 0, 1) := by decide +kernel
theorem jd_La_law_408 : decode jq_La_law.2.1 408 = .ok (.iload_n 3, 1) := by decide +kernel
theorem jd_La_law_409 : decode jq_La_law.2.1 409 = .ok (.iconst 1, 1) := by decide +kernel
theorem jd_La_law_410 : decode jq_La_law.2.1 410 = .ok (.iadd, 1) := by decide +kernel
theorem jd_La_law_411 : decode jq_La_law.2.1 411 = .ok (.iaload, 1) := by decide +kernel
theorem jd_La_law_412 : decode jq_La_law.2.1 412 = .ok (.aload_n 0, 1) := by decide +kernel
theorem jd_La_law_413 : decode jq_La_law.2.1 413 = .ok (.iload_n 3, 1) := by decide +kernel
theorem jd_La_law_414 : decode jq_La_law.2.1 414 = .ok (.iconst 2, 1) := by decide +kernel
theorem jd_La_law_415 : decode jq_La_law.2.1 415 = .ok (.iadd, 1) := by decide +kernel
theorem jd_La_law_416 : decode jq_La_law.2.1 416 = .ok (.iaload, 1) := by decide +kernel
theorem jd_La_law_417 : decode jq_La_law.2.1 417 = .ok (.aload_n 0, 1) := by decide +kernel
theorem jd_La_law_418 : decode jq_La_law.2.1 418 = .ok (.iload_n 3, 1) := by decide +kernel
theorem jd_La_law_419 : decode jq_La_law.2.1 419 = .ok (.iconst 3, 1) := by decide +kernel
theorem jd_La_law_420 : decode jq_La_law.2.1 420 = .ok (.iadd, 1) := by decide +kernel
theorem jd_La_law_421 : decode jq_La_law.2.1 421 = .ok (.iaload, 1) := by decide +kernel
theorem jd_La_law_422 : decode jq_La_law.2.1 422 = .ok (.aload_n 0, 1) := by decide +kernel
theorem jd_La_law_423 : decode jq_La_law.2.1 423 = .ok (.iload_n 3, 1) := by decide +kernel
theorem jd_La_law_424 : decode jq_La_law.2.1 424 = .ok (.iconst 4, 1) := by decide +kernel
theorem jd_La_law_425 : decode jq_La_law.2.1 425 = .ok (.iadd, 1) := by decide +kernel
theorem jd_La_law_426 : decode jq_La_law.2.1 426 = .ok (.iaload, 1) := by decide +kernel
theorem jd_La_law_427 : decode jq_La_law.2.1 427 = .ok (.invokevirtual 58, 3) := by decide +kernel
theorem jd_La_law_430 : decode jq_La_law.2.1 430 = .ok (.aload_n 2, 1) := by decide +kernel
theorem jd_La_law_431 : decode jq_La_law.2.1 431 = .ok (.aload_n 0, 1) := by decide +kernel
theorem jd_La_law_432 : decode jq_La_law.2.1 432 = .ok (.iload_n 3, 1) := by decide +kernel
theorem jd_La_law_433 : decode jq_La_law.2.1 433 = .ok (.iconst 1, 1) := by decide +kernel
theorem jd_La_law_434 : decode jq_La_law.2.1 434 = .ok (.iadd, 1) := by decide +kernel
theorem jd_La_law_435 : decode jq_La_law.2.1 435 = .ok (.iaload, 1) := by decide +kernel
theorem jd_La_law_436 : decode jq_La_law.2.1 436 = .ok (.aload_n 0, 1) := by decide +kernel
theorem jd_La_law_437 : decode jq_La_law.2.1 437 = .ok (.iload_n 3, 1) := by decide +kernel
theorem jd_La_law_438 : decode jq_La_law.2.1 438 = .ok (.iconst 2, 1) := by decide +kernel
theorem jd_La_law_439 : decode jq_La_law.2.1 439 = .ok (.iadd, 1) := by decide +kernel
theorem jd_La_law_440 : decode jq_La_law.2.1 440 = .ok (.iaload, 1) := by decide +kernel
theorem jd_La_law_441 : decode jq_La_law.2.1 441 = .ok (.aload_n 0, 1) := by decide +kernel
theorem jd_La_law_442 : decode jq_La_law.2.1 442 = .ok (.iload_n 3, 1) := by decide +kernel
theorem jd_La_law_443 : decode jq_La_law.2.1 443 = .ok (.iconst 3, 1) := by decide +kernel
theorem jd_La_law_444 : decode jq_La_law.2.1 444 = .ok (.iadd, 1) := by decide +kernel
theorem jd_La_law_445 : decode jq_La_law.2.1 445 = .ok (.iaload, 1) := by decide +kernel
theorem jd_La_law_446 : decode jq_La_law.2.1 446 = .ok (.aload_n 0, 1) := by decide +kernel
theorem jd_La_law_447 : decode jq_La_law.2.1 447 = .ok (.iload_n 3, 1) := by decide +kernel
theorem jd_La_law_448 : decode jq_La_law.2.1 448 = .ok (.iconst 4, 1) := by decide +kernel
theorem jd_La_law_449 : decode jq_La_law.2.1 449 = .ok (.iadd, 1) := by decide +kernel
theorem jd_La_law_450 : decode jq_La_law.2.1 450 = .ok (.iaload, 1) := by decide +kernel
theorem jd_La_law_451 : decode jq_La_law.2.1 451 = .ok (.invokevirtual 61, 3) := by decide +kernel
theorem jd_La_law_454 : decode jq_La_law.2.1 454 = .ok (.if_icmp .eq 267, 3) := by decide +kernel
theorem jd_La_law_457 : decode jq_La_law.2.1 457 = .ok (.iconst 0, 1) := by decide +kernel
theorem jd_La_law_458 : decode jq_La_law.2.1 458 = .ok (.ireturn, 1) := by decide +kernel
theorem jd_La_law_459 : decode jq_La_law.2.1 459 = .ok (.aload_n 1, 1) := by decide +kernel
theorem jd_La_law_460 : decode jq_La_law.2.1 460 = .ok (.aload_n 0, 1) := by decide +kernel
theorem jd_La_law_461 : decode jq_La_law.2.1 461 = .ok (.iload_n 3, 1) := by decide +kernel
theorem jd_La_law_462 : decode jq_La_law.2.1 462 = .ok (.iconst 1, 1) := by decide +kernel
theorem jd_La_law_463 : decode jq_La_law.2.1 463 = .ok (.iadd, 1) := by decide +kernel
theorem jd_La_law_464 : decode jq_La_law.2.1 464 = .ok (.iaload, 1) := by decide +kernel
theorem jd_La_law_465 : decode jq_La_law.2.1 465 = .ok (.aload_n 0, 1) := by decide +kernel
theorem jd_La_law_466 : decode jq_La_law.2.1 466 = .ok (.iload_n 3, 1) := by decide +kernel
theorem jd_La_law_467 : decode jq_La_law.2.1 467 = .ok (.iconst 2, 1) := by decide +kernel
theorem jd_La_law_468 : decode jq_La_law.2.1 468 = .ok (.iadd, 1) := by decide +kernel
theorem jd_La_law_469 : decode jq_La_law.2.1 469 = .ok (.iaload, 1) := by decide +kernel
theorem jd_La_law_470 : decode jq_La_law.2.1 470 = .ok (.invokevirtual 62, 3) := by decide +kernel
theorem jd_La_law_473 : decode jq_La_law.2.1 473 = .ok (.aload_n 2, 1) := by decide +kernel
theorem jd_La_law_474 : decode jq_La_law.2.1 474 = .ok (.aload_n 0, 1) := by decide +kernel
theorem jd_La_law_475 : decode jq_La_law.2.1 475 = .ok (.iload_n 3, 1) := by decide +kernel
theorem jd_La_law_476 : decode jq_La_law.2.1 476 = .ok (.iconst 1, 1) := by decide +kernel
theorem jd_La_law_477 : decode jq_La_law.2.1 477 = .ok (.iadd, 1) := by decide +kernel
theorem jd_La_law_478 : decode jq_La_law.2.1 478 = .ok (.iaload, 1) := by decide +kernel
theorem jd_La_law_479 : decode jq_La_law.2.1 479 = .ok (.aload_n 0, 1) := by decide +kernel
theorem jd_La_law_480 : decode jq_La_law.2.1 480 = .ok (.iload_n 3, 1) := by decide +kernel
theorem jd_La_law_481 : decode jq_La_law.2.1 481 = .ok (.iconst 2, 1) := by decide +kernel
theorem jd_La_law_482 : decode jq_La_law.2.1 482 = .ok (.iadd, 1) := by decide +kernel
theorem jd_La_law_483 : decode jq_La_law.2.1 483 = .ok (.iaload, 1) := by decide +kernel
theorem jd_La_law_484 : decode jq_La_law.2.1 484 = .ok (.invokevirtual 66, 3) := by decide +kernel
theorem jd_La_law_487 : decode jq_La_law.2.1 487 = .ok (.lcmp, 1) := by decide +kernel
theorem jd_La_law_488 : decode jq_La_law.2.1 488 = .ok (.ifCond .eq 233, 3) := by decide +kernel
theorem jd_La_law_491 : decode jq_La_law.2.1 491 = .ok (.iconst 0, 1) := by decide +kernel
theorem jd_La_law_492 : decode jq_La_law.2.1 492 = .ok (.ireturn, 1) := by decide +kernel
theorem jd_La_law_493 : decode jq_La_law.2.1 493 = .ok (.aload_n 1, 1) := by decide +kernel
theorem jd_La_law_494 : decode jq_La_law.2.1 494 = .ok (.aload_n 0, 1) := by decide +kernel
theorem jd_La_law_495 : decode jq_La_law.2.1 495 = .ok (.iload_n 3, 1) := by decide +kernel
theorem jd_La_law_496 : decode jq_La_law.2.1 496 = .ok (.iconst 1, 1) := by decide +kernel
theorem jd_La_law_497 : decode jq_La_law.2.1 497 = .ok (.iadd, 1) := by decide +kernel
theorem jd_La_law_498 : decode jq_La_law.2.1 498 = .ok (.iaload, 1) := by decide +kernel
theorem jd_La_law_499 : decode jq_La_law.2.1 499 = .ok (.aload_n 0, 1) := by decide +kernel
theorem jd_La_law_500 : decode jq_La_law.2.1 500 = .ok (.iload_n 3, 1) := by decide +kernel
theorem jd_La_law_501 : decode jq_La_law.2.1 501 = .ok (.iconst 2, 1) := by decide +kernel
theorem jd_La_law_502 : decode jq_La_law.2.1 502 = .ok (.iadd, 1) := by decide +kernel
theorem jd_La_law_503 : decode jq_La_law.2.1 503 = .ok (.iaload, 1) := by decide +kernel
theorem jd_La_law_504 : decode jq_La_law.2.1 504 = .ok (.invokevirtual 67, 3) := by decide +kernel
theorem jd_La_law_507 : decode jq_La_law.2.1 507 = .ok (.aload_n 2, 1) := by decide +kernel
theorem jd_La_law_508 : decode jq_La_law.2.1 508 = .ok (.aload_n 0, 1) := by decide +kernel
theorem jd_La_law_509 : decode jq_La_law.2.1 509 = .ok (.iload_n 3, 1) := by decide +kernel
theorem jd_La_law_510 : decode jq_La_law.2.1 510 = .ok (.iconst 1, 1) := by decide +kernel
theorem jd_La_law_511 : decode jq_La_law.2.1 511 = .ok (.iadd, 1) := by decide +kernel
theorem jd_La_law_512 : decode jq_La_law.2.1 512 = .ok (.iaload, 1) := by decide +kernel
theorem jd_La_law_513 : decode jq_La_law.2.1 513 = .ok (.aload_n 0, 1) := by decide +kernel
theorem jd_La_law_514 : decode jq_La_law.2.1 514 = .ok (.iload_n 3, 1) := by decide +kernel
theorem jd_La_law_515 : decode jq_La_law.2.1 515 = .ok (.iconst 2, 1) := by decide +kernel
theorem jd_La_law_516 : decode jq_La_law.2.1 516 = .ok (.iadd, 1) := by decide +kernel
theorem jd_La_law_517 : decode jq_La_law.2.1 517 = .ok (.iaload, 1) := by decide +kernel
theorem jd_La_law_518 : decode jq_La_law.2.1 518 = .ok (.invokevirtual 70, 3) := by decide +kernel
theorem jd_La_law_521 : decode jq_La_law.2.1 521 = .ok (.if_icmp .eq 200, 3) := by decide +kernel
theorem jd_La_law_524 : decode jq_La_law.2.1 524 = .ok (.iconst 0, 1) := by decide +kernel
theorem jd_La_law_525 : decode jq_La_law.2.1 525 = .ok (.ireturn, 1) := by decide +kernel
theorem jd_La_law_526 : decode jq_La_law.2.1 526 = .ok (.aload_n 1, 1) := by decide +kernel
theorem jd_La_law_527 : decode jq_La_law.2.1 527 = .ok (.aload_n 0, 1) := by decide +kernel
theorem jd_La_law_528 : decode jq_La_law.2.1 528 = .ok (.iload_n 3, 1) := by decide +kernel
theorem jd_La_law_529 : decode jq_La_law.2.1 529 = .ok (.iconst 1, 1) := by decide +kernel
theorem jd_La_law_530 : decode jq_La_law.2.1 530 = .ok (.iadd, 1) := by decide +kernel
theorem jd_La_law_531 : decode jq_La_law.2.1 531 = .ok (.iaload, 1) := by decide +kernel
theorem jd_La_law_532 : decode jq_La_law.2.1 532 = .ok (.aload_n 0, 1) := by decide +kernel
theorem jd_La_law_533 : decode jq_La_law.2.1 533 = .ok (.iload_n 3, 1) := by decide +kernel
theorem jd_La_law_534 : decode jq_La_law.2.1 534 = .ok (.iconst 2, 1) := by decide +kernel
theorem jd_La_law_535 : decode jq_La_law.2.1 535 = .ok (.iadd, 1) := by decide +kernel
theorem jd_La_law_536 : decode jq_La_law.2.1 536 = .ok (.iaload, 1) := by decide +kernel
theorem jd_La_law_537 : decode jq_La_law.2.1 537 = .ok (.invokevirtual 71, 3) := by decide +kernel
theorem jd_La_law_540 : decode jq_La_law.2.1 540 = .ok (.aload_n 2, 1) := by decide +kernel
theorem jd_La_law_541 : decode jq_La_law.2.1 541 = .ok (.aload_n 0, 1) := by decide +kernel
theorem jd_La_law_542 : decode jq_La_law.2.1 542 = .ok (.iload_n 3, 1) := by decide +kernel
theorem jd_La_law_543 : decode jq_La_law.2.1 543 = .ok (.iconst 1, 1) := by decide +kernel
theorem jd_La_law_544 : decode jq_La_law.2.1 544 = .ok (.iadd, 1) := by decide +kernel
theorem jd_La_law_545 : decode jq_La_law.2.1 545 = .ok (.iaload, 1) := by decide +kernel
theorem jd_La_law_546 : decode jq_La_law.2.1 546 = .ok (.aload_n 0, 1) := by decide +kernel
theorem jd_La_law_547 : decode jq_La_law.2.1 547 = .ok (.iload_n 3, 1) := by decide +kernel
theorem jd_La_law_548 : decode jq_La_law.2.1 548 = .ok (.iconst 2, 1) := by decide +kernel
theorem jd_La_law_549 : decode jq_La_law.2.1 549 = .ok (.iadd, 1) := by decide +kernel
theorem jd_La_law_550 : decode jq_La_law.2.1 550 = .ok (.iaload, 1) := by decide +kernel
theorem jd_La_law_551 : decode jq_La_law.2.1 551 = .ok (.invokevirtual 74, 3) := by decide +kernel
theorem jd_La_law_554 : decode jq_La_law.2.1 554 = .ok (.lcmp, 1) := by decide +kernel
theorem jd_La_law_555 : decode jq_La_law.2.1 555 = .ok (.ifCond .eq 166, 3) := by decide +kernel
theorem jd_La_law_558 : decode jq_La_law.2.1 558 = .ok (.iconst 0, 1) := by decide +kernel
theorem jd_La_law_559 : decode jq_La_law.2.1 559 = .ok (.ireturn, 1) := by decide +kernel
theorem jd_La_law_560 : decode jq_La_law.2.1 560 = .ok (.aload_n 1, 1) := by decide +kernel
theorem jd_La_law_561 : decode jq_La_law.2.1 561 = .ok (.aload_n 0, 1) := by decide +kernel
theorem jd_La_law_562 : decode jq_La_law.2.1 562 = .ok (.iload_n 3, 1) := by decide +kernel
theorem jd_La_law_563 : decode jq_La_law.2.1 563 = .ok (.iconst 1, 1) := by decide +kernel
theorem jd_La_law_564 : decode jq_La_law.2.1 564 = .ok (.iadd, 1) := by decide +kernel
theorem jd_La_law_565 : decode jq_La_law.2.1 565 = .ok (.iaload, 1) := by decide +kernel
theorem jd_La_law_566 : decode jq_La_law.2.1 566 = .ok (.invokevirtual 75, 3) := by decide +kernel
theorem jd_La_law_569 : decode jq_La_law.2.1 569 = .ok (.aload_n 2, 1) := by decide +kernel
theorem jd_La_law_570 : decode jq_La_law.2.1 570 = .ok (.aload_n 0, 1) := by decide +kernel
theorem jd_La_law_571 : decode jq_La_law.2.1 571 = .ok (.iload_n 3, 1) := by decide +kernel
theorem jd_La_law_572 : decode jq_La_law.2.1 572 = .ok (.iconst 1, 1) := by decide +kernel
theorem jd_La_law_573 : decode jq_La_law.2.1 573 = .ok (.iadd, 1) := by decide +kernel
theorem jd_La_law_574 : decode jq_La_law.2.1 574 = .ok (.iaload, 1) := by decide +kernel
theorem jd_La_law_575 : decode jq_La_law.2.1 575 = .ok (.invokevirtual 78, 3) := by decide +kernel
theorem jd_La_law_578 : decode jq_La_law.2.1 578 = .ok (.if_icmp .eq 143, 3) := by decide +kernel
theorem jd_La_law_581 : decode jq_La_law.2.1 581 = .ok (.iconst 0, 1) := by decide +kernel
theorem jd_La_law_582 : decode jq_La_law.2.1 582 = .ok (.ireturn, 1) := by decide +kernel
theorem jd_La_law_583 : decode jq_La_law.2.1 583 = .ok (.aload_n 1, 1) := by decide +kernel
theorem jd_La_law_584 : decode jq_La_law.2.1 584 = .ok (.aload_n 0, 1) := by decide +kernel
theorem jd_La_law_585 : decode jq_La_law.2.1 585 = .ok (.iload_n 3, 1) := by decide +kernel
theorem jd_La_law_586 : decode jq_La_law.2.1 586 = .ok (.iconst 1, 1) := by decide +kernel
theorem jd_La_law_587 : decode jq_La_law.2.1 587 = .ok (.iadd, 1) := by decide +kernel
theorem jd_La_law_588 : decode jq_La_law.2.1 588 = .ok (.iaload, 1) := by decide +kernel
theorem jd_La_law_589 : decode jq_La_law.2.1 589 = .ok (.aload_n 0, 1) := by decide +kernel
theorem jd_La_law_590 : decode jq_La_law.2.1 590 = .ok (.iload_n 3, 1) := by decide +kernel
theorem jd_La_law_591 : decode jq_La_law.2.1 591 = .ok (.iconst 2, 1) := by decide +kernel
theorem jd_La_law_592 : decode jq_La_law.2.1 592 = .ok (.iadd, 1) := by decide +kernel
theorem jd_La_law_593 : decode jq_La_law.2.1 593 = .ok (.iaload, 1) := by decide +kernel
theorem jd_La_law_594 : decode jq_La_law.2.1 594 = .ok (.invokevirtual 79, 3) := by decide +kernel
theorem jd_La_law_597 : decode jq_La_law.2.1 597 = .ok (.aload_n 2, 1) := by decide +kernel
theorem jd_La_law_598 : decode jq_La_law.2.1 598 = .ok (.aload_n 0, 1) := by decide +kernel
theorem jd_La_law_599 : decode jq_La_law.2.1 599 = .ok (.iload_n 3, 1) := by decide +kernel
theorem jd_La_law_600 : decode jq_La_law.2.1 600 = .ok (.iconst 1, 1) := by decide +kernel
theorem jd_La_law_601 : decode jq_La_law.2.1 601 = .ok (.iadd, 1) := by decide +kernel
theorem jd_La_law_602 : decode jq_La_law.2.1 602 = .ok (.iaload, 1) := by decide +kernel
theorem jd_La_law_603 : decode jq_La_law.2.1 603 = .ok (.aload_n 0, 1) := by decide +kernel
theorem jd_La_law_604 : decode jq_La_law.2.1 604 = .ok (.iload_n 3, 1) := by decide +kernel
theorem jd_La_law_605 : decode jq_La_law.2.1 605 = .ok (.iconst 2, 1) := by decide +kernel
theorem jd_La_law_606 : decode jq_La_law.2.1 606 = .ok (.iadd, 1) := by decide +kernel
theorem jd_La_law_607 : decode jq_La_law.2.1 607 = .ok (.iaload, 1) := by decide +kernel
theorem jd_La_law_608 : decode jq_La_law.2.1 608 = .ok (.invokevirtual 83, 3) := by decide +kernel
theorem jd_La_law_611 : decode jq_La_law.2.1 611 = .ok (.if_icmp .eq 110, 3) := by decide +kernel
theorem jd_La_law_614 : decode jq_La_law.2.1 614 = .ok (.iconst 0, 1) := by decide +kernel
theorem jd_La_law_615 : decode jq_La_law.2.1 615 = .ok (.ireturn, 1) := by decide +kernel
theorem jd_La_law_616 : decode jq_La_law.2.1 616 = .ok (.aload_n 1, 1) := by decide +kernel
theorem jd_La_law_617 : decode jq_La_law.2.1 617 = .ok (.aload_n 0, 1) := by decide +kernel
theorem jd_La_law_618 : decode jq_La_law.2.1 618 = .ok (.iload_n 3, 1) := by decide +kernel
theorem jd_La_law_619 : decode jq_La_law.2.1 619 = .ok (.iconst 1, 1) := by decide +kernel
theorem jd_La_law_620 : decode jq_La_law.2.1 620 = .ok (.iadd, 1) := by decide +kernel
theorem jd_La_law_621 : decode jq_La_law.2.1 621 = .ok (.iaload, 1) := by decide +kernel
theorem jd_La_law_622 : decode jq_La_law.2.1 622 = .ok (.invokevirtual 84, 3) := by decide +kernel
theorem jd_La_law_625 : decode jq_La_law.2.1 625 = .ok (.aload_n 2, 1) := by decide +kernel
theorem jd_La_law_626 : decode jq_La_law.2.1 626 = .ok (.aload_n 0, 1) := by decide +kernel
theorem jd_La_law_627 : decode jq_La_law.2.1 627 = .ok (.iload_n 3, 1) := by decide +kernel
theorem jd_La_law_628 : decode jq_La_law.2.1 628 = .ok (.iconst 1, 1) := by decide +kernel
theorem jd_La_law_629 : decode jq_La_law.2.1 629 = .ok (.iadd, 1) := by decide +kernel
theorem jd_La_law_630 : decode jq_La_law.2.1 630 = .ok (.iaload, 1) := by decide +kernel
theorem jd_La_law_631 : decode jq_La_law.2.1 631 = .ok (.invokevirtual 87, 3) := by decide +kernel
theorem jd_La_law_634 : decode jq_La_law.2.1 634 = .ok (.if_icmp .eq 87, 3) := by decide +kernel
theorem jd_La_law_637 : decode jq_La_law.2.1 637 = .ok (.iconst 0, 1) := by decide +kernel
theorem jd_La_law_638 : decode jq_La_law.2.1 638 = .ok (.ireturn, 1) := by decide +kernel
theorem jd_La_law_639 : decode jq_La_law.2.1 639 = .ok (.aload_n 1, 1) := by decide +kernel
theorem jd_La_law_640 : decode jq_La_law.2.1 640 = .ok (.aload_n 0, 1) := by decide +kernel
theorem jd_La_law_641 : decode jq_La_law.2.1 641 = .ok (.iload_n 3, 1) := by decide +kernel
theorem jd_La_law_642 : decode jq_La_law.2.1 642 = .ok (.iconst 1, 1) := by decide +kernel
theorem jd_La_law_643 : decode jq_La_law.2.1 643 = .ok (.iadd, 1) := by decide +kernel
theorem jd_La_law_644 : decode jq_La_law.2.1 644 = .ok (.iaload, 1) := by decide +kernel
theorem jd_La_law_645 : decode jq_La_law.2.1 645 = .ok (.invokevirtual 88, 3) := by decide +kernel
theorem jd_La_law_648 : decode jq_La_law.2.1 648 = .ok (.aload_n 2, 1) := by decide +kernel
theorem jd_La_law_649 : decode jq_La_law.2.1 649 = .ok (.aload_n 0, 1) := by decide +kernel
theorem jd_La_law_650 : decode jq_La_law.2.1 650 = .ok (.iload_n 3, 1) := by decide +kernel
theorem jd_La_law_651 : decode jq_La_law.2.1 651 = .ok (.iconst 1, 1) := by decide +kernel
theorem jd_La_law_652 : decode jq_La_law.2.1 652 = .ok (.iadd, 1) := by decide +kernel
theorem jd_La_law_653 : decode jq_La_law.2.1 653 = .ok (.iaload, 1) := by decide +kernel
theorem jd_La_law_654 : decode jq_La_law.2.1 654 = .ok (.invokevirtual 91, 3) := by decide +kernel
theorem jd_La_law_657 : decode jq_La_law.2.1 657 = .ok (.if_icmp .eq 64, 3) := by decide +kernel
theorem jd_La_law_660 : decode jq_La_law.2.1 660 = .ok (.iconst 0, 1) := by decide +kernel
theorem jd_La_law_661 : decode jq_La_law.2.1 661 = .ok (.ireturn, 1) := by decide +kernel
theorem jd_La_law_662 : decode jq_La_law.2.1 662 = .ok (.aload_n 1, 1) := by decide +kernel
theorem jd_La_law_663 : decode jq_La_law.2.1 663 = .ok (.aload_n 0, 1) := by decide +kernel
theorem jd_La_law_664 : decode jq_La_law.2.1 664 = .ok (.iload_n 3, 1) := by decide +kernel
theorem jd_La_law_665 : decode jq_La_law.2.1 665 = .ok (.iconst 1, 1) := by decide +kernel
theorem jd_La_law_666 : decode jq_La_law.2.1 666 = .ok (.iadd, 1) := by decide +kernel
theorem jd_La_law_667 : decode jq_La_law.2.1 667 = .ok (.iaload, 1) := by decide +kernel
theorem jd_La_law_668 : decode jq_La_law.2.1 668 = .ok (.invokevirtual 92, 3) := by decide +kernel
theorem jd_La_law_671 : decode jq_La_law.2.1 671 = .ok (.aload_n 2, 1) := by decide +kernel
theorem jd_La_law_672 : decode jq_La_law.2.1 672 = .ok (.aload_n 0, 1) := by decide +kernel
theorem jd_La_law_673 : decode jq_La_law.2.1 673 = .ok (.iload_n 3, 1) := by decide +kernel
theorem jd_La_law_674 : decode jq_La_law.2.1 674 = .ok (.iconst 1, 1) := by decide +kernel
theorem jd_La_law_675 : decode jq_La_law.2.1 675 = .ok (.iadd, 1) := by decide +kernel
theorem jd_La_law_676 : decode jq_La_law.2.1 676 = .ok (.iaload, 1) := by decide +kernel
theorem jd_La_law_677 : decode jq_La_law.2.1 677 = .ok (.invokevirtual 95, 3) := by decide +kernel
theorem jd_La_law_680 : decode jq_La_law.2.1 680 = .ok (.if_icmp .eq 41, 3) := by decide +kernel
theorem jd_La_law_683 : decode jq_La_law.2.1 683 = .ok (.iconst 0, 1) := by decide +kernel
theorem jd_La_law_684 : decode jq_La_law.2.1 684 = .ok (.ireturn, 1) := by decide +kernel
theorem jd_La_law_685 : decode jq_La_law.2.1 685 = .ok (.aload_n 1, 1) := by decide +kernel
theorem jd_La_law_686 : decode jq_La_law.2.1 686 = .ok (.invokevirtual 96, 3) := by decide +kernel
theorem jd_La_law_689 : decode jq_La_law.2.1 689 = .ok (.aload_n 2, 1) := by decide +kernel
theorem jd_La_law_690 : decode jq_La_law.2.1 690 = .ok (.invokevirtual 99, 3) := by decide +kernel
theorem jd_La_law_693 : decode jq_La_law.2.1 693 = .ok (.if_icmp .eq 28, 3) := by decide +kernel
theorem jd_La_law_696 : decode jq_La_law.2.1 696 = .ok (.iconst 0, 1) := by decide +kernel
theorem jd_La_law_697 : decode jq_La_law.2.1 697 = .ok (.ireturn, 1) := by decide +kernel
theorem jd_La_law_698 : decode jq_La_law.2.1 698 = .ok (.aload_n 1, 1) := by decide +kernel
theorem jd_La_law_699 : decode jq_La_law.2.1 699 = .ok (.aload_n 0, 1) := by decide +kernel
theorem jd_La_law_700 : decode jq_La_law.2.1 700 = .ok (.iload_n 3, 1) := by decide +kernel
theorem jd_La_law_701 : decode jq_La_law.2.1 701 = .ok (.iconst 1, 1) := by decide +kernel
theorem jd_La_law_702 : decode jq_La_law.2.1 702 = .ok (.iadd, 1) := by decide +kernel
theorem jd_La_law_703 : decode jq_La_law.2.1 703 = .ok (.iaload, 1) := by decide +kernel
theorem jd_La_law_704 : decode jq_La_law.2.1 704 = .ok (.invokevirtual 100, 3) := by decide +kernel
theorem jd_La_law_707 : decode jq_La_law.2.1 707 = .ok (.aload_n 2, 1) := by decide +kernel
theorem jd_La_law_708 : decode jq_La_law.2.1 708 = .ok (.aload_n 0, 1) := by decide +kernel
theorem jd_La_law_709 : decode jq_La_law.2.1 709 = .ok (.iload_n 3, 1) := by decide +kernel
theorem jd_La_law_710 : decode jq_La_law.2.1 710 = .ok (.iconst 1, 1) := by decide +kernel
theorem jd_La_law_711 : decode jq_La_law.2.1 711 = .ok (.iadd, 1) := by decide +kernel
theorem jd_La_law_712 : decode jq_La_law.2.1 712 = .ok (.iaload, 1) := by decide +kernel
theorem jd_La_law_713 : decode jq_La_law.2.1 713 = .ok (.invokevirtual 103, 3) := by decide +kernel
theorem jd_La_law_716 : decode jq_La_law.2.1 716 = .ok (.if_icmp .eq 5, 3) := by decide +kernel
theorem jd_La_law_719 : decode jq_La_law.2.1 719 = .ok (.iconst 0, 1) := by decide +kernel
theorem jd_La_law_720 : decode jq_La_law.2.1 720 = .ok (.ireturn, 1) := by decide +kernel
theorem jd_La_law_721 : decode jq_La_law.2.1 721 = .ok (.iinc 3 5, 3) := by decide +kernel
theorem jd_La_law_724 : decode jq_La_law.2.1 724 = .ok (.goto (-696), 3) := by decide +kernel
theorem jd_La_law_727 : decode jq_La_law.2.1 727 = .ok (.iconst 1, 1) := by decide +kernel
theorem jd_La_law_728 : decode jq_La_law.2.1 728 = .ok (.ireturn, 1) := by decide +kernel
