theorem dL_law_1475 : decode cL_law 1475 = .ok (.iinc 3 6, 3) := by decide +kernel
theorem dL_law_1478 : decode cL_law 1478 = .ok (.goto (-1460), 3) := by decide +kernel
theorem dL_law_18 : decode cL_law 18 = .ok (.iload_n 3, 1) := by decide +kernel
theorem dL_law_19 : decode cL_law 19 = .ok (.aload_n 0, 1) := by decide +kernel
theorem dL_law_20 : decode cL_law 20 = .ok (.arraylength, 1) := by decide +kernel
theorem dL_law_21 : decode cL_law 21 = .ok (.bipush 6, 2) := by decide +kernel
theorem dL_law_23 : decode cL_law 23 = .ok (.isub, 1) := by decide +kernel
theorem dL_law_24 : decode cL_law 24 = .ok (.if_icmp .gt 1457, 3) := by decide +kernel
theorem dL_law_1481 : decode cL_law 1481 = .ok (.iconst 1, 1) := by decide +kernel
theorem dL_law_1482 : decode cL_law 1482 = .ok (.ireturn, 1) := by decide +kernel
theorem dL_law_212 : decode cL_law 212 = .ok (.aload_n 1, 1) := by decide +kernel
theorem dL_law_213 : decode cL_law 213 = .ok (.aload_n 0, 1) := by decide +kernel
theorem dL_law_214 : decode cL_law 214 = .ok (.iload_n 3, 1) := by decide +kernel
theorem dL_law_215 : decode cL_law 215 = .ok (.iconst 1, 1) := by decide +kernel
theorem dL_law_216 : decode cL_law 216 = .ok (.iadd, 1) := by decide +kernel
theorem dL_law_217 : decode cL_law 217 = .ok (.iaload, 1) := by decide +kernel
theorem dL_law_218 : decode cL_law 218 = .ok (.aload_n 0, 1) := by decide +kernel
theorem dL_law_219 : decode cL_law 219 = .ok (.iload_n 3, 1) := by decide +kernel
theorem dL_law_220 : decode cL_law 220 = .ok (.iconst 2, 1) := by decide +kernel
theorem dL_law_221 : decode cL_law 221 = .ok (.iadd, 1) := by decide +kernel
theorem dL_law_222 : decode cL_law 222 = .ok (.iaload, 1) := by decide +kernel
theorem dL_law_223 : decode cL_law 223 = .ok (.invokevirtual 13, 3) := by decide +kernel
theorem dL_law_226 : decode cL_law 226 = .ok (.aload_n 2, 1) := by decide +kernel
theorem dL_law_227 : decode cL_law 227 = .ok (.aload_n 0, 1) := by decide +kernel
theorem dL_law_228 : decode cL_law 228 = .ok (.iload_n 3, 1) := by decide +kernel
theorem dL_law_229 : decode cL_law 229 = .ok (.iconst 1, 1) := by decide +kernel
theorem dL_law_230 : decode cL_law 230 = .ok (.iadd, 1) := by decide +kernel
theorem dL_law_231 : decode cL_law 231 = .ok (.iaload, 1) := by decide +kernel
theorem dL_law_232 : decode cL_law 232 = .ok (.aload_n 0, 1) := by decide +kernel
theorem dL_law_233 : decode cL_law 233 = .ok (.iload_n 3, 1) := by decide +kernel
theorem dL_law_234 : decode cL_law 234 = .ok (.iconst 2, 1) := by decide +kernel
theorem dL_law_235 : decode cL_law 235 = .ok (.iadd, 1) := by decide +kernel
theorem dL_law_236 : decode cL_law 236 = .ok (.iaload, 1) := by decide +kernel
theorem dL_law_237 : decode cL_law 237 = .ok (.invokevirtual 17, 3) := by decide +kernel
theorem dL_law_240 : decode cL_law 240 = .ok (.if_icmp .eq 1235, 3) := by decide +kernel
theorem dL_law_245 : decode cL_law 245 = .ok (.aload_n 1, 1) := by decide +kernel
theorem dL_law_246 : decode cL_law 246 = .ok (.aload_n 0, 1) := by decide +kernel
theorem dL_law_247 : decode cL_law 247 = .ok (.iload_n 3, 1) := by decide +kernel
theorem dL_law_248 : decode cL_law 248 = .ok (.iconst 1, 1) := by decide +kernel
theorem dL_law_249 : decode cL_law 249 = .ok (.iadd, 1) := by decide +kernel
theorem dL_law_250 : decode cL_law 250 = .ok (.iaload, 1) := by decide +kernel
theorem dL_law_251 : decode cL_law 251 = .ok (.invokevirtual 18, 3) := by decide +kernel
theorem dL_law_254 : decode cL_law 254 = .ok (.aload_n 2, 1) := by decide +kernel
theorem dL_law_255 : decode cL_law 255 = .ok (.aload_n 0, 1) := by decide +kernel
theorem dL_law_256 : decode cL_law 256 = .ok (.iload_n 3, 1) := by decide +kernel
theorem dL_law_257 : decode cL_law 257 = .ok (.iconst 1, 1) := by decide +kernel
theorem dL_law_258 : decode cL_law 258 = .ok (.iadd, 1) := by decide +kernel
theorem dL_law_259 : decode cL_law 259 = .ok (.iaload, 1) := by decide +kernel
theorem dL_law_260 : decode cL_law 260 = .ok (.invokevirtual 22, 3) := by decide +kernel
theorem dL_law_263 : decode cL_law 263 = .ok (.if_icmp .eq 1212, 3) := by decide +kernel
theorem dL_law_268 : decode cL_law 268 = .ok (.aload_n 1, 1) := by decide +kernel
theorem dL_law_269 : decode cL_law 269 = .ok (.aload_n 0, 1) := by decide +kernel
theorem dL_law_270 : decode cL_law 270 = .ok (.iload_n 3, 1) := by decide +kernel
theorem dL_law_271 : decode cL_law 271 = .ok (.iconst 1, 1) := by decide +kernel
theorem dL_law_272 : decode cL_law 272 = .ok (.iadd, 1) := by decide +kernel
theorem dL_law_273 : decode cL_law 273 = .ok (.iaload, 1) := by decide +kernel
theorem dL_law_274 : decode cL_law 274 = .ok (.aload_n 0, 1) := by decide +kernel
theorem dL_law_275 : decode cL_law 275 = .ok (.iload_n 3, 1) := by decide +kernel
theorem dL_law_276 : decode cL_law 276 = .ok (.iconst 2, 1) := by decide +kernel
theorem dL_law_277 : decode cL_law 277 = .ok (.iadd, 1) := by decide +kernel
theorem dL_law_278 : decode cL_law 278 = .ok (.iaload, 1) := by decide +kernel
theorem dL_law_279 : decode cL_law 279 = .ok (.aload_n 0, 1) := by decide +kernel
theorem dL_law_280 : decode cL_law 280 = .ok (.iload_n 3, 1) := by decide +kernel
theorem dL_law_281 : decode cL_law 281 = .ok (.iconst 3, 1) := by decide +kernel
theorem dL_law_282 : decode cL_law 282 = .ok (.iadd, 1) := by decide +kernel
theorem dL_law_283 : decode cL_law 283 = .ok (.iaload, 1) := by decide +kernel
theorem dL_law_284 : decode cL_law 284 = .ok (.aload_n 0, 1) := by decide +kernel
theorem dL_law_285 : decode cL_law 285 = .ok (.iload_n 3, 1) := by decide +kernel
theorem dL_law_286 : decode cL_law 286 = .ok (.iconst 4, 1) := by decide +kernel
theorem dL_law_287 : decode cL_law 287 = .ok (.iadd, 1) := by decide +kernel
theorem dL_law_288 : decode cL_law 288 = .ok (.iaload, 1) := by decide +kernel
theorem dL_law_289 : decode cL_law 289 = .ok (.invokevirtual 23, 3) := by decide +kernel
theorem dL_law_292 : decode cL_law 292 = .ok (.aload_n 2, 1) := by decide +kernel
theorem dL_law_293 : decode cL_law 293 = .ok (.aload_n 0, 1) := by decide +kernel
theorem dL_law_294 : decode cL_law 294 = .ok (.iload_n 3, 1) := by decide +kernel
theorem dL_law_295 : decode cL_law 295 = .ok (.iconst 1, 1) := by decide +kernel
theorem dL_law_296 : decode cL_law 296 = .ok (.iadd, 1) := by decide +kernel
theorem dL_law_297 : decode cL_law 297 = .ok (.iaload, 1) := by decide +kernel
theorem dL_law_298 : decode cL_law 298 = .ok (.aload_n 0, 1) := by decide +kernel
theorem dL_law_299 : decode cL_law 299 = .ok (.iload_n 3, 1) := by decide +kernel
theorem dL_law_300 : decode cL_law 300 = .ok (.iconst 2, 1) := by decide +kernel
theorem dL_law_301 : decode cL_law 301 = .ok (.iadd, 1) := by decide +kernel
theorem dL_law_302 : decode cL_law 302 = .ok (.iaload, 1) := by decide +kernel
theorem dL_law_303 : decode cL_law 303 = .ok (.aload_n 0, 1) := by decide +kernel
theorem dL_law_304 : decode cL_law 304 = .ok (.iload_n 3, 1) := by decide +kernel
theorem dL_law_305 : decode cL_law 305 = .ok (.iconst 3, 1) := by decide +kernel
theorem dL_law_306 : decode cL_law 306 = .ok (.iadd, 1) := by decide +kernel
theorem dL_law_307 : decode cL_law 307 = .ok (.iaload, 1) := by decide +kernel
theorem dL_law_308 : decode cL_law 308 = .ok (.aload_n 0, 1) := by decide +kernel
theorem dL_law_309 : decode cL_law 309 = .ok (.iload_n 3, 1) := by decide +kernel
theorem dL_law_310 : decode cL_law 310 = .ok (.iconst 4, 1) := by decide +kernel
theorem dL_law_311 : decode cL_law 311 = .ok (.iadd, 1) := by decide +kernel
theorem dL_law_312 : decode cL_law 312 = .ok (.iaload, 1) := by decide +kernel
theorem dL_law_313 : decode cL_law 313 = .ok (.invokevirtual 27, 3) := by decide +kernel
theorem dL_law_316 : decode cL_law 316 = .ok (.if_icmp .eq 1159, 3) := by decide +kernel
theorem dL_law_321 : decode cL_law 321 = .ok (.aload_n 1, 1) := by decide +kernel
theorem dL_law_322 : decode cL_law 322 = .ok (.aload_n 0, 1) := by decide +kernel
theorem dL_law_323 : decode cL_law 323 = .ok (.iload_n 3, 1) := by decide +kernel
theorem dL_law_324 : decode cL_law 324 = .ok (.iconst 1, 1) := by decide +kernel
theorem dL_law_325 : decode cL_law 325 = .ok (.iadd, 1) := by decide +kernel
theorem dL_law_326 : decode cL_law 326 = .ok (.iaload, 1) := by decide +kernel
theorem dL_law_327 : decode cL_law 327 = .ok (.aload_n 0, 1) := by decide +kernel
theorem dL_law_328 : decode cL_law 328 = .ok (.iload_n 3, 1) := by decide +kernel
theorem dL_law_329 : decode cL_law 329 = .ok (.iconst 2, 1) := by decide +kernel
theorem dL_law_330 : decode cL_law 330 = .ok (.iadd, 1) := by decide +kernel
theorem dL_law_331 : decode cL_law 331 = .ok (.iaload, 1) := by decide +kernel
theorem dL_law_332 : decode cL_law 332 = .ok (.invokevirtual 28, 3) := by decide +kernel
theorem dL_law_335 : decode cL_law 335 = .ok (.aload_n 2, 1) := by decide +kernel
theorem dL_law_336 : decode cL_law 336 = .ok (.aload_n 0, 1) := by decide +kernel
theorem dL_law_337 : decode cL_law 337 = .ok (.iload_n 3, 1) := by decide +kernel
theorem dL_law_338 : decode cL_law 338 = .ok (.iconst 1, 1) := by decide +kernel
theorem dL_law_339 : decode cL_law 339 = .ok (.iadd, 1) := by decide +kernel
theorem dL_law_340 : decode cL_law 340 = .ok (.iaload, 1) := by decide +kernel
theorem dL_law_341 : decode cL_law 341 = .ok (.aload_n 0, 1) := by decide +kernel
theorem dL_law_342 : decode cL_law 342 = .ok (.iload_n 3, 1) := by decide +kernel
theorem dL_law_343 : decode cL_law 343 = .ok (.iconst 2, 1) := by decide +kernel
theorem dL_law_344 : decode cL_law 344 = .ok (.iadd, 1) := by decide +kernel
theorem dL_law_345 : decode cL_law 345 = .ok (.iaload, 1) := by decide +kernel
theorem dL_law_346 : decode cL_law 346 = .ok (.invokevirtual 31, 3) := by decide +kernel
theorem dL_law_349 : decode cL_law 349 = .ok (.if_icmp .eq 1126, 3) := by decide +kernel
theorem dL_law_354 : decode cL_law 354 = .ok (.aload_n 1, 1) := by decide +kernel
theorem dL_law_355 : decode cL_law 355 = .ok (.aload_n 0, 1) := by decide +kernel
theorem dL_law_356 : decode cL_law 356 = .ok (.iload_n 3, 1) := by decide +kernel
theorem dL_law_357 : decode cL_law 357 = .ok (.iconst 1, 1) := by decide +kernel
theorem dL_law_358 : decode cL_law 358 = .ok (.iadd, 1) := by decide +kernel
theorem dL_law_359 : decode cL_law 359 = .ok (.iaload, 1) := by decide +kernel
theorem dL_law_360 : decode cL_law 360 = .ok (.aload_n 0, 1) := by decide +kernel
theorem dL_law_361 : decode cL_law 361 = .ok (.iload_n 3, 1) := by decide +kernel
theorem dL_law_362 : decode cL_law 362 = .ok (.iconst 2, 1) := by decide +kernel
theorem dL_law_363 : decode cL_law 363 = .ok (.iadd, 1) := by decide +kernel
theorem dL_law_364 : decode cL_law 364 = .ok (.iaload, 1) := by decide +kernel
theorem dL_law_365 : decode cL_law 365 = .ok (.aload_n 0, 1) := by decide +kernel
theorem dL_law_366 : decode cL_law 366 = .ok (.iload_n 3, 1) := by decide +kernel
theorem dL_law_367 : decode cL_law 367 = .ok (.iconst 3, 1) := by decide +kernel
theorem dL_law_368 : decode cL_law 368 = .ok (.iadd, 1) := by decide +kernel
theorem dL_law_369 : decode cL_law 369 = .ok (.iaload, 1) := by decide +kernel
theorem dL_law_370 : decode cL_law 370 = .ok (.invokevirtual 32, 3) := by decide +kernel
theorem dL_law_373 : decode cL_law 373 = .ok (.aload_n 2, 1) := by decide +kernel
theorem dL_law_374 : decode cL_law 374 = .ok (.aload_n 0, 1) := by decide +kernel
theorem dL_law_375 : decode cL_law 375 = .ok (.iload_n 3, 1) := by decide +kernel
theorem dL_law_376 : decode cL_law 376 = .ok (.iconst 1, 1) := by decide +kernel
theorem dL_law_377 : decode cL_law 377 = .ok (.iadd, 1) := by decide +kernel
theorem dL_law_378 : decode cL_law 378 = .ok (.iaload, 1) := by decide +kernel
theorem dL_law_379 : decode cL_law 379 = .ok (.aload_n 0, 1) := by decide +kernel
theorem dL_law_380 : decode cL_law 380 = .ok (.iload_n 3, 1) := by decide +kernel
theorem dL_law_381 : decode cL_law 381 = .ok (.iconst 2, 1) := by decide +kernel
theorem dL_law_382 : decode cL_law 382 = .ok (.iadd, 1) := by decide +kernel
theorem dL_law_383 : decode cL_law 383 = .ok (.iaload, 1) := by decide +kernel
theorem dL_law_384 : decode cL_law 384 = .ok (.aload_n 0, 1) := by decide +kernel
theorem dL_law_385 : decode cL_law 385 = .ok (.iload_n 3, 1) := by decide +kernel
theorem dL_law_386 : decode cL_law 386 = .ok (.iconst 3, 1) := by decide +kernel
theorem dL_law_387 : decode cL_law 387 = .ok (.iadd, 1) := by decide +kernel
theorem dL_law_388 : decode cL_law 388 = .ok (.iaload, 1) := by decide +kernel
theorem dL_law_389 : decode cL_law 389 = .ok (.invokevirtual 36, 3) := by decide +kernel
theorem dL_law_392 : decode cL_law 392 = .ok (.if_icmp .eq 1083, 3) := by decide +kernel
theorem dL_law_397 : decode cL_law 397 = .ok (.aload_n 1, 1) := by decide +kernel
theorem dL_law_398 : decode cL_law 398 = .ok (.aload_n 0, 1) := by decide +kernel
theorem dL_law_399 : decode cL_law 399 = .ok (.iload_n 3, 1) := by decide +kernel
theorem dL_law_400 : decode cL_law 400 = .ok (.iconst 1, 1) := by decide +kernel
theorem dL_law_401 : decode cL_law 401 = .ok (.iadd, 1) := by decide +kernel
theorem dL_law_402 : decode cL_law 402 = .ok (.iaload, 1) := by decide +kernel
theorem dL_law_403 : decode cL_law 403 = .ok (.aload_n 0, 1) := by decide +kernel
theorem dL_law_404 : decode cL_law 404 = .ok (.iload_n 3, 1) := by decide +kernel
theorem dL_law_405 : decode cL_law 405 = .ok (.iconst 2, 1) := by decide +kernel
theorem dL_law_406 : decode cL_law 406 = .ok (.iadd, 1) := by decide +kernel
theorem dL_law_407 : decode cL_law 407 = .ok (.iaload, 1) := by decide +kernel
theorem dL_law_408 : decode cL_law 408 = .ok (.invokevirtual 37, 3) := by decide +kernel
theorem dL_law_411 : decode cL_law 411 = .ok (.aload_n 2, 1) := by decide +kernel
theorem dL_law_412 : decode cL_law 412 = .ok (.aload_n 0, 1) := by decide +kernel
theorem dL_law_413 : decode cL_law 413 = .ok (.iload_n 3, 1) := by decide +kernel
theorem dL_law_414 : decode cL_law 414 = .ok (.iconst 1, 1) := by decide +kernel
theorem dL_law_415 : decode cL_law 415 = .ok (.iadd, 1) := by decide +kernel
theorem dL_law_416 : decode cL_law 416 = .ok (.iaload, 1) := by decide +kernel
theorem dL_law_417 : decode cL_law 417 = .ok (.aload_n 0, 1) := by decide +kernel
theorem dL_law_418 : decode cL_law 418 = .ok (.iload_n 3, 1) := by decide +kernel
theorem dL_law_419 : decode cL_law 419 = .ok (.iconst 2, 1) := by decide +kernel
theorem dL_law_420 : decode cL_law 420 = .ok (.iadd, 1) := by decide +kernel
theorem dL_law_421 : decode cL_law 421 = .ok (.iaload, 1) := by decide +kernel
theorem dL_law_422 : decode cL_law 422 = .ok (.invokevirtual 40, 3) := by decide +kernel
theorem dL_law_425 : decode cL_law 425 = .ok (.if_icmp .eq 1050, 3) := by decide +kernel
theorem dL_law_430 : decode cL_law 430 = .ok (.aload_n 1, 1) := by decide +kernel
theorem dL_law_431 : decode cL_law 431 = .ok (.aload_n 0, 1) := by decide +kernel
theorem dL_law_432 : decode cL_law 432 = .ok (.iload_n 3, 1) := by decide +kernel
theorem dL_law_433 : decode cL_law 433 = .ok (.iconst 1, 1) := by decide +kernel
theorem dL_law_434 : decode cL_law 434 = .ok (.iadd, 1) := by decide +kernel
theorem dL_law_435 : decode cL_law 435 = .ok (.iaload, 1) := by decide +kernel
theorem dL_law_436 : decode cL_law 436 = .ok (.aload_n 0, 1) := by decide +kernel
theorem dL_law_437 : decode cL_law 437 = .ok (.iload_n 3, 1) := by decide +kernel
theorem dL_law_438 : decode cL_law 438 = .ok (.iconst 2, 1) := by decide +kernel
theorem dL_law_439 : decode cL_law 439 = .ok (.iadd, 1) := by decide +kernel
theorem dL_law_440 : decode cL_law 440 = .ok (.iaload, 1) := by decide +kernel
theorem dL_law_441 : decode cL_law 441 = .ok (.invokevirtual 41, 3) := by decide +kernel
theorem dL_law_444 : decode cL_law 444 = .ok (.aload_n 2, 1) := by decide +kernel
theorem dL_law_445 : decode cL_law 445 = .ok (.aload_n 0, 1) := by decide +kernel
theorem dL_law_446 : decode cL_law 446 = .ok (.iload_n 3, 1) := by decide +kernel
theorem dL_law_447 : decode cL_law 447 = .ok (.iconst 1, 1) := by decide +kernel
theorem dL_law_448 : decode cL_law 448 = .ok (.iadd, 1) := by decide +kernel
theorem dL_law_449 : decode cL_law 449 = .ok (.iaload, 1) := by decide +kernel
theorem dL_law_450 : decode cL_law 450 = .ok (.aload_n 0, 1) := by decide +kernel
theorem dL_law_451 : decode cL_law 451 = .ok (.iload_n 3, 1) := by decide +kernel
theorem dL_law_452 : decode cL_law 452 = .ok (.iconst 2, 1) := by decide +kernel
theorem dL_law_453 : decode cL_law 453 = .ok (.iadd, 1) := by decide +kernel
theorem dL_law_454 : decode cL_law 454 = .ok (.iaload, 1) := by decide +kernel
theorem dL_law_455 : decode cL_law 455 = .ok (.invokevirtual 44, 3) := by decide +kernel
theorem dL_law_458 : decode cL_law 458 = .ok (.if_icmp .eq 1017, 3) := by decide +kernel
theorem dL_law_463 : decode cL_law 463 = .ok (.aload_n 1, 1) := by decide +kernel
theorem dL_law_464 : decode cL_law 464 = .ok (.aload_n 0, 1) := by decide +kernel
theorem dL_law_465 : decode cL_law 465 = .ok (.iload_n 3, 1) := by decide +kernel
theorem dL_law_466 : decode cL_law 466 = .ok (.iconst 1, 1) := by decide +kernel
theorem dL_law_467 : decode cL_law 467 = .ok (.iadd, 1) := by decide +kernel
theorem dL_law_468 : decode cL_law 468 = .ok (.iaload, 1) := by decide +kernel
theorem dL_law_469 : decode cL_law 469 = .ok (.i2l, 1) := by decide +kernel
theorem dL_law_470 : decode cL_law 470 = .ok (.bipush 32, 2) := by decide +kernel
theorem dL_law_472 : decode cL_law 472 = .ok (.lshl, 1) := by decide +kernel
theorem dL_law_473 : decode cL_law 473 = .ok (.aload_n 0, 1) := by decide +kernel
theorem dL_law_474 : decode cL_law 474 = .ok (.iload_n 3, 1) := by decide +kernel
theorem dL_law_475 : decode cL_law 475 = .ok (.iconst 2, 1) := by decide +kernel
theorem dL_law_476 : decode cL_law 476 = .ok (.iadd, 1) := by decide +kernel
theorem dL_law_477 : decode cL_law 477 = .ok (.iaload, 1) := by decide +kernel
theorem dL_law_478 : decode cL_law 478 = .ok (.i2l, 1) := by decide +kernel
theorem dL_law_479 : decode cL_law 479 = .ok (.ldc2_w 45, 3) := by decide +kernel
theorem dL_law_482 : decode cL_law 482 = .ok (.land, 1) := by decide +kernel
theorem dL_law_483 : decode cL_law 483 = .ok (.lor, 1) := by decide +kernel
theorem dL_law_484 : decode cL_law 484 = .ok (.aload_n 0, 1) := by decide +kernel
theorem dL_law_485 : decode cL_law 485 = .ok (.iload_n 3, 1) := by decide +kernel
theorem dL_law_486 : decode cL_law 486 = .ok (.iconst 3, 1) := by decide +kernel
theorem dL_law_487 : decode cL_law 487 = .ok (.iadd, 1) := by decide +kernel
theorem dL_law_488 : decode cL_law 488 = .ok (.iaload, 1) := by decide +kernel
theorem dL_law_489 : decode cL_law 489 = .ok (.invokevirtual 47, 3) := by decide +kernel
theorem dL_law_492 : decode cL_law 492 = .ok (.aload_n 2, 1) := by decide +kernel
theorem dL_law_493 : decode cL_law 493 = .ok (.aload_n 0, 1) := by decide +kernel
theorem dL_law_494 : decode cL_law 494 = .ok (.iload_n 3, 1) := by decide +kernel
theorem dL_law_495 : decode cL_law 495 = .ok (.iconst 1, 1) := by decide +kernel
theorem dL_law_496 : decode cL_law 496 = .ok (.iadd, 1) := by decide +kernel
theorem dL_law_497 : decode cL_law 497 = .ok (.iaload, 1) := by decide +kernel
theorem dL_law_498 : decode cL_law 498 = .ok (.i2l, 1) := by decide +kernel
theorem dL_law_499 : decode cL_law 499 = .ok (.bipush 32, 2) := by decide +kernel
theorem dL_law_501 : decode cL_law 501 = .ok (.lshl, 1) := by decide +kernel
theorem dL_law_502 : decode cL_law 502 = .ok (.aload_n 0, 1) := by decide +kernel
theorem dL_law_503 : decode cL_law 503 = .ok (.iload_n 3, 1) := by decide +kernel
theorem dL_law_504 : decode cL_law 504 = .ok (.iconst 2, 1) := by decide +kernel
theorem dL_law_505 : decode cL_law 505 = .ok (.iadd, 1) := by decide +kernel
theorem dL_law_506 : decode cL_law 506 = .ok (.iaload, 1) := by decide +kernel
theorem dL_law_507 : decode cL_law 507 = .ok (.i2l, 1) := by decide +kernel
theorem dL_law_508 : decode cL_law 508 = .ok (.ldc2_w 45, 3) := by decide +kernel
theorem dL_law_511 : decode cL_law 511 = .ok (.land, 1) := by decide +kernel
theorem dL_law_512 : decode cL_law 512 = .ok (.lor, 1) := by decide +kernel
theorem dL_law_513 : decode cL_law 513 = .ok (.aload_n 0, 1) := by decide +kernel
theorem dL_law_514 : decode cL_law 514 = .ok (.iload_n 3, 1) := by decide +kernel
theorem dL_law_515 : decode cL_law 515 = .ok (.iconst 3, 1) := by decide +kernel
theorem dL_law_516 : decode cL_law 516 = .ok (.iadd, 1) := by decide +kernel
theorem dL_law_517 : decode cL_law 517 = .ok (.iaload, 1) := by decide +kernel
theorem dL_law_518 : decode cL_law 518 = .ok (.invokevirtual 51, 3) := by decide +kernel
theorem dL_law_521 : decode cL_law 521 = .ok (.if_icmp .eq 954, 3) := by decide +kernel
theorem dL_law_526 : decode cL_law 526 = .ok (.aload_n 1, 1) := by decide +kernel
theorem dL_law_527 : decode cL_law 527 = .ok (.aload_n 0, 1) := by decide +kernel
theorem dL_law_528 : decode cL_law 528 = .ok (.iload_n 3, 1) := by decide +kernel
theorem dL_law_529 : decode cL_law 529 = .ok (.iconst 1, 1) := by decide +kernel
theorem dL_law_530 : decode cL_law 530 = .ok (.iadd, 1) := by decide +kernel
theorem dL_law_531 : decode cL_law 531 = .ok (.iaload, 1) := by decide +kernel
theorem dL_law_532 : decode cL_law 532 = .ok (.invokevirtual 52, 3) := by decide +kernel
theorem dL_law_535 : decode cL_law 535 = .ok (.aload_n 2, 1) := by decide +kernel
theorem dL_law_536 : decode cL_law 536 = .ok (.aload_n 0, 1) := by decide +kernel
theorem dL_law_537 : decode cL_law 537 = .ok (.iload_n 3, 1) := by decide +kernel
theorem dL_law_538 : decode cL_law 538 = .ok (.iconst 1, 1) := by decide +kernel
theorem dL_law_539 : decode cL_law 539 = .ok (.iadd, 1) := by decide +kernel
theorem dL_law_540 : decode cL_law 540 = .ok (.iaload, 1) := by decide +kernel
theorem dL_law_541 : decode cL_law 541 = .ok (.invokevirtual 55, 3) := by decide +kernel
theorem dL_law_544 : decode cL_law 544 = .ok (.if_icmp .eq 931, 3) := by decide +kernel
theorem dL_law_549 : decode cL_law 549 = .ok (.aload_n 1, 1) := by decide +kernel
theorem dL_law_550 : decode cL_law 550 = .ok (.aload_n 0, 1) := by decide +kernel
theorem dL_law_551 : decode cL_law 551 = .ok (.iload_n 3, 1) := by decide +kernel
theorem dL_law_552 : decode cL_law 552 = .ok (.iconst 1, 1) := by decide +kernel
theorem dL_law_553 : decode cL_law 553 = .ok (.iadd, 1) := by decide +kernel
theorem dL_law_554 : decode cL_law 554 = .ok (.iaload, 1) := by decide +kernel
theorem dL_law_555 : decode cL_law 555 = .ok (.aload_n 0, 1) := by decide +kernel
theorem dL_law_556 : decode cL_law 556 = .ok (.iload_n 3, 1) := by decide +kernel
theorem dL_law_557 : decode cL_law 557 = .ok (.iconst 2, 1) := by decide +kernel
theorem dL_law_558 : decode cL_law 558 = .ok (.iadd, 1) := by decide +kernel
theorem dL_law_559 : decode cL_law 559 = .ok (.iaload, 1) := by decide +kernel
theorem dL_law_560 : decode cL_law 560 = .ok (.aload_n 0, 1) := by decide +kernel
theorem dL_law_561 : decode cL_law 561 = .ok (.iload_n 3, 1) := by decide +kernel
theorem dL_law_562 : decode cL_law 562 = .ok (.iconst 3, 1) := by decide +kernel
theorem dL_law_563 : decode cL_law 563 = .ok (.iadd, 1) := by decide +kernel
theorem dL_law_564 : decode cL_law 564 = .ok (.iaload, 1) := by decide +kernel
theorem dL_law_565 : decode cL_law 565 = .ok (.aload_n 0, 1) := by decide +kernel
theorem dL_law_566 : decode cL_law 566 = .ok (.iload_n 3, 1) := by decide +kernel
theorem dL_law_567 : decode cL_law 567 = .ok (.iconst 4, 1) := by decide +kernel
theorem dL_law_568 : decode cL_law 568 = .ok (.iadd, 1) := by decide +kernel
theorem dL_law_569 : decode cL_law 569 = .ok (.iaload, 1) := by decide +kernel
theorem dL_law_570 : decode cL_law 570 = .ok (.invokevirtual 56, 3) := by decide +kernel
theorem dL_law_573 : decode cL_law 573 = .ok (.aload_n 2, 1) := by decide +kernel
theorem dL_law_574 : decode cL_law 574 = .ok (.aload_n 0, 1) := by decide +kernel
theorem dL_law_575 : decode cL_law 575 = .ok (.iload_n 3, 1) := by decide +kernel
theorem dL_law_576 : decode cL_law 576 = .ok (.iconst 1, 1) := by decide +kernel
theorem dL_law_577 : decode cL_law 577 = .ok (.iadd, 1) := by decide +kernel
theorem dL_law_578 : decode cL_law 578 = .ok (.iaload, 1) := by decide +kernel
theorem dL_law_579 : decode cL_law 579 = .ok (.aload_n 0, 1) := by decide +kernel
theorem dL_law_580 : decode cL_law 580 = .ok (.iload_n 3, 1) := by decide +kernel
theorem dL_law_581 : decode cL_law 581 = .ok (.iconst 2, 1) := by decide +kernel
theorem dL_law_582 : decode cL_law 582 = .ok (.iadd, 1) := by decide +kernel
theorem dL_law_583 : decode cL_law 583 = .ok (.iaload, 1) := by decide +kernel
theorem dL_law_584 : decode cL_law 584 = .ok (.aload_n 0, 1) := by decide +kernel
theorem dL_law_585 : decode cL_law 585 = .ok (.iload_n 3, 1) := by decide +kernel
theorem dL_law_586 : decode cL_law 586 = .ok (.iconst 3, 1) := by decide +kernel
theorem dL_law_587 : decode cL_law 587 = .ok (.iadd, 1) := by decide +kernel
theorem dL_law_588 : decode cL_law 588 = .ok (.iaload, 1) := by decide +kernel
theorem dL_law_589 : decode cL_law 589 = .ok (.aload_n 0, 1) := by decide +kernel
theorem dL_law_590 : decode cL_law 590 = .ok (.iload_n 3, 1) := by decide +kernel
theorem dL_law_591 : decode cL_law 591 = .ok (.iconst 4, 1) := by decide +kernel
theorem dL_law_592 : decode cL_law 592 = .ok (.iadd, 1) := by decide +kernel
theorem dL_law_593 : decode cL_law 593 = .ok (.iaload, 1) := by decide +kernel
theorem dL_law_594 : decode cL_law 594 = .ok (.invokevirtual 59, 3) := by decide +kernel
theorem dL_law_597 : decode cL_law 597 = .ok (.if_icmp .eq 878, 3) := by decide +kernel
theorem dL_law_602 : decode cL_law 602 = .ok (.aload_n 1, 1) := by decide +kernel
theorem dL_law_603 : decode cL_law 603 = .ok (.aload_n 0, 1) := by decide +kernel
theorem dL_law_604 : decode cL_law 604 = .ok (.iload_n 3, 1) := by decide +kernel
theorem dL_law_605 : decode cL_law 605 = .ok (.iconst 1, 1) := by decide +kernel
theorem dL_law_606 : decode cL_law 606 = .ok (.iadd, 1) := by decide +kernel
theorem dL_law_607 : decode cL_law 607 = .ok (.iaload, 1) := by decide +kernel
theorem dL_law_608 : decode cL_law 608 = .ok (.invokevirtual 60, 3) := by decide +kernel
theorem dL_law_611 : decode cL_law 611 = .ok (.aload_n 2, 1) := by decide +kernel
theorem dL_law_612 : decode cL_law 612 = .ok (.aload_n 0, 1) := by decide +kernel
theorem dL_law_613 : decode cL_law 613 = .ok (.iload_n 3, 1) := by decide +kernel
theorem dL_law_614 : decode cL_law 614 = .ok (.iconst 1, 1) := by decide +kernel
theorem dL_law_615 : decode cL_law 615 = .ok (.iadd, 1) := by decide +kernel
theorem dL_law_616 : decode cL_law 616 = .ok (.iaload, 1) := by decide +kernel
theorem dL_law_617 : decode cL_law 617 = .ok (.invokevirtual 63, 3) := by decide +kernel
theorem dL_law_620 : decode cL_law 620 = .ok (.if_icmp .eq 855, 3) := by decide +kernel
theorem dL_law_625 : decode cL_law 625 = .ok (.aload_n 1, 1) := by decide +kernel
theorem dL_law_626 : decode cL_law 626 = .ok (.aload_n 0, 1) := by decide +kernel
theorem dL_law_627 : decode cL_law 627 = .ok (.iload_n 3, 1) := by decide +kernel
theorem dL_law_628 : decode cL_law 628 = .ok (.iconst 1, 1) := by decide +kernel
theorem dL_law_629 : decode cL_law 629 = .ok (.iadd, 1) := by decide +kernel
theorem dL_law_630 : decode cL_law 630 = .ok (.iaload, 1) := by decide +kernel
theorem dL_law_631 : decode cL_law 631 = .ok (.invokevirtual 64, 3) := by decide +kernel
theorem dL_law_634 : decode cL_law 634 = .ok (.aload_n 2, 1) := by decide +kernel
theorem dL_law_635 : decode cL_law 635 = .ok (.aload_n 0, 1) := by decide +kernel
theorem dL_law_636 : decode cL_law 636 = .ok (.iload_n 3, 1) := by decide +kernel
theorem dL_law_637 : decode cL_law 637 = .ok (.iconst 1, 1) := by decide +kernel
theorem dL_law_638 : decode cL_law 638 = .ok (.iadd, 1) := by decide +kernel
theorem dL_law_639 : decode cL_law 639 = .ok (.iaload, 1) := by decide +kernel
theorem dL_law_640 : decode cL_law 640 = .ok (.invokevirtual 67, 3) := by decide +kernel
theorem dL_law_643 : decode cL_law 643 = .ok (.if_icmp .eq 832, 3) := by decide +kernel
theorem dL_law_648 : decode cL_law 648 = .ok (.aload_n 1, 1) := by decide +kernel
theorem dL_law_649 : decode cL_law 649 = .ok (.aload_n 0, 1) := by decide +kernel
theorem dL_law_650 : decode cL_law 650 = .ok (.iload_n 3, 1) := by decide +kernel
theorem dL_law_651 : decode cL_law 651 = .ok (.iconst 1, 1) := by decide +kernel
theorem dL_law_652 : decode cL_law 652 = .ok (.iadd, 1) := by decide +kernel
theorem dL_law_653 : decode cL_law 653 = .ok (.iaload, 1) := by decide +kernel
theorem dL_law_654 : decode cL_law 654 = .ok (.aload_n 0, 1) := by decide +kernel
theorem dL_law_655 : decode cL_law 655 = .ok (.iload_n 3, 1) := by decide +kernel
theorem dL_law_656 : decode cL_law 656 = .ok (.iconst 2, 1) := by decide +kernel
theorem dL_law_657 : decode cL_law 657 = .ok (.iadd, 1) := by decide +kernel
theorem dL_law_658 : decode cL_law 658 = .ok (.iaload, 1) := by decide +kernel
theorem dL_law_659 : decode cL_law 659 = .ok (.aload_n 0, 1) := by decide +kernel
theorem dL_law_660 : decode cL_law 660 = .ok (.iload_n 3, 1) := by decide +kernel
theorem dL_law_661 : decode cL_law 661 = .ok (.iconst 3, 1) := by decide +kernel
theorem dL_law_662 : decode cL_law 662 = .ok (.iadd, 1) := by decide +kernel
theorem dL_law_663 : decode cL_law 663 = .ok (.iaload, 1) := by decide +kernel
theorem dL_law_664 : decode cL_law 664 = .ok (.invokevirtual 68, 3) := by decide +kernel
theorem dL_law_667 : decode cL_law 667 = .ok (.aload_n 2, 1) := by decide +kernel
theorem dL_law_668 : decode cL_law 668 = .ok (.aload_n 0, 1) := by decide +kernel
theorem dL_law_669 : decode cL_law 669 = .ok (.iload_n 3, 1) := by decide +kernel
theorem dL_law_670 : decode cL_law 670 = .ok (.iconst 1, 1) := by decide +kernel
theorem dL_law_671 : decode cL_law 671 = .ok (.iadd, 1) := by decide +kernel
theorem dL_law_672 : decode cL_law 672 = .ok (.iaload, 1) := by decide +kernel
theorem dL_law_673 : decode cL_law 673 = .ok (.aload_n 0, 1) := by decide +kernel
theorem dL_law_674 : decode cL_law 674 = .ok (.iload_n 3, 1) := by decide +kernel
theorem dL_law_675 : decode cL_law 675 = .ok (.iconst 2, 1) := by decide +kernel
theorem dL_law_676 : decode cL_law 676 = .ok (.iadd, 1) := by decide +kernel
theorem dL_law_677 : decode cL_law 677 = .ok (.iaload, 1) := by decide +kernel
theorem dL_law_678 : decode cL_law 678 = .ok (.aload_n 0, 1) := by decide +kernel
theorem dL_law_679 : decode cL_law 679 = .ok (.iload_n 3, 1) := by decide +kernel
theorem dL_law_680 : decode cL_law 680 = .ok (.iconst 3, 1) := by decide +kernel
theorem dL_law_681 : decode cL_law 681 = .ok (.iadd, 1) := by decide +kernel
theorem dL_law_682 : decode cL_law 682 = .ok (.iaload, 1) := by decide +kernel
theorem dL_law_683 : decode cL_law 683 = .ok (.invokevirtual 71, 3) := by decide +kernel
theorem dL_law_686 : decode cL_law 686 = .ok (.if_icmp .eq 789, 3) := by decide +kernel
theorem dL_law_691 : decode cL_law 691 = .ok (.aload_n 1, 1) := by decide +kernel
theorem dL_law_692 : decode cL_law 692 = .ok (.aload_n 0, 1) := by decide +kernel
theorem dL_law_693 : decode cL_law 693 = .ok (.iload_n 3, 1) := by decide +kernel
theorem dL_law_694 : decode cL_law 694 = .ok (.iconst 1, 1) := by decide +kernel
theorem dL_law_695 : decode cL_law 695 = .ok (.iadd, 1) := by decide +kernel
theorem dL_law_696 : decode cL_law 696 = .ok (.iaload, 1) := by decide +kernel
theorem dL_law_697 : decode cL_law 697 = .ok (.invokevirtual 72, 3) := by decide +kernel
theorem dL_law_700 : decode cL_law 700 = .ok (.aload_n 2, 1) := by decide +kernel
theorem dL_law_701 : decode cL_law 701 = .ok (.aload_n 0, 1) := by decide +kernel
theorem dL_law_702 : decode cL_law 702 = .ok (.iload_n 3, 1) := by decide +kernel
theorem dL_law_703 : decode cL_law 703 = .ok (.iconst 1, 1) := by decide +kernel
theorem dL_law_704 : decode cL_law 704 = .ok (.iadd, 1) := by decide +kernel
theorem dL_law_705 : decode cL_law 705 = .ok (.iaload, 1) := by decide +kernel
theorem dL_law_706 : decode cL_law 706 = .ok (.invokevirtual 75, 3) := by decide +kernel
theorem dL_law_709 : decode cL_law 709 = .ok (.if_icmp .eq 766, 3) := by decide +kernel
theorem dL_law_714 : decode cL_law 714 = .ok (.aload_n 1, 1) := by decide +kernel
theorem dL_law_715 : decode cL_law 715 = .ok (.aload_n 0, 1) := by decide +kernel
theorem dL_law_716 : decode cL_law 716 = .ok (.iload_n 3, 1) := by decide +kernel
theorem dL_law_717 : decode cL_law 717 = .ok (.iconst 1, 1) := by decide +kernel
theorem dL_law_718 : decode cL_law 718 = .ok (.iadd, 1) := by decide +kernel
theorem dL_law_719 : decode cL_law 719 = .ok (.iaload, 1) := by decide +kernel
theorem dL_law_720 : decode cL_law 720 = .ok (.invokevirtual 76, 3) := by decide +kernel
theorem dL_law_723 : decode cL_law 723 = .ok (.aload_n 2, 1) := by decide +kernel
theorem dL_law_724 : decode cL_law 724 = .ok (.aload_n 0, 1) := by decide +kernel
theorem dL_law_725 : decode cL_law 725 = .ok (.iload_n 3, 1) := by decide +kernel
theorem dL_law_726 : decode cL_law 726 = .ok (.iconst 1, 1) := by decide +kernel
theorem dL_law_727 : decode cL_law 727 = .ok (.iadd, 1) := by decide +kernel
theorem dL_law_728 : decode cL_law 728 = .ok (.iaload, 1) := by decide +kernel
theorem dL_law_729 : decode cL_law 729 = .ok (.invokevirtual 79, 3) := by decide +kernel
theorem dL_law_732 : decode cL_law 732 = .ok (.if_icmp .eq 743, 3) := by decide +kernel
theorem dL_law_737 : decode cL_law 737 = .ok (.aload_n 1, 1) := by decide +kernel
theorem dL_law_738 : decode cL_law 738 = .ok (.aload_n 0, 1) := by decide +kernel
theorem dL_law_739 : decode cL_law 739 = .ok (.iload_n 3, 1) := by decide +kernel
theorem dL_law_740 : decode cL_law 740 = .ok (.iconst 1, 1) := by decide +kernel
theorem dL_law_741 : decode cL_law 741 = .ok (.iadd, 1) := by decide +kernel
theorem dL_law_742 : decode cL_law 742 = .ok (.iaload, 1) := by decide +kernel
theorem dL_law_743 : decode cL_law 743 = .ok (.aload_n 0, 1) := by decide +kernel
theorem dL_law_744 : decode cL_law 744 = .ok (.iload_n 3, 1) := by decide +kernel
theorem dL_law_745 : decode cL_law 745 = .ok (.iconst 2, 1) := by decide +kernel
theorem dL_law_746 : decode cL_law 746 = .ok (.iadd, 1) := by decide +kernel
theorem dL_law_747 : decode cL_law 747 = .ok (.iaload, 1) := by decide +kernel
theorem dL_law_748 : decode cL_law 748 = .ok (.invokevirtual 80, 3) := by decide +kernel
theorem dL_law_751 : decode cL_law 751 = .ok (.aload_n 2, 1) := by decide +kernel
theorem dL_law_752 : decode cL_law 752 = .ok (.aload_n 0, 1) := by decide +kernel
theorem dL_law_753 : decode cL_law 753 = .ok (.iload_n 3, 1) := by decide +kernel
theorem dL_law_754 : decode cL_law 754 = .ok (.iconst 1, 1) := by decide +kernel
theorem dL_law_755 : decode cL_law 755 = .ok (.iadd, 1) := by decide +kernel
theorem dL_law_756 : decode cL_law 756 = .ok (.iaload, 1) := by decide +kernel
theorem dL_law_757 : decode cL_law 757 = .ok (.aload_n 0, 1) := by decide +kernel
theorem dL_law_758 : decode cL_law 758 = .ok (.iload_n 3, 1) := by decide +kernel
theorem dL_law_759 : decode cL_law 759 = .ok (.iconst 2, 1) := by decide +kernel
theorem dL_law_760 : decode cL_law 760 = .ok (.iadd, 1) := by decide +kernel
theorem dL_law_761 : decode cL_law 761 = .ok (.iaload, 1) := by decide +kernel
theorem dL_law_762 : decode cL_law 762 = .ok (.invokevirtual 83, 3) := by decide +kernel
theorem dL_law_765 : decode cL_law 765 = .ok (.if_icmp .eq 710, 3) := by decide +kernel
theorem dL_law_770 : decode cL_law 770 = .ok (.aload_n 1, 1) := by decide +kernel
theorem dL_law_771 : decode cL_law 771 = .ok (.aload_n 0, 1) := by decide +kernel
theorem dL_law_772 : decode cL_law 772 = .ok (.iload_n 3, 1) := by decide +kernel
theorem dL_law_773 : decode cL_law 773 = .ok (.iconst 1, 1) := by decide +kernel
theorem dL_law_774 : decode cL_law 774 = .ok (.iadd, 1) := by decide +kernel
theorem dL_law_775 : decode cL_law 775 = .ok (.iaload, 1) := by decide +kernel
theorem dL_law_776 : decode cL_law 776 = .ok (.aload_n 0, 1) := by decide +kernel
theorem dL_law_777 : decode cL_law 777 = .ok (.iload_n 3, 1) := by decide +kernel
theorem dL_law_778 : decode cL_law 778 = .ok (.iconst 2, 1) := by decide +kernel
theorem dL_law_779 : decode cL_law 779 = .ok (.iadd, 1) := by decide +kernel
theorem dL_law_780 : decode cL_law 780 = .ok (.iaload, 1) := by decide +kernel
theorem dL_law_781 : decode cL_law 781 = .ok (.invokevirtual 84, 3) := by decide +kernel
theorem dL_law_784 : decode cL_law 784 = .ok (.aload_n 2, 1) := by decide +kernel
theorem dL_law_785 : decode cL_law 785 = .ok (.aload_n 0, 1) := by decide +kernel
theorem dL_law_786 : decode cL_law 786 = .ok (.iload_n 3, 1) := by decide +kernel
theorem dL_law_787 : decode cL_law 787 = .ok (.iconst 1, 1) := by decide +kernel
theorem dL_law_788 : decode cL_law 788 = .ok (.iadd, 1) := by decide +kernel
theorem dL_law_789 : decode cL_law 789 = .ok (.iaload, 1) := by decide +kernel
theorem dL_law_790 : decode cL_law 790 = .ok (.aload_n 0, 1) := by decide +kernel
theorem dL_law_791 : decode cL_law 791 = .ok (.iload_n 3, 1) := by decide +kernel
theorem dL_law_792 : decode cL_law 792 = .ok (.iconst 2, 1) := by decide +kernel
theorem dL_law_793 : decode cL_law 793 = .ok (.iadd, 1) := by decide +kernel
theorem dL_law_794 : decode cL_law 794 = .ok (.iaload, 1) := by decide +kernel
theorem dL_law_795 : decode cL_law 795 = .ok (.invokevirtual 87, 3) := by decide +kernel
theorem dL_law_798 : decode cL_law 798 = .ok (.if_icmp .eq 677, 3) := by decide +kernel
theorem dL_law_803 : decode cL_law 803 = .ok (.aload_n 1, 1) := by decide +kernel
theorem dL_law_804 : decode cL_law 804 = .ok (.aload_n 0, 1) := by decide +kernel
theorem dL_law_805 : decode cL_law 805 = .ok (.iload_n 3, 1) := by decide +kernel
theorem dL_law_806 : decode cL_law 806 = .ok (.iconst 1, 1) := by decide +kernel
theorem dL_law_807 : decode cL_law 807 = .ok (.iadd, 1) := by decide +kernel
theorem dL_law_808 : decode cL_law 808 = .ok (.iaload, 1) := by decide +kernel
theorem dL_law_809 : decode cL_law 809 = .ok (.aload_n 0, 1) := by decide +kernel
theorem dL_law_810 : decode cL_law 810 = .ok (.iload_n 3, 1) := by decide +kernel
theorem dL_law_811 : decode cL_law 811 = .ok (.iconst 2, 1) := by decide +kernel
theorem dL_law_812 : decode cL_law 812 = .ok (.iadd, 1) := by decide +kernel
theorem dL_law_813 : decode cL_law 813 = .ok (.iaload, 1) := by decide +kernel
theorem dL_law_814 : decode cL_law 814 = .ok (.invokevirtual 88, 3) := by decide +kernel
theorem dL_law_817 : decode cL_law 817 = .ok (.aload_n 2, 1) := by decide +kernel
theorem dL_law_818 : decode cL_law 818 = .ok (.aload_n 0, 1) := by decide +kernel
theorem dL_law_819 : decode cL_law 819 = .ok (.iload_n 3, 1) := by decide +kernel
theorem dL_law_820 : decode cL_law 820 = .ok (.iconst 1, 1) := by decide +kernel
theorem dL_law_821 : decode cL_law 821 = .ok (.iadd, 1) := by decide +kernel
theorem dL_law_822 : decode cL_law 822 = .ok (.iaload, 1) := by decide +kernel
theorem dL_law_823 : decode cL_law 823 = .ok (.aload_n 0, 1) := by decide +kernel
theorem dL_law_824 : decode cL_law 824 = .ok (.iload_n 3, 1) := by decide +kernel
theorem dL_law_825 : decode cL_law 825 = .ok (.iconst 2, 1) := by decide +kernel
theorem dL_law_826 : decode cL_law 826 = .ok (.iadd, 1) := by decide +kernel
theorem dL_law_827 : decode cL_law 827 = .ok (.iaload, 1) := by decide +kernel
theorem dL_law_828 : decode cL_law 828 = .ok (.invokevirtual 91, 3) := by decide +kernel
theorem dL_law_831 : decode cL_law 831 = .ok (.if_icmp .eq 644, 3) := by decide +kernel
theorem dL_law_836 : decode cL_law 836 = .ok (.aload_n 1, 1) := by decide +kernel
theorem dL_law_837 : decode cL_law 837 = .ok (.aload_n 0, 1) := by decide +kernel
theorem dL_law_838 : decode cL_law 838 = .ok (.iload_n 3, 1) := by decide +kernel
theorem dL_law_839 : decode cL_law 839 = .ok (.iconst 1, 1) := by decide +kernel
theorem dL_law_840 : decode cL_law 840 = .ok (.iadd, 1) := by decide +kernel
theorem dL_law_841 : decode cL_law 841 = .ok (.iaload, 1) := by decide +kernel
theorem dL_law_842 : decode cL_law 842 = .ok (.aload_n 0, 1) := by decide +kernel
theorem dL_law_843 : decode cL_law 843 = .ok (.iload_n 3, 1) := by decide +kernel
theorem dL_law_844 : decode cL_law 844 = .ok (.iconst 2, 1) := by decide +kernel
theorem dL_law_845 : decode cL_law 845 = .ok (.iadd, 1) := by decide +kernel
theorem dL_law_846 : decode cL_law 846 = .ok (.iaload, 1) := by decide +kernel
theorem dL_law_847 : decode cL_law 847 = .ok (.invokevirtual 92, 3) := by decide +kernel
theorem dL_law_850 : decode cL_law 850 = .ok (.aload_n 2, 1) := by decide +kernel
theorem dL_law_851 : decode cL_law 851 = .ok (.aload_n 0, 1) := by decide +kernel
theorem dL_law_852 : decode cL_law 852 = .ok (.iload_n 3, 1) := by decide +kernel
theorem dL_law_853 : decode cL_law 853 = .ok (.iconst 1, 1) := by decide +kernel
theorem dL_law_854 : decode cL_law 854 = .ok (.iadd, 1) := by decide +kernel
theorem dL_law_855 : decode cL_law 855 = .ok (.iaload, 1) := by decide +kernel
theorem dL_law_856 : decode cL_law 856 = .ok (.aload_n 0, 1) := by decide +kernel
theorem dL_law_857 : decode cL_law 857 = .ok (.iload_n 3, 1) := by decide +kernel
theorem dL_law_858 : decode cL_law 858 = .ok (.iconst 2, 1) := by decide +kernel
theorem dL_law_859 : decode cL_law 859 = .ok (.iadd, 1) := by decide +kernel
theorem dL_law_860 : decode cL_law 860 = .ok (.iaload, 1) := by decide +kernel
theorem dL_law_861 : decode cL_law 861 = .ok (.invokevirtual 95, 3) := by decide +kernel
theorem dL_law_864 : decode cL_law 864 = .ok (.if_icmp .eq 611, 3) := by decide +kernel
theorem dL_law_869 : decode cL_law 869 = .ok (.aload_n 1, 1) := by decide +kernel
theorem dL_law_870 : decode cL_law 870 = .ok (.aload_n 0, 1) := by decide +kernel
theorem dL_law_871 : decode cL_law 871 = .ok (.iload_n 3, 1) := by decide +kernel
theorem dL_law_872 : decode cL_law 872 = .ok (.iconst 1, 1) := by decide +kernel
theorem dL_law_873 : decode cL_law 873 = .ok (.iadd, 1) := by decide +kernel
theorem dL_law_874 : decode cL_law 874 = .ok (.iaload, 1) := by decide +kernel
theorem dL_law_875 : decode cL_law 875 = .ok (.aload_n 0, 1) := by decide +kernel
theorem dL_law_876 : decode cL_law 876 = .ok (.iload_n 3, 1) := by decide +kernel
theorem dL_law_877 : decode cL_law 877 = .ok (.iconst 2, 1) := by decide +kernel
theorem dL_law_878 : decode cL_law 878 = .ok (.iadd, 1) := by decide +kernel
theorem dL_law_879 : decode cL_law 879 = .ok (.iaload, 1) := by decide +kernel
theorem dL_law_880 : decode cL_law 880 = .ok (.invokevirtual 96, 3) := by decide +kernel
theorem dL_law_883 : decode cL_law 883 = .ok (.aload_n 2, 1) := by decide +kernel
theorem dL_law_884 : decode cL_law 884 = .ok (.aload_n 0, 1) := by decide +kernel
theorem dL_law_885 : decode cL_law 885 = .ok (.iload_n 3, 1) := by decide +kernel
theorem dL_law_886 : decode cL_law 886 = .ok (.iconst 1, 1) := by decide +kernel
theorem dL_law_887 : decode cL_law 887 = .ok (.iadd, 1) := by decide +kernel
theorem dL_law_888 : decode cL_law 888 = .ok (.iaload, 1) := by decide +kernel
theorem dL_law_889 : decode cL_law 889 = .ok (.aload_n 0, 1) := by decide +kernel
theorem dL_law_890 : decode cL_law 890 = .ok (.iload_n 3, 1) := by decide +kernel
theorem dL_law_891 : decode cL_law 891 = .ok (.iconst 2, 1) := by decide +kernel
theorem dL_law_892 : decode cL_law 892 = .ok (.iadd, 1) := by decide +kernel
theorem dL_law_893 : decode cL_law 893 = .ok (.iaload, 1) := by decide +kernel
theorem dL_law_894 : decode cL_law 894 = .ok (.invokevirtual 99, 3) := by decide +kernel
theorem dL_law_897 : decode cL_law 897 = .ok (.if_icmp .eq 578, 3) := by decide +kernel
theorem dL_law_902 : decode cL_law 902 = .ok (.aload_n 1, 1) := by decide +kernel
theorem dL_law_903 : decode cL_law 903 = .ok (.aload_n 0, 1) := by decide +kernel
theorem dL_law_904 : decode cL_law 904 = .ok (.iload_n 3, 1) := by decide +kernel
theorem dL_law_905 : decode cL_law 905 = .ok (.iconst 1, 1) := by decide +kernel
theorem dL_law_906 : decode cL_law 906 = .ok (.iadd, 1) := by decide +kernel
theorem dL_law_907 : decode cL_law 907 = .ok (.iaload, 1) := by decide +kernel
theorem dL_law_908 : decode cL_law 908 = .ok (.invokevirtual 100, 3) := by decide +kernel
theorem dL_law_911 : decode cL_law 911 = .ok (.aload_n 2, 1) := by decide +kernel
theorem dL_law_912 : decode cL_law 912 = .ok (.aload_n 0, 1) := by decide +kernel
theorem dL_law_913 : decode cL_law 913 = .ok (.iload_n 3, 1) := by decide +kernel
theorem dL_law_914 : decode cL_law 914 = .ok (.iconst 1, 1) := by decide +kernel
theorem dL_law_915 : decode cL_law 915 = .ok (.iadd, 1) := by decide +kernel
theorem dL_law_916 : decode cL_law 916 = .ok (.iaload, 1) := by decide +kernel
theorem dL_law_917 : decode cL_law 917 = .ok (.invokevirtual 103, 3) := by decide +kernel
theorem dL_law_920 : decode cL_law 920 = .ok (.if_icmp .eq 555, 3) := by decide +kernel
theorem dL_law_925 : decode cL_law 925 = .ok (.aload_n 1, 1) := by decide +kernel
theorem dL_law_926 : decode cL_law 926 = .ok (.aload_n 0, 1) := by decide +kernel
theorem dL_law_927 : decode cL_law 927 = .ok (.iload_n 3, 1) := by decide +kernel
theorem dL_law_928 : decode cL_law 928 = .ok (.iconst 1, 1) := by decide +kernel
theorem dL_law_929 : decode cL_law 929 = .ok (.iadd, 1) := by decide +kernel
theorem dL_law_930 : decode cL_law 930 = .ok (.iaload, 1) := by decide +kernel
theorem dL_law_931 : decode cL_law 931 = .ok (.aload_n 0, 1) := by decide +kernel
theorem dL_law_932 : decode cL_law 932 = .ok (.iload_n 3, 1) := by decide +kernel
theorem dL_law_933 : decode cL_law 933 = .ok (.iconst 2, 1) := by decide +kernel
theorem dL_law_934 : decode cL_law 934 = .ok (.iadd, 1) := by decide +kernel
theorem dL_law_935 : decode cL_law 935 = .ok (.iaload, 1) := by decide +kernel
theorem dL_law_936 : decode cL_law 936 = .ok (.invokevirtual 104, 3) := by decide +kernel
theorem dL_law_939 : decode cL_law 939 = .ok (.aload_n 2, 1) := by decide +kernel
theorem dL_law_940 : decode cL_law 940 = .ok (.aload_n 0, 1) := by decide +kernel
theorem dL_law_941 : decode cL_law 941 = .ok (.iload_n 3, 1) := by decide +kernel
theorem dL_law_942 : decode cL_law 942 = .ok (.iconst 1, 1) := by decide +kernel
theorem dL_law_943 : decode cL_law 943 = .ok (.iadd, 1) := by decide +kernel
theorem dL_law_944 : decode cL_law 944 = .ok (.iaload, 1) := by decide +kernel
theorem dL_law_945 : decode cL_law 945 = .ok (.aload_n 0, 1) := by decide +kernel
theorem dL_law_946 : decode cL_law 946 = .ok (.iload_n 3, 1) := by decide +kernel
theorem dL_law_947 : decode cL_law 947 = .ok (.iconst 2, 1) := by decide +kernel
theorem dL_law_948 : decode cL_law 948 = .ok (.iadd, 1) := by decide +kernel
theorem dL_law_949 : decode cL_law 949 = .ok (.iaload, 1) := by decide +kernel
theorem dL_law_950 : decode cL_law 950 = .ok (.invokevirtual 107, 3) := by decide +kernel
theorem dL_law_953 : decode cL_law 953 = .ok (.if_icmp .eq 522, 3) := by decide +kernel
theorem dL_law_958 : decode cL_law 958 = .ok (.aload_n 1, 1) := by decide +kernel
theorem dL_law_959 : decode cL_law 959 = .ok (.aload_n 0, 1) := by decide +kernel
theorem dL_law_960 : decode cL_law 960 = .ok (.iload_n 3, 1) := by decide +kernel
theorem dL_law_961 : decode cL_law 961 = .ok (.iconst 1, 1) := by decide +kernel
theorem dL_law_962 : decode cL_law 962 = .ok (.iadd, 1) := by decide +kernel
theorem dL_law_963 : decode cL_law 963 = .ok (.iaload, 1) := by decide +kernel
theorem dL_law_964 : decode cL_law 964 = .ok (.invokevirtual 108, 3) := by decide +kernel
theorem dL_law_967 : decode cL_law 967 = .ok (.aload_n 2, 1) := by decide +kernel
theorem dL_law_968 : decode cL_law 968 = .ok (.aload_n 0, 1) := by decide +kernel
theorem dL_law_969 : decode cL_law 969 = .ok (.iload_n 3, 1) := by decide +kernel
theorem dL_law_970 : decode cL_law 970 = .ok (.iconst 1, 1) := by decide +kernel
theorem dL_law_971 : decode cL_law 971 = .ok (.iadd, 1) := by decide +kernel
theorem dL_law_972 : decode cL_law 972 = .ok (.iaload, 1) := by decide +kernel
theorem dL_law_973 : decode cL_law 973 = .ok (.invokevirtual 111, 3) := by decide +kernel
theorem dL_law_976 : decode cL_law 976 = .ok (.if_icmp .eq 499, 3) := by decide +kernel
theorem dL_law_981 : decode cL_law 981 = .ok (.aload_n 1, 1) := by decide +kernel
theorem dL_law_982 : decode cL_law 982 = .ok (.aload_n 0, 1) := by decide +kernel
theorem dL_law_983 : decode cL_law 983 = .ok (.iload_n 3, 1) := by decide +kernel
theorem dL_law_984 : decode cL_law 984 = .ok (.iconst 1, 1) := by decide +kernel
theorem dL_law_985 : decode cL_law 985 = .ok (.iadd, 1) := by decide +kernel
theorem dL_law_986 : decode cL_law 986 = .ok (.iaload, 1) := by decide +kernel
theorem dL_law_987 : decode cL_law 987 = .ok (.invokevirtual 112, 3) := by decide +kernel
theorem dL_law_990 : decode cL_law 990 = .ok (.aload_n 2, 1) := by decide +kernel
theorem dL_law_991 : decode cL_law 991 = .ok (.aload_n 0, 1) := by decide +kernel
theorem dL_law_992 : decode cL_law 992 = .ok (.iload_n 3, 1) := by decide +kernel
theorem dL_law_993 : decode cL_law 993 = .ok (.iconst 1, 1) := by decide +kernel
theorem dL_law_994 : decode cL_law 994 = .ok (.iadd, 1) := by decide +kernel
theorem dL_law_995 : decode cL_law 995 = .ok (.iaload, 1) := by decide +kernel
theorem dL_law_996 : decode cL_law 996 = .ok (.invokevirtual 115, 3) := by decide +kernel
theorem dL_law_999 : decode cL_law 999 = .ok (.if_icmp .eq 476, 3) := by decide +kernel
theorem dL_law_1004 : decode cL_law 1004 = .ok (.aload_n 1, 1) := by decide +kernel
theorem dL_law_1005 : decode cL_law 1005 = .ok (.aload_n 0, 1) := by decide +kernel
theorem dL_law_1006 : decode cL_law 1006 = .ok (.iload_n 3, 1) := by decide +kernel
theorem dL_law_1007 : decode cL_law 1007 = .ok (.iconst 1, 1) := by decide +kernel
theorem dL_law_1008 : decode cL_law 1008 = .ok (.iadd, 1) := by decide +kernel
theorem dL_law_1009 : decode cL_law 1009 = .ok (.iaload, 1) := by decide +kernel
theorem dL_law_1010 : decode cL_law 1010 = .ok (.invokevirtual 116, 3) := by decide +kernel
theorem dL_law_1013 : decode cL_law 1013 = .ok (.aload_n 2, 1) := by decide +kernel
theorem dL_law_1014 : decode cL_law 1014 = .ok (.aload_n 0, 1) := by decide +kernel
theorem dL_law_1015 : decode cL_law 1015 = .ok (.iload_n 3, 1) := by decide +kernel
theorem dL_law_1016 : decode cL_law 1016 = .ok (.iconst 1, 1) := by decide +kernel
theorem dL_law_1017 : decode cL_law 1017 = .ok (.iadd, 1) := by decide +kernel
theorem dL_law_1018 : decode cL_law 1018 = .ok (.iaload, 1) := by decide +kernel
theorem dL_law_1019 : decode cL_law 1019 = .ok (.invokevirtual 119, 3) := by decide +kernel
theorem dL_law_1022 : decode cL_law 1022 = .ok (.if_icmp .eq 453, 3) := by decide +kernel
theorem dL_law_1027 : decode cL_law 1027 = .ok (.aload_n 1, 1) := by decide +kernel
theorem dL_law_1028 : decode cL_law 1028 = .ok (.invokevirtual 120, 3) := by decide +kernel
theorem dL_law_1031 : decode cL_law 1031 = .ok (.aload_n 2, 1) := by decide +kernel
theorem dL_law_1032 : decode cL_law 1032 = .ok (.invokevirtual 124, 3) := by decide +kernel
theorem dL_law_1035 : decode cL_law 1035 = .ok (.if_icmp .eq 440, 3) := by decide +kernel
theorem dL_law_1040 : decode cL_law 1040 = .ok (.aload_n 1, 1) := by decide +kernel
theorem dL_law_1041 : decode cL_law 1041 = .ok (.aload_n 0, 1) := by decide +kernel
theorem dL_law_1042 : decode cL_law 1042 = .ok (.iload_n 3, 1) := by decide +kernel
theorem dL_law_1043 : decode cL_law 1043 = .ok (.iconst 1, 1) := by decide +kernel
theorem dL_law_1044 : decode cL_law 1044 = .ok (.iadd, 1) := by decide +kernel
theorem dL_law_1045 : decode cL_law 1045 = .ok (.iaload, 1) := by decide +kernel
theorem dL_law_1046 : decode cL_law 1046 = .ok (.aload_n 0, 1) := by decide +kernel
theorem dL_law_1047 : decode cL_law 1047 = .ok (.iload_n 3, 1) := by decide +kernel
theorem dL_law_1048 : decode cL_law 1048 = .ok (.iconst 2, 1) := by decide +kernel
theorem dL_law_1049 : decode cL_law 1049 = .ok (.iadd, 1) := by decide +kernel
theorem dL_law_1050 : decode cL_law 1050 = .ok (.iaload, 1) := by decide +kernel
theorem dL_law_1051 : decode cL_law 1051 = .ok (.aload_n 0, 1) := by decide +kernel
theorem dL_law_1052 : decode cL_law 1052 = .ok (.iload_n 3, 1) := by decide +kernel
theorem dL_law_1053 : decode cL_law 1053 = .ok (.iconst 3, 1) := by decide +kernel
theorem dL_law_1054 : decode cL_law 1054 = .ok (.iadd, 1) := by decide +kernel
theorem dL_law_1055 : decode cL_law 1055 = .ok (.iaload, 1) := by decide +kernel
theorem dL_law_1056 : decode cL_law 1056 = .ok (.invokevirtual 125, 3) := by decide +kernel
theorem dL_law_1059 : decode cL_law 1059 = .ok (.aload_n 2, 1) := by decide +kernel
theorem dL_law_1060 : decode cL_law 1060 = .ok (.aload_n 0, 1) := by decide +kernel
theorem dL_law_1061 : decode cL_law 1061 = .ok (.iload_n 3, 1) := by decide +kernel
theorem dL_law_1062 : decode cL_law 1062 = .ok (.iconst 1, 1) := by decide +kernel
theorem dL_law_1063 : decode cL_law 1063 = .ok (.iadd, 1) := by decide +kernel
theorem dL_law_1064 : decode cL_law 1064 = .ok (.iaload, 1) := by decide +kernel
theorem dL_law_1065 : decode cL_law 1065 = .ok (.aload_n 0, 1) := by decide +kernel
theorem dL_law_1066 : decode cL_law 1066 = .ok (.iload_n 3, 1) := by decide +kernel
theorem dL_law_1067 : decode cL_law 1067 = .ok (.iconst 2, 1) := by decide +kernel
theorem dL_law_1068 : decode cL_law 1068 = .ok (.iadd, 1) := by decide +kernel
theorem dL_law_1069 : decode cL_law 1069 = .ok (.iaload, 1) := by decide +kernel
theorem dL_law_1070 : decode cL_law 1070 = .ok (.aload_n 0, 1) := by decide +kernel
theorem dL_law_1071 : decode cL_law 1071 = .ok (.iload_n 3, 1) := by decide +kernel
theorem dL_law_1072 : decode cL_law 1072 = .ok (.iconst 3, 1) := by decide +kernel
theorem dL_law_1073 : decode cL_law 1073 = .ok (.iadd, 1) := by decide +kernel
theorem dL_law_1074 : decode cL_law 1074 = .ok (.iaload, 1) := by decide +kernel
theorem dL_law_1075 : decode cL_law 1075 = .ok (.invokevirtual 128, 3) := by decide +kernel
theorem dL_law_1078 : decode cL_law 1078 = .ok (.if_icmp .eq 397, 3) := by decide +kernel
theorem dL_law_1083 : decode cL_law 1083 = .ok (.aload_n 1, 1) := by decide +kernel
theorem dL_law_1084 : decode cL_law 1084 = .ok (.aload_n 0, 1) := by decide +kernel
theorem dL_law_1085 : decode cL_law 1085 = .ok (.iload_n 3, 1) := by decide +kernel
theorem dL_law_1086 : decode cL_law 1086 = .ok (.iconst 1, 1) := by decide +kernel
theorem dL_law_1087 : decode cL_law 1087 = .ok (.iadd, 1) := by decide +kernel
theorem dL_law_1088 : decode cL_law 1088 = .ok (.iaload, 1) := by decide +kernel
theorem dL_law_1089 : decode cL_law 1089 = .ok (.invokevirtual 129, 3) := by decide +kernel
theorem dL_law_1092 : decode cL_law 1092 = .ok (.aload_n 2, 1) := by decide +kernel
theorem dL_law_1093 : decode cL_law 1093 = .ok (.aload_n 0, 1) := by decide +kernel
theorem dL_law_1094 : decode cL_law 1094 = .ok (.iload_n 3, 1) := by decide +kernel
theorem dL_law_1095 : decode cL_law 1095 = .ok (.iconst 1, 1) := by decide +kernel
theorem dL_law_1096 : decode cL_law 1096 = .ok (.iadd, 1) := by decide +kernel
theorem dL_law_1097 : decode cL_law 1097 = .ok (.iaload, 1) := by decide +kernel
theorem dL_law_1098 : decode cL_law 1098 = .ok (.invokevirtual 132, 3) := by decide +kernel
theorem dL_law_1101 : decode cL_law 1101 = .ok (.if_icmp .eq 374, 3) := by decide +kernel
theorem dL_law_1106 : decode cL_law 1106 = .ok (.aload_n 1, 1) := by decide +kernel
theorem dL_law_1107 : decode cL_law 1107 = .ok (.aload_n 0, 1) := by decide +kernel
theorem dL_law_1108 : decode cL_law 1108 = .ok (.iload_n 3, 1) := by decide +kernel
theorem dL_law_1109 : decode cL_law 1109 = .ok (.iconst 1, 1) := by decide +kernel
theorem dL_law_1110 : decode cL_law 1110 = .ok (.iadd, 1) := by decide +kernel
theorem dL_law_1111 : decode cL_law 1111 = .ok (.iaload, 1) := by decide +kernel
theorem dL_law_1112 : decode cL_law 1112 = .ok (.aload_n 0, 1) := by decide +kernel
theorem dL_law_1113 : decode cL_law 1113 = .ok (.iload_n 3, 1) := by decide +kernel
theorem dL_law_1114 : decode cL_law 1114 = .ok (.iconst 2, 1) := by decide +kernel
theorem dL_law_1115 : decode cL_law 1115 = .ok (.iadd, 1) := by decide +kernel
theorem dL_law_1116 : decode cL_law 1116 = .ok (.iaload, 1) := by decide +kernel
theorem dL_law_1117 : decode cL_law 1117 = .ok (.aload_n 0, 1) := by decide +kernel
theorem dL_law_1118 : decode cL_law 1118 = .ok (.iload_n 3, 1) := by decide +kernel
theorem dL_law_1119 : decode cL_law 1119 = .ok (.iconst 3, 1) := by decide +kernel
theorem dL_law_1120 : decode cL_law 1120 = .ok (.iadd, 1) := by decide +kernel
theorem dL_law_1121 : decode cL_law 1121 = .ok (.iaload, 1) := by decide +kernel
theorem dL_law_1122 : decode cL_law 1122 = .ok (.invokevirtual 133, 3) := by decide +kernel
theorem dL_law_1125 : decode cL_law 1125 = .ok (.aload_n 2, 1) := by decide +kernel
theorem dL_law_1126 : decode cL_law 1126 = .ok (.aload_n 0, 1) := by decide +kernel
theorem dL_law_1127 : decode cL_law 1127 = .ok (.iload_n 3, 1) := by decide +kernel
theorem dL_law_1128 : decode cL_law 1128 = .ok (.iconst 1, 1) := by decide +kernel
theorem dL_law_1129 : decode cL_law 1129 = .ok (.iadd, 1) := by decide +kernel
theorem dL_law_1130 : decode cL_law 1130 = .ok (.iaload, 1) := by decide +kernel
theorem dL_law_1131 : decode cL_law 1131 = .ok (.aload_n 0, 1) := by decide +kernel
theorem dL_law_1132 : decode cL_law 1132 = .ok (.iload_n 3, 1) := by decide +kernel
theorem dL_law_1133 : decode cL_law 1133 = .ok (.iconst 2, 1) := by decide +kernel
theorem dL_law_1134 : decode cL_law 1134 = .ok (.iadd, 1) := by decide +kernel
theorem dL_law_1135 : decode cL_law 1135 = .ok (.iaload, 1) := by decide +kernel
theorem dL_law_1136 : decode cL_law 1136 = .ok (.aload_n 0, 1) := by decide +kernel
theorem dL_law_1137 : decode cL_law 1137 = .ok (.iload_n 3, 1) := by decide +kernel
theorem dL_law_1138 : decode cL_law 1138 = .ok (.iconst 3, 1) := by decide +kernel
theorem dL_law_1139 : decode cL_law 1139 = .ok (.iadd, 1) := by decide +kernel
theorem dL_law_1140 : decode cL_law 1140 = .ok (.iaload, 1) := by decide +kernel
theorem dL_law_1141 : decode cL_law 1141 = .ok (.invokevirtual 136, 3) := by decide +kernel
theorem dL_law_1144 : decode cL_law 1144 = .ok (.if_icmp .eq 331, 3) := by decide +kernel
theorem dL_law_1149 : decode cL_law 1149 = .ok (.aload_n 1, 1) := by decide +kernel
theorem dL_law_1150 : decode cL_law 1150 = .ok (.aload_n 0, 1) := by decide +kernel
theorem dL_law_1151 : decode cL_law 1151 = .ok (.iload_n 3, 1) := by decide +kernel
theorem dL_law_1152 : decode cL_law 1152 = .ok (.iconst 1, 1) := by decide +kernel
theorem dL_law_1153 : decode cL_law 1153 = .ok (.iadd, 1) := by decide +kernel
theorem dL_law_1154 : decode cL_law 1154 = .ok (.iaload, 1) := by decide +kernel
theorem dL_law_1155 : decode cL_law 1155 = .ok (.invokevirtual 137, 3) := by decide +kernel
theorem dL_law_1158 : decode cL_law 1158 = .ok (.aload_n 2, 1) := by decide +kernel
theorem dL_law_1159 : decode cL_law 1159 = .ok (.aload_n 0, 1) := by decide +kernel
theorem dL_law_1160 : decode cL_law 1160 = .ok (.iload_n 3, 1) := by decide +kernel
theorem dL_law_1161 : decode cL_law 1161 = .ok (.iconst 1, 1) := by decide +kernel
theorem dL_law_1162 : decode cL_law 1162 = .ok (.iadd, 1) := by decide +kernel
theorem dL_law_1163 : decode cL_law 1163 = .ok (.iaload, 1) := by decide +kernel
theorem dL_law_1164 : decode cL_law 1164 = .ok (.invokevirtual 140, 3) := by decide +kernel
theorem dL_law_1167 : decode cL_law 1167 = .ok (.if_icmp .eq 308, 3) := by decide +kernel
theorem dL_law_1172 : decode cL_law 1172 = .ok (.aload_n 1, 1) := by decide +kernel
theorem dL_law_1173 : decode cL_law 1173 = .ok (.aload_n 0, 1) := by decide +kernel
theorem dL_law_1174 : decode cL_law 1174 = .ok (.iload_n 3, 1) := by decide +kernel
theorem dL_law_1175 : decode cL_law 1175 = .ok (.iconst 1, 1) := by decide +kernel
theorem dL_law_1176 : decode cL_law 1176 = .ok (.iadd, 1) := by decide +kernel
theorem dL_law_1177 : decode cL_law 1177 = .ok (.iaload, 1) := by decide +kernel
theorem dL_law_1178 : decode cL_law 1178 = .ok (.aload_n 0, 1) := by decide +kernel
theorem dL_law_1179 : decode cL_law 1179 = .ok (.iload_n 3, 1) := by decide +kernel
theorem dL_law_1180 : decode cL_law 1180 = .ok (.iconst 2, 1) := by decide +kernel
theorem dL_law_1181 : decode cL_law 1181 = .ok (.iadd, 1) := by decide +kernel
theorem dL_law_1182 : decode cL_law 1182 = .ok (.iaload, 1) := by decide +kernel
theorem dL_law_1183 : decode cL_law 1183 = .ok (.aload_n 0, 1) := by decide +kernel
theorem dL_law_1184 : decode cL_law 1184 = .ok (.iload_n 3, 1) := by decide +kernel
theorem dL_law_1185 : decode cL_law 1185 = .ok (.iconst 3, 1) := by decide +kernel
theorem dL_law_1186 : decode cL_law 1186 = .ok (.iadd, 1) := by decide +kernel
theorem dL_law_1187 : decode cL_law 1187 = .ok (.iaload, 1) := by decide +kernel
theorem dL_law_1188 : decode cL_law 1188 = .ok (.invokevirtual 141, 3) := by decide +kernel
theorem dL_law_1191 : decode cL_law 1191 = .ok (.aload_n 2, 1) := by decide +kernel
theorem dL_law_1192 : decode cL_law 1192 = .ok (.aload_n 0, 1) := by decide +kernel
theorem dL_law_1193 : decode cL_law 1193 = .ok (.iload_n 3, 1) := by decide +kernel
theorem dL_law_1194 : decode cL_law 1194 = .ok (.iconst 1, 1) := by decide +kernel
theorem dL_law_1195 : decode cL_law 1195 = .ok (.iadd, 1) := by decide +kernel
theorem dL_law_1196 : decode cL_law 1196 = .ok (.iaload, 1) := by decide +kernel
theorem dL_law_1197 : decode cL_law 1197 = .ok (.aload_n 0, 1) := by decide +kernel
theorem dL_law_1198 : decode cL_law 1198 = .ok (.iload_n 3, 1) := by decide +kernel
theorem dL_law_1199 : decode cL_law 1199 = .ok (.iconst 2, 1) := by decide +kernel
theorem dL_law_1200 : decode cL_law 1200 = .ok (.iadd, 1) := by decide +kernel
theorem dL_law_1201 : decode cL_law 1201 = .ok (.iaload, 1) := by decide +kernel
theorem dL_law_1202 : decode cL_law 1202 = .ok (.aload_n 0, 1) := by decide +kernel
theorem dL_law_1203 : decode cL_law 1203 = .ok (.iload_n 3, 1) := by decide +kernel
theorem dL_law_1204 : decode cL_law 1204 = .ok (.iconst 3, 1) := by decide +kernel
theorem dL_law_1205 : decode cL_law 1205 = .ok (.iadd, 1) := by decide +kernel
theorem dL_law_1206 : decode cL_law 1206 = .ok (.iaload, 1) := by decide +kernel
theorem dL_law_1207 : decode cL_law 1207 = .ok (.invokevirtual 144, 3) := by decide +kernel
theorem dL_law_1210 : decode cL_law 1210 = .ok (.if_icmp .eq 265, 3) := by decide +kernel
theorem dL_law_1215 : decode cL_law 1215 = .ok (.aload_n 1, 1) := by decide +kernel
theorem dL_law_1216 : decode cL_law 1216 = .ok (.aload_n 0, 1) := by decide +kernel
theorem dL_law_1217 : decode cL_law 1217 = .ok (.iload_n 3, 1) := by decide +kernel
theorem dL_law_1218 : decode cL_law 1218 = .ok (.iconst 1, 1) := by decide +kernel
theorem dL_law_1219 : decode cL_law 1219 = .ok (.iadd, 1) := by decide +kernel
theorem dL_law_1220 : decode cL_law 1220 = .ok (.iaload, 1) := by decide +kernel
theorem dL_law_1221 : decode cL_law 1221 = .ok (.aload_n 0, 1) := by decide +kernel
theorem dL_law_1222 : decode cL_law 1222 = .ok (.iload_n 3, 1) := by decide +kernel
theorem dL_law_1223 : decode cL_law 1223 = .ok (.iconst 2, 1) := by decide +kernel
theorem dL_law_1224 : decode cL_law 1224 = .ok (.iadd, 1) := by decide +kernel
theorem dL_law_1225 : decode cL_law 1225 = .ok (.iaload, 1) := by decide +kernel
theorem dL_law_1226 : decode cL_law 1226 = .ok (.aload_n 0, 1) := by decide +kernel
theorem dL_law_1227 : decode cL_law 1227 = .ok (.iload_n 3, 1) := by decide +kernel
theorem dL_law_1228 : decode cL_law 1228 = .ok (.iconst 3, 1) := by decide +kernel
theorem dL_law_1229 : decode cL_law 1229 = .ok (.iadd, 1) := by decide +kernel
theorem dL_law_1230 : decode cL_law 1230 = .ok (.iaload, 1) := by decide +kernel
theorem dL_law_1231 : decode cL_law 1231 = .ok (.invokevirtual 145, 3) := by decide +kernel
theorem dL_law_1234 : decode cL_law 1234 = .ok (.aload_n 2, 1) := by decide +kernel
theorem dL_law_1235 : decode cL_law 1235 = .ok (.aload_n 0, 1) := by decide +kernel
theorem dL_law_1236 : decode cL_law 1236 = .ok (.iload_n 3, 1) := by decide +kernel
theorem dL_law_1237 : decode cL_law 1237 = .ok (.iconst 1, 1) := by decide +kernel
theorem dL_law_1238 : decode cL_law 1238 = .ok (.iadd, 1) := by decide +kernel
theorem dL_law_1239 : decode cL_law 1239 = .ok (.iaload, 1) := by decide +kernel
theorem dL_law_1240 : decode cL_law 1240 = .ok (.aload_n 0, 1) := by decide +kernel
theorem dL_law_1241 : decode cL_law 1241 = .ok (.iload_n 3, 1) := by decide +kernel
theorem dL_law_1242 : decode cL_law 1242 = .ok (.iconst 2, 1) := by decide +kernel
theorem dL_law_1243 : decode cL_law 1243 = .ok (.iadd, 1) := by decide +kernel
theorem dL_law_1244 : decode cL_law 1244 = .ok (.iaload, 1) := by decide +kernel
theorem dL_law_1245 : decode cL_law 1245 = .ok (.aload_n 0, 1) := by decide +kernel
theorem dL_law_1246 : decode cL_law 1246 = .ok (.iload_n 3, 1) := by decide +kernel
theorem dL_law_1247 : decode cL_law 1247 = .ok (.iconst 3, 1) := by decide +kernel
theorem dL_law_1248 : decode cL_law 1248 = .ok (.iadd, 1) := by decide +kernel
theorem dL_law_1249 : decode cL_law 1249 = .ok (.iaload, 1) := by decide +kernel
theorem dL_law_1250 : decode cL_law 1250 = .ok (.invokevirtual 148, 3) := by decide +kernel
theorem dL_law_1253 : decode cL_law 1253 = .ok (.if_icmp .eq 222, 3) := by decide +kernel
theorem dL_law_1258 : decode cL_law 1258 = .ok (.aload_n 1, 1) := by decide +kernel
theorem dL_law_1259 : decode cL_law 1259 = .ok (.aload_n 0, 1) := by decide +kernel
theorem dL_law_1260 : decode cL_law 1260 = .ok (.iload_n 3, 1) := by decide +kernel
theorem dL_law_1261 : decode cL_law 1261 = .ok (.iconst 1, 1) := by decide +kernel
theorem dL_law_1262 : decode cL_law 1262 = .ok (.iadd, 1) := by decide +kernel
theorem dL_law_1263 : decode cL_law 1263 = .ok (.iaload, 1) := by decide +kernel
theorem dL_law_1264 : decode cL_law 1264 = .ok (.aload_n 0, 1) := by decide +kernel
theorem dL_law_1265 : decode cL_law 1265 = .ok (.iload_n 3, 1) := by decide +kernel
theorem dL_law_1266 : decode cL_law 1266 = .ok (.iconst 2, 1) := by decide +kernel
theorem dL_law_1267 : decode cL_law 1267 = .ok (.iadd, 1) := by decide +kernel
theorem dL_law_1268 : decode cL_law 1268 = .ok (.iaload, 1) := by decide +kernel
theorem dL_law_1269 : decode cL_law 1269 = .ok (.aload_n 0, 1) := by decide +kernel
theorem dL_law_1270 : decode cL_law 1270 = .ok (.iload_n 3, 1) := by decide +kernel
theorem dL_law_1271 : decode cL_law 1271 = .ok (.iconst 3, 1) := by decide +kernel
theorem dL_law_1272 : decode cL_law 1272 = .ok (.iadd, 1) := by decide +kernel
theorem dL_law_1273 : decode cL_law 1273 = .ok (.iaload, 1) := by decide +kernel
theorem dL_law_1274 : decode cL_law 1274 = .ok (.aload_n 0, 1) := by decide +kernel
theorem dL_law_1275 : decode cL_law 1275 = .ok (.iload_n 3, 1) := by decide +kernel
theorem dL_law_1276 : decode cL_law 1276 = .ok (.iconst 4, 1) := by decide +kernel
theorem dL_law_1277 : decode cL_law 1277 = .ok (.iadd, 1) := by decide +kernel
theorem dL_law_1278 : decode cL_law 1278 = .ok (.iaload, 1) := by decide +kernel
theorem dL_law_1279 : decode cL_law 1279 = .ok (.aload_n 0, 1) := by decide +kernel
theorem dL_law_1280 : decode cL_law 1280 = .ok (.iload_n 3, 1) := by decide +kernel
theorem dL_law_1281 : decode cL_law 1281 = .ok (.iconst 5, 1) := by decide +kernel
theorem dL_law_1282 : decode cL_law 1282 = .ok (.iadd, 1) := by decide +kernel
theorem dL_law_1283 : decode cL_law 1283 = .ok (.iaload, 1) := by decide +kernel
theorem dL_law_1284 : decode cL_law 1284 = .ok (.invokevirtual 149, 3) := by decide +kernel
theorem dL_law_1287 : decode cL_law 1287 = .ok (.aload_n 2, 1) := by decide +kernel
theorem dL_law_1288 : decode cL_law 1288 = .ok (.aload_n 0, 1) := by decide +kernel
theorem dL_law_1289 : decode cL_law 1289 = .ok (.iload_n 3, 1) := by decide +kernel
theorem dL_law_1290 : decode cL_law 1290 = .ok (.iconst 1, 1) := by decide +kernel
theorem dL_law_1291 : decode cL_law 1291 = .ok (.iadd, 1) := by decide +kernel
theorem dL_law_1292 : decode cL_law 1292 = .ok (.iaload, 1) := by decide +kernel
theorem dL_law_1293 : decode cL_law 1293 = .ok (.aload_n 0, 1) := by decide +kernel
theorem dL_law_1294 : decode cL_law 1294 = .ok (.iload_n 3, 1) := by decide +kernel
theorem dL_law_1295 : decode cL_law 1295 = .ok (.iconst 2, 1) := by decide +kernel
theorem dL_law_1296 : decode cL_law 1296 = .ok (.iadd, 1) := by decide +kernel
theorem dL_law_1297 : decode cL_law 1297 = .ok (.iaload, 1) := by decide +kernel
theorem dL_law_1298 : decode cL_law 1298 = .ok (.aload_n 0, 1) := by decide +kernel
theorem dL_law_1299 : decode cL_law 1299 = .ok (.iload_n 3, 1) := by decide +kernel
theorem dL_law_1300 : decode cL_law 1300 = .ok (.iconst 3, 1) := by decide +kernel
theorem dL_law_1301 : decode cL_law 1301 = .ok (.iadd, 1) := by decide +kernel
theorem dL_law_1302 : decode cL_law 1302 = .ok (.iaload, 1) := by decide +kernel
theorem dL_law_1303 : decode cL_law 1303 = .ok (.aload_n 0, 1) := by decide +kernel
theorem dL_law_1304 : decode cL_law 1304 = .ok (.iload_n 3, 1) := by decide +kernel
theorem dL_law_1305 : decode cL_law 1305 = .ok (.iconst 4, 1) := by decide +kernel
theorem dL_law_1306 : decode cL_law 1306 = .ok (.iadd, 1) := by decide +kernel
theorem dL_law_1307 : decode cL_law 1307 = .ok (.iaload, 1) := by decide +kernel
theorem dL_law_1308 : decode cL_law 1308 = .ok (.aload_n 0, 1) := by decide +kernel
theorem dL_law_1309 : decode cL_law 1309 = .ok (.iload_n 3, 1) := by decide +kernel
theorem dL_law_1310 : decode cL_law 1310 = .ok (.iconst 5, 1) := by decide +kernel
theorem dL_law_1311 : decode cL_law 1311 = .ok (.iadd, 1) := by decide +kernel
theorem dL_law_1312 : decode cL_law 1312 = .ok (.iaload, 1) := by decide +kernel
theorem dL_law_1313 : decode cL_law 1313 = .ok (.invokevirtual 153, 3) := by decide +kernel
theorem dL_law_1316 : decode cL_law 1316 = .ok (.if_icmp .eq 159, 3) := by decide +kernel
theorem dL_law_1321 : decode cL_law 1321 = .ok (.aload_n 1, 1) := by decide +kernel
theorem dL_law_1322 : decode cL_law 1322 = .ok (.aload_n 0, 1) := by decide +kernel
theorem dL_law_1323 : decode cL_law 1323 = .ok (.iload_n 3, 1) := by decide +kernel
theorem dL_law_1324 : decode cL_law 1324 = .ok (.iconst 1, 1) := by decide +kernel
theorem dL_law_1325 : decode cL_law 1325 = .ok (.iadd, 1) := by decide +kernel
theorem dL_law_1326 : decode cL_law 1326 = .ok (.iaload, 1) := by decide +kernel
theorem dL_law_1327 : decode cL_law 1327 = .ok (.invokevirtual 154, 3) := by decide +kernel
theorem dL_law_1330 : decode cL_law 1330 = .ok (.aload_n 2, 1) := by decide +kernel
theorem dL_law_1331 : decode cL_law 1331 = .ok (.aload_n 0, 1) := by decide +kernel
theorem dL_law_1332 : decode cL_law 1332 = .ok (.iload_n 3, 1) := by decide +kernel
theorem dL_law_1333 : decode cL_law 1333 = .ok (.iconst 1, 1) := by decide +kernel
theorem dL_law_1334 : decode cL_law 1334 = .ok (.iadd, 1) := by decide +kernel
theorem dL_law_1335 : decode cL_law 1335 = .ok (.iaload, 1) := by decide +kernel
theorem dL_law_1336 : decode cL_law 1336 = .ok (.invokevirtual 157, 3) := by decide +kernel
theorem dL_law_1339 : decode cL_law 1339 = .ok (.if_icmp .eq 136, 3) := by decide +kernel
theorem dL_law_1344 : decode cL_law 1344 = .ok (.aload_n 1, 1) := by decide +kernel
theorem dL_law_1345 : decode cL_law 1345 = .ok (.aload_n 0, 1) := by decide +kernel
theorem dL_law_1346 : decode cL_law 1346 = .ok (.iload_n 3, 1) := by decide +kernel
theorem dL_law_1347 : decode cL_law 1347 = .ok (.iconst 1, 1) := by decide +kernel
theorem dL_law_1348 : decode cL_law 1348 = .ok (.iadd, 1) := by decide +kernel
theorem dL_law_1349 : decode cL_law 1349 = .ok (.iaload, 1) := by decide +kernel
theorem dL_law_1350 : decode cL_law 1350 = .ok (.invokevirtual 158, 3) := by decide +kernel
theorem dL_law_1353 : decode cL_law 1353 = .ok (.aload_n 2, 1) := by decide +kernel
theorem dL_law_1354 : decode cL_law 1354 = .ok (.aload_n 0, 1) := by decide +kernel
theorem dL_law_1355 : decode cL_law 1355 = .ok (.iload_n 3, 1) := by decide +kernel
theorem dL_law_1356 : decode cL_law 1356 = .ok (.iconst 1, 1) := by decide +kernel
theorem dL_law_1357 : decode cL_law 1357 = .ok (.iadd, 1) := by decide +kernel
theorem dL_law_1358 : decode cL_law 1358 = .ok (.iaload, 1) := by decide +kernel
theorem dL_law_1359 : decode cL_law 1359 = .ok (.invokevirtual 161, 3) := by decide +kernel
theorem dL_law_1362 : decode cL_law 1362 = .ok (.if_icmp .eq 113, 3) := by decide +kernel
theorem dL_law_1367 : decode cL_law 1367 = .ok (.aload_n 1, 1) := by decide +kernel
theorem dL_law_1368 : decode cL_law 1368 = .ok (.invokevirtual 162, 3) := by decide +kernel
theorem dL_law_1371 : decode cL_law 1371 = .ok (.aload_n 2, 1) := by decide +kernel
theorem dL_law_1372 : decode cL_law 1372 = .ok (.invokevirtual 165, 3) := by decide +kernel
theorem dL_law_1375 : decode cL_law 1375 = .ok (.if_icmp .eq 100, 3) := by decide +kernel
theorem dL_law_1380 : decode cL_law 1380 = .ok (.aload_n 1, 1) := by decide +kernel
theorem dL_law_1381 : decode cL_law 1381 = .ok (.invokevirtual 166, 3) := by decide +kernel
theorem dL_law_1384 : decode cL_law 1384 = .ok (.aload_n 2, 1) := by decide +kernel
theorem dL_law_1385 : decode cL_law 1385 = .ok (.invokevirtual 169, 3) := by decide +kernel
theorem dL_law_1388 : decode cL_law 1388 = .ok (.if_icmp .eq 87, 3) := by decide +kernel
theorem dL_law_1393 : decode cL_law 1393 = .ok (.aload_n 1, 1) := by decide +kernel
theorem dL_law_1394 : decode cL_law 1394 = .ok (.aload_n 0, 1) := by decide +kernel
theorem dL_law_1395 : decode cL_law 1395 = .ok (.iload_n 3, 1) := by decide +kernel
theorem dL_law_1396 : decode cL_law 1396 = .ok (.iconst 1, 1) := by decide +kernel
theorem dL_law_1397 : decode cL_law 1397 = .ok (.iadd, 1) := by decide +kernel
theorem dL_law_1398 : decode cL_law 1398 = .ok (.iaload, 1) := by decide +kernel
theorem dL_law_1399 : decode cL_law 1399 = .ok (.invokevirtual 170, 3) := by decide +kernel
theorem dL_law_1402 : decode cL_law 1402 = .ok (.aload_n 2, 1) := by decide +kernel
theorem dL_law_1403 : decode cL_law 1403 = .ok (.aload_n 0, 1) := by decide +kernel
theorem dL_law_1404 : decode cL_law 1404 = .ok (.iload_n 3, 1) := by decide +kernel
theorem dL_law_1405 : decode cL_law 1405 = .ok (.iconst 1, 1) := by decide +kernel
theorem dL_law_1406 : decode cL_law 1406 = .ok (.iadd, 1) := by decide +kernel
theorem dL_law_1407 : decode cL_law 1407 = .ok (.iaload, 1) := by decide +kernel
theorem dL_law_1408 : decode cL_law 1408 = .ok (.invokevirtual 173, 3) := by decide +kernel
theorem dL_law_1411 : decode cL_law 1411 = .ok (.if_icmp .eq 64, 3) := by decide +kernel
theorem dL_law_1416 : decode cL_law 1416 = .ok (.aload_n 1, 1) := by decide +kernel
theorem dL_law_1417 : decode cL_law 1417 = .ok (.invokevirtual 174, 3) := by decide +kernel
theorem dL_law_1420 : decode cL_law 1420 = .ok (.aload_n 2, 1) := by decide +kernel
theorem dL_law_1421 : decode cL_law 1421 = .ok (.invokevirtual 177, 3) := by decide +kernel
theorem dL_law_1424 : decode cL_law 1424 = .ok (.if_icmp .eq 51, 3) := by decide +kernel
theorem dL_law_1429 : decode cL_law 1429 = .ok (.aload_n 1, 1) := by decide +kernel
theorem dL_law_1430 : decode cL_law 1430 = .ok (.aload_n 0, 1) := by decide +kernel
theorem dL_law_1431 : decode cL_law 1431 = .ok (.iload_n 3, 1) := by decide +kernel
theorem dL_law_1432 : decode cL_law 1432 = .ok (.iconst 1, 1) := by decide +kernel
theorem dL_law_1433 : decode cL_law 1433 = .ok (.iadd, 1) := by decide +kernel
theorem dL_law_1434 : decode cL_law 1434 = .ok (.iaload, 1) := by decide +kernel
theorem dL_law_1435 : decode cL_law 1435 = .ok (.invokevirtual 178, 3) := by decide +kernel
theorem dL_law_1438 : decode cL_law 1438 = .ok (.aload_n 2, 1) := by decide +kernel
theorem dL_law_1439 : decode cL_law 1439 = .ok (.aload_n 0, 1) := by decide +kernel
theorem dL_law_1440 : decode cL_law 1440 = .ok (.iload_n 3, 1) := by decide +kernel
theorem dL_law_1441 : decode cL_law 1441 = .ok (.iconst 1, 1) := by decide +kernel
theorem dL_law_1442 : decode cL_law 1442 = .ok (.iadd, 1) := by decide +kernel
theorem dL_law_1443 : decode cL_law 1443 = .ok (.iaload, 1) := by decide +kernel
theorem dL_law_1444 : decode cL_law 1444 = .ok (.invokevirtual 181, 3) := by decide +kernel
theorem dL_law_1447 : decode cL_law 1447 = .ok (.if_icmp .eq 28, 3) := by decide +kernel
theorem dL_law_1452 : decode cL_law 1452 = .ok (.aload_n 1, 1) := by decide +kernel
theorem dL_law_1453 : decode cL_law 1453 = .ok (.aload_n 0, 1) := by decide +kernel
theorem dL_law_1454 : decode cL_law 1454 = .ok (.iload_n 3, 1) := by decide +kernel
theorem dL_law_1455 : decode cL_law 1455 = .ok (.iconst 1, 1) := by decide +kernel
theorem dL_law_1456 : decode cL_law 1456 = .ok (.iadd, 1) := by decide +kernel
theorem dL_law_1457 : decode cL_law 1457 = .ok (.iaload, 1) := by decide +kernel
theorem dL_law_1458 : decode cL_law 1458 = .ok (.invokevirtual 182, 3) := by decide +kernel
theorem dL_law_1461 : decode cL_law 1461 = .ok (.aload_n 2, 1) := by decide +kernel
theorem dL_law_1462 : decode cL_law 1462 = .ok (.aload_n 0, 1) := by decide +kernel
theorem dL_law_1463 : decode cL_law 1463 = .ok (.iload_n 3, 1) := by decide +kernel
theorem dL_law_1464 : decode cL_law 1464 = .ok (.iconst 1, 1) := by decide +kernel
theorem dL_law_1465 : decode cL_law 1465 = .ok (.iadd, 1) := by decide +kernel
theorem dL_law_1466 : decode cL_law 1466 = .ok (.iaload, 1) := by decide +kernel
theorem dL_law_1467 : decode cL_law 1467 = .ok (.invokevirtual 185, 3) := by decide +kernel
theorem dL_law_1470 : decode cL_law 1470 = .ok (.if_icmp .eq 5, 3) := by decide +kernel
theorem dL_law_27 : decode cL_law 27 = .ok (.aload_n 0, 1) := by decide +kernel
theorem dL_law_28 : decode cL_law 28 = .ok (.iload_n 3, 1) := by decide +kernel
theorem dL_law_29 : decode cL_law 29 = .ok (.iaload, 1) := by decide +kernel
theorem dL_law_30 : decode cL_law 30 = .ok (.bipush 63, 2) := by decide +kernel
theorem dL_law_32 : decode cL_law 32 = .ok (.iand, 1) := by decide +kernel
theorem dL_law_33 : decode cL_law 33 = .ok (.tableswitch 1442 0 40 #[179, 212, 235, 288, 321, 364, 397, 430, 493, 516, 569, 592, 615, 658, 681, 704, 737, 770, 803, 836, 869, 892, 925, 948, 971, 994, 1007, 1050, 1073, 1116, 1139, 1182, 1225, 1288, 1311, 1334, 1347, 1360, 1383, 1396, 1419], 179) := by decide +kernel
set_option maxRecDepth 100000 in
set_option maxHeartbeats 4000000 in
theorem law_end {p : Program} {l : Launch} {e : Env} {s : State} {m : MethodId} {below : List Frame} {meth : Method} {c : Code} {D : va_G} {y : wY} {ad : Nat → Nat} {M : Mem} {b kc ks : Nat} {xs : Nat → Int32} (C0 : lw_At p s m meth c b 6 xs) (X : Amb p m c cL_law 4 s #[Value.ref b] lw_tbl RL D y (fun q : Nat => s.heap.size ≤ q)) (hkc : kc = 92) (hks : ks = 2832) : J p l e room_1 s m #[Value.ref b] below meth c kc ks (lw_Z below #[Value.ref b] s) D y ad (fun q : Nat => s.heap.size ≤ q) 4 M 1475 [(3, .int 0), (2, .ref (ad 79)), (0, .ref b), (1, .ref (ad 0))] [] := by
  subst hkc; subst hks
  obtain ⟨hx, hb, hr, hml, hown, hts, hX, hbl, hlocks, hgv⟩ := id C0
  have hbA : ¬ (fun q : Nat => s.heap.size ≤ q) b := Nat.not_le.mpr hbl
  refine j_iinc X (v := 6) 0 [(3, .int 6), (2, .ref (ad 79)), (0, .ref b), (1, .ref (ad 0))] rfl (by decide) (by decide) rfl dL_law_1475 ?_
  refine j_goto X 18 (by decide) dL_law_1478 ?_
  refine j_iload_n X 0 rfl rfl dL_law_18 ?_
  refine j_aload_n X 2 rfl rfl dL_law_19 ?_
  refine j_slen X hX hbl hbA dL_law_20 ?_
  refine j_eqi (v := 6) (by decide) ?_
  refine j_bipush X (v := 6) (by decide) dL_law_21 ?_
  refine j_isub X dL_law_23 ?_
  refine j_eqi (v := 0) (by decide) ?_
  refine j_icmp_gt X 1481 (by decide) dL_law_24 (fun c_1 => ?_) (fun c_1 => False.elim (by revert c_1; decide))
  refine j_iconst X (v := 1) (by decide) dL_law_1481 ?_
  exact j_lawret hx hb hr hlocks (by decide) (by decide) dL_law_1482
set_option maxRecDepth 100000 in
set_option maxHeartbeats 4000000 in
theorem law_case_0 {p : Program} {l : Launch} {e : Env} {s : State} {m : MethodId} {below : List Frame} {meth : Method} {c : Code} {D : va_G} {y : wY} {ad : Nat → Nat} {M : Mem} {b kc ks : Nat} {xs : Nat → Int32} (C0 : lw_At p s m meth c b 6 xs) (X : Amb p m c cL_law 4 s #[Value.ref b] lw_tbl RL D y (fun q : Nat => s.heap.size ≤ q)) (hz : Z0 M) (hy : Z1 M) (hkc : kc = 92) (hks : ks = 2832) : J p l e room_1 s m #[Value.ref b] below meth c kc ks (lw_Z below #[Value.ref b] s) D y ad (fun q : Nat => s.heap.size ≤ q) 4 M 212 [(3, .int 0), (2, .ref (ad 79)), (0, .ref b), (1, .ref (ad 0))] [] := by
  subst hkc; subst hks
  obtain ⟨hx, hb, hr, hml, hown, hts, hX, hbl, hlocks, hgv⟩ := id C0
  have hbA : ¬ (fun q : Nat => s.heap.size ≤ q) b := Nat.not_le.mpr hbl
  refine j_aload_n X 3 rfl rfl dL_law_212 ?_
  refine j_aload_n X 2 rfl rfl dL_law_213 ?_
  refine j_iload_n X 0 rfl rfl dL_law_214 ?_
  refine j_iconst X (v := 1) (by decide) dL_law_215 ?_
  refine j_iadd X dL_law_216 ?_
  refine j_eqi (v := 1) (by decide) ?_
  refine j_sld X hX hbl hbA (by unfold vp_in; decide) dL_law_217 ?_
  refine j_eqi (v := xs 1) rfl ?_
  refine j_aload_n X 2 rfl rfl dL_law_218 ?_
  refine j_iload_n X 0 rfl rfl dL_law_219 ?_
  refine j_iconst X (v := 2) (by decide) dL_law_220 ?_
  refine j_iadd X dL_law_221 ?_
  refine j_eqi (v := 2) (by decide) ?_
  refine j_sld X hX hbl hbA (by unfold vp_in; decide) dL_law_222 ?_
  refine j_eqi (v := xs 2) rfl ?_
  refine j_callVI X (nn := 2) (As := [.int (xs 1), .int (xs 2)]) (st := []) (ci := 7) (by decide) (wE_7 _ rfl) rfl aw_105 aw_106 (c0_X7_set l D y ad M hz (xs 1) (xs 2)) aw_104 aw_107 aw_2 (by decide +kernel) ⟨by decide, by decide⟩ rfl (Nat.le_of_ble_eq_true rfl) ⟨by decide, by decide⟩ dL_law_223 ?_
  rintro r_ M_3 ⟨rfl, s_2⟩
  refine j_aload_n X 1 rfl rfl dL_law_226 ?_
  refine j_aload_n X 2 rfl rfl dL_law_227 ?_
  refine j_iload_n X 0 rfl rfl dL_law_228 ?_
  refine j_iconst X (v := 1) (by decide) dL_law_229 ?_
  refine j_iadd X dL_law_230 ?_
  refine j_eqi (v := 1) (by decide) ?_
  refine j_sld X hX hbl hbA (by unfold vp_in; decide) dL_law_231 ?_
  refine j_eqi (v := xs 1) rfl ?_
  refine j_aload_n X 2 rfl rfl dL_law_232 ?_
  refine j_iload_n X 0 rfl rfl dL_law_233 ?_
  refine j_iconst X (v := 2) (by decide) dL_law_234 ?_
  refine j_iadd X dL_law_235 ?_
  refine j_eqi (v := 2) (by decide) ?_
  refine j_sld X hX hbl hbA (by unfold vp_in; decide) dL_law_236 ?_
  refine j_eqi (v := xs 2) rfl ?_
  refine j_callVI X (nn := 2) (As := [.int (xs 1), .int (xs 2)]) (st := [.int (sp_set (xs 1) (xs 2))]) (ci := 8) (by decide) (wE_8 _ rfl) rfl aw_128 aw_129 (c0_X8_set l D y ad M_3 (Z1_keep s_2 hy) (xs 1) (xs 2)) aw_127 aw_130 aw_5 (by decide +kernel) ⟨by decide, by decide⟩ rfl (Nat.le_of_ble_eq_true rfl) ⟨by decide, by decide⟩ dL_law_237 ?_
  rintro r_ M1_ rfl
  refine j_icmp_eq X 1475 (by decide) dL_law_240 (fun _ => ?_) (fun c_4 => False.elim (c_4 rfl))
  refine j_lv (lv1 := [(3, .int 0), (2, .ref (ad 79)), (0, .ref b), (1, .ref (ad 0))]) [0, 1, 2, 3] rfl ?_
  exact law_end C0 X rfl rfl
set_option maxRecDepth 100000 in
set_option maxHeartbeats 4000000 in
theorem law_case_1 {p : Program} {l : Launch} {e : Env} {s : State} {m : MethodId} {below : List Frame} {meth : Method} {c : Code} {D : va_G} {y : wY} {ad : Nat → Nat} {M : Mem} {b kc ks : Nat} {xs : Nat → Int32} (C0 : lw_At p s m meth c b 6 xs) (X : Amb p m c cL_law 4 s #[Value.ref b] lw_tbl RL D y (fun q : Nat => s.heap.size ≤ q)) (hz : Z0 M) (hy : Z1 M) (hkc : kc = 92) (hks : ks = 2832) : J p l e room_1 s m #[Value.ref b] below meth c kc ks (lw_Z below #[Value.ref b] s) D y ad (fun q : Nat => s.heap.size ≤ q) 4 M 245 [(3, .int 0), (2, .ref (ad 79)), (0, .ref b), (1, .ref (ad 0))] [] := by
  subst hkc; subst hks
  obtain ⟨hx, hb, hr, hml, hown, hts, hX, hbl, hlocks, hgv⟩ := id C0
  have hbA : ¬ (fun q : Nat => s.heap.size ≤ q) b := Nat.not_le.mpr hbl
  refine j_aload_n X 3 rfl rfl dL_law_245 ?_
  refine j_aload_n X 2 rfl rfl dL_law_246 ?_
  refine j_iload_n X 0 rfl rfl dL_law_247 ?_
  refine j_iconst X (v := 1) (by decide) dL_law_248 ?_
  refine j_iadd X dL_law_249 ?_
  refine j_eqi (v := 1) (by decide) ?_
  refine j_sld X hX hbl hbA (by unfold vp_in; decide) dL_law_250 ?_
  refine j_eqi (v := xs 1) rfl ?_
  refine j_callVI X (nn := 1) (As := [.int (xs 1)]) (st := []) (ci := 7) (by decide) (wE_7 _ rfl) rfl aw_149 aw_150 (c0_X7_inArea l D y ad M hz (xs 1)) aw_148 aw_151 aw_2 (by decide +kernel) ⟨by decide, by decide⟩ rfl (Nat.le_of_ble_eq_true rfl) ⟨by decide, by decide⟩ dL_law_251 ?_
  rintro r_ M_6 ⟨rfl, s_5⟩
  refine j_aload_n X 1 rfl rfl dL_law_254 ?_
  refine j_aload_n X 2 rfl rfl dL_law_255 ?_
  refine j_iload_n X 0 rfl rfl dL_law_256 ?_
  refine j_iconst X (v := 1) (by decide) dL_law_257 ?_
  refine j_iadd X dL_law_258 ?_
  refine j_eqi (v := 1) (by decide) ?_
  refine j_sld X hX hbl hbA (by unfold vp_in; decide) dL_law_259 ?_
  refine j_eqi (v := xs 1) rfl ?_
  refine j_callVI X (nn := 1) (As := [.int (xs 1)]) (st := [.int (sp_inArea (xs 1))]) (ci := 8) (by decide) (wE_8 _ rfl) rfl aw_157 aw_158 (c0_X8_inArea l D y ad M_6 (Z1_keep s_5 hy) (xs 1)) aw_156 aw_159 aw_5 (by decide +kernel) ⟨by decide, by decide⟩ rfl (Nat.le_of_ble_eq_true rfl) ⟨by decide, by decide⟩ dL_law_260 ?_
  rintro r_ M1_ rfl
  refine j_icmp_eq X 1475 (by decide) dL_law_263 (fun _ => ?_) (fun c_7 => False.elim (c_7 rfl))
  refine j_lv (lv1 := [(3, .int 0), (2, .ref (ad 79)), (0, .ref b), (1, .ref (ad 0))]) [0, 1, 2, 3] rfl ?_
  exact law_end C0 X rfl rfl
set_option maxRecDepth 100000 in
set_option maxHeartbeats 4000000 in
theorem law_case_2 {p : Program} {l : Launch} {e : Env} {s : State} {m : MethodId} {below : List Frame} {meth : Method} {c : Code} {D : va_G} {y : wY} {ad : Nat → Nat} {M : Mem} {b kc ks : Nat} {xs : Nat → Int32} (C0 : lw_At p s m meth c b 6 xs) (X : Amb p m c cL_law 4 s #[Value.ref b] lw_tbl RL D y (fun q : Nat => s.heap.size ≤ q)) (hz : Z0 M) (hy : Z1 M) (hkc : kc = 92) (hks : ks = 2832) : J p l e room_1 s m #[Value.ref b] below meth c kc ks (lw_Z below #[Value.ref b] s) D y ad (fun q : Nat => s.heap.size ≤ q) 4 M 268 [(3, .int 0), (2, .ref (ad 79)), (0, .ref b), (1, .ref (ad 0))] [] := by
  subst hkc; subst hks
  obtain ⟨hx, hb, hr, hml, hown, hts, hX, hbl, hlocks, hgv⟩ := id C0
  have hbA : ¬ (fun q : Nat => s.heap.size ≤ q) b := Nat.not_le.mpr hbl
  refine j_aload_n X 3 rfl rfl dL_law_268 ?_
  refine j_aload_n X 2 rfl rfl dL_law_269 ?_
  refine j_iload_n X 0 rfl rfl dL_law_270 ?_
  refine j_iconst X (v := 1) (by decide) dL_law_271 ?_
  refine j_iadd X dL_law_272 ?_
  refine j_eqi (v := 1) (by decide) ?_
  refine j_sld X hX hbl hbA (by unfold vp_in; decide) dL_law_273 ?_
  refine j_eqi (v := xs 1) rfl ?_
  refine j_aload_n X 2 rfl rfl dL_law_274 ?_
  refine j_iload_n X 0 rfl rfl dL_law_275 ?_
  refine j_iconst X (v := 2) (by decide) dL_law_276 ?_
  refine j_iadd X dL_law_277 ?_
  refine j_eqi (v := 2) (by decide) ?_
  refine j_sld X hX hbl hbA (by unfold vp_in; decide) dL_law_278 ?_
  refine j_eqi (v := xs 2) rfl ?_
  refine j_aload_n X 2 rfl rfl dL_law_279 ?_
  refine j_iload_n X 0 rfl rfl dL_law_280 ?_
  refine j_iconst X (v := 3) (by decide) dL_law_281 ?_
  refine j_iadd X dL_law_282 ?_
  refine j_eqi (v := 3) (by decide) ?_
  refine j_sld X hX hbl hbA (by unfold vp_in; decide) dL_law_283 ?_
  refine j_eqi (v := xs 3) rfl ?_
  refine j_aload_n X 2 rfl rfl dL_law_284 ?_
  refine j_iload_n X 0 rfl rfl dL_law_285 ?_
  refine j_iconst X (v := 4) (by decide) dL_law_286 ?_
  refine j_iadd X dL_law_287 ?_
  refine j_eqi (v := 4) (by decide) ?_
  refine j_sld X hX hbl hbA (by unfold vp_in; decide) dL_law_288 ?_
  refine j_eqi (v := xs 4) rfl ?_
  refine j_callVI X (nn := 4) (As := [.int (xs 1), .int (xs 2), .int (xs 3), .int (xs 4)]) (st := []) (ci := 7) (by decide) (wE_7 _ rfl) rfl aw_165 aw_166 (c0_X7_quarrel l D y ad M hz (xs 1) (xs 2) (xs 3) (xs 4)) aw_164 aw_167 aw_2 (by decide +kernel) ⟨by decide, by decide⟩ rfl (Nat.le_of_ble_eq_true rfl) ⟨by decide, by decide⟩ dL_law_289 ?_
  rintro r_ M_9 ⟨rfl, s_8⟩
  refine j_aload_n X 1 rfl rfl dL_law_292 ?_
  refine j_aload_n X 2 rfl rfl dL_law_293 ?_
  refine j_iload_n X 0 rfl rfl dL_law_294 ?_
  refine j_iconst X (v := 1) (by decide) dL_law_295 ?_
  refine j_iadd X dL_law_296 ?_
  refine j_eqi (v := 1) (by decide) ?_
  refine j_sld X hX hbl hbA (by unfold vp_in; decide) dL_law_297 ?_
  refine j_eqi (v := xs 1) rfl ?_
  refine j_aload_n X 2 rfl rfl dL_law_298 ?_
  refine j_iload_n X 0 rfl rfl dL_law_299 ?_
  refine j_iconst X (v := 2) (by decide) dL_law_300 ?_
  refine j_iadd X dL_law_301 ?_
  refine j_eqi (v := 2) (by decide) ?_
  refine j_sld X hX hbl hbA (by unfold vp_in; decide) dL_law_302 ?_
  refine j_eqi (v := xs 2) rfl ?_
  refine j_aload_n X 2 rfl rfl dL_law_303 ?_
  refine j_iload_n X 0 rfl rfl dL_law_304 ?_
  refine j_iconst X (v := 3) (by decide) dL_law_305 ?_
  refine j_iadd X dL_law_306 ?_
  refine j_eqi (v := 3) (by decide) ?_
  refine j_sld X hX hbl hbA (by unfold vp_in; decide) dL_law_307 ?_
  refine j_eqi (v := xs 3) rfl ?_
  refine j_aload_n X 2 rfl rfl dL_law_308 ?_
  refine j_iload_n X 0 rfl rfl dL_law_309 ?_
  refine j_iconst X (v := 4) (by decide) dL_law_310 ?_
  refine j_iadd X dL_law_311 ?_
  refine j_eqi (v := 4) (by decide) ?_
  refine j_sld X hX hbl hbA (by unfold vp_in; decide) dL_law_312 ?_
  refine j_eqi (v := xs 4) rfl ?_
  refine j_callVI X (nn := 4) (As := [.int (xs 1), .int (xs 2), .int (xs 3), .int (xs 4)]) (st := [.int (sp_quarrel (xs 1) (xs 2) (xs 3) (xs 4))]) (ci := 8) (by decide) (wE_8 _ rfl) rfl aw_178 aw_179 (c0_X8_quarrel l D y ad M_9 (Z1_keep s_8 hy) (xs 1) (xs 2) (xs 3) (xs 4)) aw_177 aw_180 aw_5 (by decide +kernel) ⟨by decide, by decide⟩ rfl (Nat.le_of_ble_eq_true rfl) ⟨by decide, by decide⟩ dL_law_313 ?_
  rintro r_ M1_ rfl
  refine j_icmp_eq X 1475 (by decide) dL_law_316 (fun _ => ?_) (fun c_10 => False.elim (c_10 rfl))
  refine j_lv (lv1 := [(3, .int 0), (2, .ref (ad 79)), (0, .ref b), (1, .ref (ad 0))]) [0, 1, 2, 3] rfl ?_
  exact law_end C0 X rfl rfl
set_option maxRecDepth 100000 in
set_option maxHeartbeats 4000000 in
theorem law_case_3 {p : Program} {l : Launch} {e : Env} {s : State} {m : MethodId} {below : List Frame} {meth : Method} {c : Code} {D : va_G} {y : wY} {ad : Nat → Nat} {M : Mem} {b kc ks : Nat} {xs : Nat → Int32} (C0 : lw_At p s m meth c b 6 xs) (X : Amb p m c cL_law 4 s #[Value.ref b] lw_tbl RL D y (fun q : Nat => s.heap.size ≤ q)) (hz : Z0 M) (hy : Z1 M) (hkc : kc = 92) (hks : ks = 2832) : J p l e room_1 s m #[Value.ref b] below meth c kc ks (lw_Z below #[Value.ref b] s) D y ad (fun q : Nat => s.heap.size ≤ q) 4 M 321 [(3, .int 0), (2, .ref (ad 79)), (0, .ref b), (1, .ref (ad 0))] [] := by
  subst hkc; subst hks
  obtain ⟨hx, hb, hr, hml, hown, hts, hX, hbl, hlocks, hgv⟩ := id C0
  have hbA : ¬ (fun q : Nat => s.heap.size ≤ q) b := Nat.not_le.mpr hbl
  refine j_aload_n X 3 rfl rfl dL_law_321 ?_
  refine j_aload_n X 2 rfl rfl dL_law_322 ?_
  refine j_iload_n X 0 rfl rfl dL_law_323 ?_
  refine j_iconst X (v := 1) (by decide) dL_law_324 ?_
  refine j_iadd X dL_law_325 ?_
  refine j_eqi (v := 1) (by decide) ?_
  refine j_sld X hX hbl hbA (by unfold vp_in; decide) dL_law_326 ?_
  refine j_eqi (v := xs 1) rfl ?_
  refine j_aload_n X 2 rfl rfl dL_law_327 ?_
  refine j_iload_n X 0 rfl rfl dL_law_328 ?_
  refine j_iconst X (v := 2) (by decide) dL_law_329 ?_
  refine j_iadd X dL_law_330 ?_
  refine j_eqi (v := 2) (by decide) ?_
  refine j_sld X hX hbl hbA (by unfold vp_in; decide) dL_law_331 ?_
  refine j_eqi (v := xs 2) rfl ?_
  refine j_callVI X (nn := 2) (As := [.int (xs 1), .int (xs 2)]) (st := []) (ci := 7) (by decide) (wE_7 _ rfl) rfl aw_187 aw_188 (c0_X7_ofQuarrel l D y ad M hz (xs 1) (xs 2)) aw_186 aw_189 aw_2 (by decide +kernel) ⟨by decide, by decide⟩ rfl (Nat.le_of_ble_eq_true rfl) ⟨by decide, by decide⟩ dL_law_332 ?_
  rintro r_ M_12 ⟨rfl, s_11⟩
  refine j_aload_n X 1 rfl rfl dL_law_335 ?_
  refine j_aload_n X 2 rfl rfl dL_law_336 ?_
  refine j_iload_n X 0 rfl rfl dL_law_337 ?_
  refine j_iconst X (v := 1) (by decide) dL_law_338 ?_
  refine j_iadd X dL_law_339 ?_
  refine j_eqi (v := 1) (by decide) ?_
  refine j_sld X hX hbl hbA (by unfold vp_in; decide) dL_law_340 ?_
  refine j_eqi (v := xs 1) rfl ?_
  refine j_aload_n X 2 rfl rfl dL_law_341 ?_
  refine j_iload_n X 0 rfl rfl dL_law_342 ?_
  refine j_iconst X (v := 2) (by decide) dL_law_343 ?_
  refine j_iadd X dL_law_344 ?_
  refine j_eqi (v := 2) (by decide) ?_
  refine j_sld X hX hbl hbA (by unfold vp_in; decide) dL_law_345 ?_
  refine j_eqi (v := xs 2) rfl ?_
  refine j_callVI X (nn := 2) (As := [.int (xs 1), .int (xs 2)]) (st := [.int (sp_ofQuarrel (xs 1) (xs 2))]) (ci := 8) (by decide) (wE_8 _ rfl) rfl aw_227 aw_228 (c0_X8_ofQuarrel l D y ad M_12 (Z1_keep s_11 hy) (xs 1) (xs 2)) aw_226 aw_229 aw_5 (by decide +kernel) ⟨by decide, by decide⟩ rfl (Nat.le_of_ble_eq_true rfl) ⟨by decide, by decide⟩ dL_law_346 ?_
  rintro r_ M1_ rfl
  refine j_icmp_eq X 1475 (by decide) dL_law_349 (fun _ => ?_) (fun c_13 => False.elim (c_13 rfl))
  refine j_lv (lv1 := [(3, .int 0), (2, .ref (ad 79)), (0, .ref b), (1, .ref (ad 0))]) [0, 1, 2, 3] rfl ?_
  exact law_end C0 X rfl rfl
set_option maxRecDepth 100000 in
set_option maxHeartbeats 4000000 in
theorem law_case_4 {p : Program} {l : Launch} {e : Env} {s : State} {m : MethodId} {below : List Frame} {meth : Method} {c : Code} {D : va_G} {y : wY} {ad : Nat → Nat} {M : Mem} {b kc ks : Nat} {xs : Nat → Int32} (C0 : lw_At p s m meth c b 6 xs) (X : Amb p m c cL_law 4 s #[Value.ref b] lw_tbl RL D y (fun q : Nat => s.heap.size ≤ q)) (hz : Z0 M) (hy : Z1 M) (hkc : kc = 92) (hks : ks = 2832) : J p l e room_1 s m #[Value.ref b] below meth c kc ks (lw_Z below #[Value.ref b] s) D y ad (fun q : Nat => s.heap.size ≤ q) 4 M 354 [(3, .int 0), (2, .ref (ad 79)), (0, .ref b), (1, .ref (ad 0))] [] := by
  subst hkc; subst hks
  obtain ⟨hx, hb, hr, hml, hown, hts, hX, hbl, hlocks, hgv⟩ := id C0
  have hbA : ¬ (fun q : Nat => s.heap.size ≤ q) b := Nat.not_le.mpr hbl
  refine j_aload_n X 3 rfl rfl dL_law_354 ?_
  refine j_aload_n X 2 rfl rfl dL_law_355 ?_
  refine j_iload_n X 0 rfl rfl dL_law_356 ?_
  refine j_iconst X (v := 1) (by decide) dL_law_357 ?_
  refine j_iadd X dL_law_358 ?_
  refine j_eqi (v := 1) (by decide) ?_
  refine j_sld X hX hbl hbA (by unfold vp_in; decide) dL_law_359 ?_
  refine j_eqi (v := xs 1) rfl ?_
  refine j_aload_n X 2 rfl rfl dL_law_360 ?_
  refine j_iload_n X 0 rfl rfl dL_law_361 ?_
  refine j_iconst X (v := 2) (by decide) dL_law_362 ?_
  refine j_iadd X dL_law_363 ?_
  refine j_eqi (v := 2) (by decide) ?_
  refine j_sld X hX hbl hbA (by unfold vp_in; decide) dL_law_364 ?_
  refine j_eqi (v := xs 2) rfl ?_
  refine j_aload_n X 2 rfl rfl dL_law_365 ?_
  refine j_iload_n X 0 rfl rfl dL_law_366 ?_
  refine j_iconst X (v := 3) (by decide) dL_law_367 ?_
  refine j_iadd X dL_law_368 ?_
  refine j_eqi (v := 3) (by decide) ?_
  refine j_sld X hX hbl hbA (by unfold vp_in; decide) dL_law_369 ?_
  refine j_eqi (v := xs 3) rfl ?_
  refine j_callVI X (nn := 3) (As := [.int (xs 1), .int (xs 2), .int (xs 3)]) (st := []) (ci := 7) (by decide) (wE_7 _ rfl) rfl aw_261 aw_262 (c0_X7_change l D y ad M hz (xs 1) (xs 2) (xs 3)) aw_260 aw_263 aw_2 (by decide +kernel) ⟨by decide, by decide⟩ rfl (Nat.le_of_ble_eq_true rfl) ⟨by decide, by decide⟩ dL_law_370 ?_
  rintro r_ M_15 ⟨rfl, s_14⟩
  refine j_aload_n X 1 rfl rfl dL_law_373 ?_
  refine j_aload_n X 2 rfl rfl dL_law_374 ?_
  refine j_iload_n X 0 rfl rfl dL_law_375 ?_
  refine j_iconst X (v := 1) (by decide) dL_law_376 ?_
  refine j_iadd X dL_law_377 ?_
  refine j_eqi (v := 1) (by decide) ?_
  refine j_sld X hX hbl hbA (by unfold vp_in; decide) dL_law_378 ?_
  refine j_eqi (v := xs 1) rfl ?_
  refine j_aload_n X 2 rfl rfl dL_law_379 ?_
  refine j_iload_n X 0 rfl rfl dL_law_380 ?_
  refine j_iconst X (v := 2) (by decide) dL_law_381 ?_
  refine j_iadd X dL_law_382 ?_
  refine j_eqi (v := 2) (by decide) ?_
  refine j_sld X hX hbl hbA (by unfold vp_in; decide) dL_law_383 ?_
  refine j_eqi (v := xs 2) rfl ?_
  refine j_aload_n X 2 rfl rfl dL_law_384 ?_
  refine j_iload_n X 0 rfl rfl dL_law_385 ?_
  refine j_iconst X (v := 3) (by decide) dL_law_386 ?_
  refine j_iadd X dL_law_387 ?_
  refine j_eqi (v := 3) (by decide) ?_
  refine j_sld X hX hbl hbA (by unfold vp_in; decide) dL_law_388 ?_
  refine j_eqi (v := xs 3) rfl ?_
  refine j_callVI X (nn := 3) (As := [.int (xs 1), .int (xs 2), .int (xs 3)]) (st := [.int (sp_change (xs 1) (xs 2) (xs 3))]) (ci := 8) (by decide) (wE_8 _ rfl) rfl aw_274 aw_275 (c0_X8_change l D y ad M_15 (Z1_keep s_14 hy) (xs 1) (xs 2) (xs 3)) aw_273 aw_276 aw_5 (by decide +kernel) ⟨by decide, by decide⟩ rfl (Nat.le_of_ble_eq_true rfl) ⟨by decide, by decide⟩ dL_law_389 ?_
  rintro r_ M1_ rfl
  refine j_icmp_eq X 1475 (by decide) dL_law_392 (fun _ => ?_) (fun c_16 => False.elim (c_16 rfl))
  refine j_lv (lv1 := [(3, .int 0), (2, .ref (ad 79)), (0, .ref b), (1, .ref (ad 0))]) [0, 1, 2, 3] rfl ?_
  exact law_end C0 X rfl rfl
set_option maxRecDepth 100000 in
set_option maxHeartbeats 4000000 in
theorem law_case_5 {p : Program} {l : Launch} {e : Env} {s : State} {m : MethodId} {below : List Frame} {meth : Method} {c : Code} {D : va_G} {y : wY} {ad : Nat → Nat} {M : Mem} {b kc ks : Nat} {xs : Nat → Int32} (C0 : lw_At p s m meth c b 6 xs) (X : Amb p m c cL_law 4 s #[Value.ref b] lw_tbl RL D y (fun q : Nat => s.heap.size ≤ q)) (hz : Z0 M) (hy : Z1 M) (hkc : kc = 92) (hks : ks = 2832) : J p l e room_1 s m #[Value.ref b] below meth c kc ks (lw_Z below #[Value.ref b] s) D y ad (fun q : Nat => s.heap.size ≤ q) 4 M 397 [(3, .int 0), (2, .ref (ad 79)), (0, .ref b), (1, .ref (ad 0))] [] := by
  subst hkc; subst hks
  obtain ⟨hx, hb, hr, hml, hown, hts, hX, hbl, hlocks, hgv⟩ := id C0
  have hbA : ¬ (fun q : Nat => s.heap.size ≤ q) b := Nat.not_le.mpr hbl
  refine j_aload_n X 3 rfl rfl dL_law_397 ?_
  refine j_aload_n X 2 rfl rfl dL_law_398 ?_
  refine j_iload_n X 0 rfl rfl dL_law_399 ?_
  refine j_iconst X (v := 1) (by decide) dL_law_400 ?_
  refine j_iadd X dL_law_401 ?_
  refine j_eqi (v := 1) (by decide) ?_
  refine j_sld X hX hbl hbA (by unfold vp_in; decide) dL_law_402 ?_
  refine j_eqi (v := xs 1) rfl ?_
  refine j_aload_n X 2 rfl rfl dL_law_403 ?_
  refine j_iload_n X 0 rfl rfl dL_law_404 ?_
  refine j_iconst X (v := 2) (by decide) dL_law_405 ?_
  refine j_iadd X dL_law_406 ?_
  refine j_eqi (v := 2) (by decide) ?_
  refine j_sld X hX hbl hbA (by unfold vp_in; decide) dL_law_407 ?_
  refine j_eqi (v := xs 2) rfl ?_
  refine j_callVI X (nn := 2) (As := [.int (xs 1), .int (xs 2)]) (st := []) (ci := 7) (by decide) (wE_7 _ rfl) rfl aw_278 aw_279 (c0_X7_become l D y ad M hz (xs 1) (xs 2)) aw_277 aw_280 aw_2 (by decide +kernel) ⟨by decide, by decide⟩ rfl (Nat.le_of_ble_eq_true rfl) ⟨by decide, by decide⟩ dL_law_408 ?_
  rintro r_ M_18 ⟨rfl, s_17⟩
  refine j_aload_n X 1 rfl rfl dL_law_411 ?_
  refine j_aload_n X 2 rfl rfl dL_law_412 ?_
  refine j_iload_n X 0 rfl rfl dL_law_413 ?_
  refine j_iconst X (v := 1) (by decide) dL_law_414 ?_
  refine j_iadd X dL_law_415 ?_
  refine j_eqi (v := 1) (by decide) ?_
  refine j_sld X hX hbl hbA (by unfold vp_in; decide) dL_law_416 ?_
  refine j_eqi (v := xs 1) rfl ?_
  refine j_aload_n X 2 rfl rfl dL_law_417 ?_
  refine j_iload_n X 0 rfl rfl dL_law_418 ?_
  refine j_iconst X (v := 2) (by decide) dL_law_419 ?_
  refine j_iadd X dL_law_420 ?_
  refine j_eqi (v := 2) (by decide) ?_
  refine j_sld X hX hbl hbA (by unfold vp_in; decide) dL_law_421 ?_
  refine j_eqi (v := xs 2) rfl ?_
  refine j_callVI X (nn := 2) (As := [.int (xs 1), .int (xs 2)]) (st := [.int (sp_become (xs 1) (xs 2))]) (ci := 8) (by decide) (wE_8 _ rfl) rfl aw_282 aw_283 (c0_X8_become l D y ad M_18 (Z1_keep s_17 hy) (xs 1) (xs 2)) aw_281 aw_284 aw_5 (by decide +kernel) ⟨by decide, by decide⟩ rfl (Nat.le_of_ble_eq_true rfl) ⟨by decide, by decide⟩ dL_law_422 ?_
  rintro r_ M1_ rfl
  refine j_icmp_eq X 1475 (by decide) dL_law_425 (fun _ => ?_) (fun c_19 => False.elim (c_19 rfl))
  refine j_lv (lv1 := [(3, .int 0), (2, .ref (ad 79)), (0, .ref b), (1, .ref (ad 0))]) [0, 1, 2, 3] rfl ?_
  exact law_end C0 X rfl rfl
set_option maxRecDepth 100000 in
set_option maxHeartbeats 4000000 in
theorem law_case_6 {p : Program} {l : Launch} {e : Env} {s : State} {m : MethodId} {below : List Frame} {meth : Method} {c : Code} {D : va_G} {y : wY} {ad : Nat → Nat} {M : Mem} {b kc ks : Nat} {xs : Nat → Int32} (C0 : lw_At p s m meth c b 6 xs) (X : Amb p m c cL_law 4 s #[Value.ref b] lw_tbl RL D y (fun q : Nat => s.heap.size ≤ q)) (hz : Z0 M) (hy : Z1 M) (hkc : kc = 92) (hks : ks = 2832) : J p l e room_1 s m #[Value.ref b] below meth c kc ks (lw_Z below #[Value.ref b] s) D y ad (fun q : Nat => s.heap.size ≤ q) 4 M 430 [(3, .int 0), (2, .ref (ad 79)), (0, .ref b), (1, .ref (ad 0))] [] := by
  subst hkc; subst hks
  obtain ⟨hx, hb, hr, hml, hown, hts, hX, hbl, hlocks, hgv⟩ := id C0
  have hbA : ¬ (fun q : Nat => s.heap.size ≤ q) b := Nat.not_le.mpr hbl
  refine j_aload_n X 3 rfl rfl dL_law_430 ?_
  refine j_aload_n X 2 rfl rfl dL_law_431 ?_
  refine j_iload_n X 0 rfl rfl dL_law_432 ?_
  refine j_iconst X (v := 1) (by decide) dL_law_433 ?_
  refine j_iadd X dL_law_434 ?_
  refine j_eqi (v := 1) (by decide) ?_
  refine j_sld X hX hbl hbA (by unfold vp_in; decide) dL_law_435 ?_
  refine j_eqi (v := xs 1) rfl ?_
  refine j_aload_n X 2 rfl rfl dL_law_436 ?_
  refine j_iload_n X 0 rfl rfl dL_law_437 ?_
  refine j_iconst X (v := 2) (by decide) dL_law_438 ?_
  refine j_iadd X dL_law_439 ?_
  refine j_eqi (v := 2) (by decide) ?_
  refine j_sld X hX hbl hbA (by unfold vp_in; decide) dL_law_440 ?_
  refine j_eqi (v := xs 2) rfl ?_
  refine j_callVI X (nn := 2) (As := [.int (xs 1), .int (xs 2)]) (st := []) (ci := 7) (by decide) (wE_7 _ rfl) rfl aw_286 aw_287 (c0_X7_as l D y ad M hz (xs 1) (xs 2)) aw_285 aw_288 aw_2 (by decide +kernel) ⟨by decide, by decide⟩ rfl (Nat.le_of_ble_eq_true rfl) ⟨by decide, by decide⟩ dL_law_441 ?_
  rintro r_ M_21 ⟨rfl, s_20⟩
  refine j_aload_n X 1 rfl rfl dL_law_444 ?_
  refine j_aload_n X 2 rfl rfl dL_law_445 ?_
  refine j_iload_n X 0 rfl rfl dL_law_446 ?_
  refine j_iconst X (v := 1) (by decide) dL_law_447 ?_
  refine j_iadd X dL_law_448 ?_
  refine j_eqi (v := 1) (by decide) ?_
  refine j_sld X hX hbl hbA (by unfold vp_in; decide) dL_law_449 ?_
  refine j_eqi (v := xs 1) rfl ?_
  refine j_aload_n X 2 rfl rfl dL_law_450 ?_
  refine j_iload_n X 0 rfl rfl dL_law_451 ?_
  refine j_iconst X (v := 2) (by decide) dL_law_452 ?_
  refine j_iadd X dL_law_453 ?_
  refine j_eqi (v := 2) (by decide) ?_
  refine j_sld X hX hbl hbA (by unfold vp_in; decide) dL_law_454 ?_
  refine j_eqi (v := xs 2) rfl ?_
  refine j_callVI X (nn := 2) (As := [.int (xs 1), .int (xs 2)]) (st := [.int (sp_as (xs 1) (xs 2))]) (ci := 8) (by decide) (wE_8 _ rfl) rfl aw_294 aw_295 (c0_X8_as l D y ad M_21 (Z1_keep s_20 hy) (xs 1) (xs 2)) aw_293 aw_296 aw_5 (by decide +kernel) ⟨by decide, by decide⟩ rfl (Nat.le_of_ble_eq_true rfl) ⟨by decide, by decide⟩ dL_law_455 ?_
  rintro r_ M1_ rfl
  refine j_icmp_eq X 1475 (by decide) dL_law_458 (fun _ => ?_) (fun c_22 => False.elim (c_22 rfl))
  refine j_lv (lv1 := [(3, .int 0), (2, .ref (ad 79)), (0, .ref b), (1, .ref (ad 0))]) [0, 1, 2, 3] rfl ?_
  exact law_end C0 X rfl rfl
set_option maxRecDepth 100000 in
set_option maxHeartbeats 4000000 in
theorem law_case_7 {p : Program} {l : Launch} {e : Env} {s : State} {m : MethodId} {below : List Frame} {meth : Method} {c : Code} {D : va_G} {y : wY} {ad : Nat → Nat} {M : Mem} {b kc ks : Nat} {xs : Nat → Int32} (C0 : lw_At p s m meth c b 6 xs) (X : Amb p m c cL_law 4 s #[Value.ref b] lw_tbl RL D y (fun q : Nat => s.heap.size ≤ q)) (hz : Z0 M) (hy : Z1 M) (hkc : kc = 92) (hks : ks = 2832) : J p l e room_1 s m #[Value.ref b] below meth c kc ks (lw_Z below #[Value.ref b] s) D y ad (fun q : Nat => s.heap.size ≤ q) 4 M 463 [(3, .int 0), (2, .ref (ad 79)), (0, .ref b), (1, .ref (ad 0))] [] := by
  subst hkc; subst hks
  obtain ⟨hx, hb, hr, hml, hown, hts, hX, hbl, hlocks, hgv⟩ := id C0
  have hbA : ¬ (fun q : Nat => s.heap.size ≤ q) b := Nat.not_le.mpr hbl
  refine j_aload_n X 3 rfl rfl dL_law_463 ?_
  refine j_aload_n X 2 rfl rfl dL_law_464 ?_
  refine j_iload_n X 0 rfl rfl dL_law_465 ?_
  refine j_iconst X (v := 1) (by decide) dL_law_466 ?_
  refine j_iadd X dL_law_467 ?_
  refine j_eqi (v := 1) (by decide) ?_
  refine j_sld X hX hbl hbA (by unfold vp_in; decide) dL_law_468 ?_
  refine j_eqi (v := xs 1) rfl ?_
  refine j_i2l X dL_law_469 ?_
  refine j_bipush X (v := 32) (by decide) dL_law_470 ?_
  refine j_lshl X dL_law_472 ?_
  refine j_aload_n X 2 rfl rfl dL_law_473 ?_
  refine j_iload_n X 0 rfl rfl dL_law_474 ?_
  refine j_iconst X (v := 2) (by decide) dL_law_475 ?_
  refine j_iadd X dL_law_476 ?_
  refine j_eqi (v := 2) (by decide) ?_
  refine j_sld X hX hbl hbA (by unfold vp_in; decide) dL_law_477 ?_
  refine j_eqi (v := xs 2) rfl ?_
  refine j_i2l X dL_law_478 ?_
  refine j_ldc2 X (v := 4294967295) aw_6 dL_law_479 ?_
  refine j_land X dL_law_482 ?_
  refine j_lor X dL_law_483 ?_
  refine j_aload_n X 2 rfl rfl dL_law_484 ?_
  refine j_iload_n X 0 rfl rfl dL_law_485 ?_
  refine j_iconst X (v := 3) (by decide) dL_law_486 ?_
  refine j_iadd X dL_law_487 ?_
  refine j_eqi (v := 3) (by decide) ?_
  refine j_sld X hX hbl hbA (by unfold vp_in; decide) dL_law_488 ?_
  refine j_eqi (v := xs 3) rfl ?_
  refine j_callVI X (nn := 2) (As := [.long ((((xs 1).toInt64) <<< ((32 : Int32).toInt64 &&& 63)) ||| (((xs 2).toInt64) &&& 4294967295)), .int (xs 3)]) (st := []) (ci := 7) (by decide) (wE_7 _ rfl) rfl aw_302 aw_303 (c0_X7_feed l D y ad M hz ((((xs 1).toInt64) <<< ((32 : Int32).toInt64 &&& 63)) ||| (((xs 2).toInt64) &&& 4294967295)) (xs 3)) aw_301 aw_304 aw_2 (by decide +kernel) ⟨by decide, by decide⟩ rfl (Nat.le_of_ble_eq_true rfl) ⟨by decide, by decide⟩ dL_law_489 ?_
  rintro r_ M_24 ⟨rfl, s_23⟩
  refine j_aload_n X 1 rfl rfl dL_law_492 ?_
  refine j_aload_n X 2 rfl rfl dL_law_493 ?_
  refine j_iload_n X 0 rfl rfl dL_law_494 ?_
  refine j_iconst X (v := 1) (by decide) dL_law_495 ?_
  refine j_iadd X dL_law_496 ?_
  refine j_eqi (v := 1) (by decide) ?_
  refine j_sld X hX hbl hbA (by unfold vp_in; decide) dL_law_497 ?_
  refine j_eqi (v := xs 1) rfl ?_
  refine j_i2l X dL_law_498 ?_
  refine j_bipush X (v := 32) (by decide) dL_law_499 ?_
  refine j_lshl X dL_law_501 ?_
  refine j_aload_n X 2 rfl rfl dL_law_502 ?_
  refine j_iload_n X 0 rfl rfl dL_law_503 ?_
  refine j_iconst X (v := 2) (by decide) dL_law_504 ?_
  refine j_iadd X dL_law_505 ?_
  refine j_eqi (v := 2) (by decide) ?_
  refine j_sld X hX hbl hbA (by unfold vp_in; decide) dL_law_506 ?_
  refine j_eqi (v := xs 2) rfl ?_
  refine j_i2l X dL_law_507 ?_
  refine j_ldc2 X (v := 4294967295) aw_6 dL_law_508 ?_
  refine j_land X dL_law_511 ?_
  refine j_lor X dL_law_512 ?_
  refine j_aload_n X 2 rfl rfl dL_law_513 ?_
  refine j_iload_n X 0 rfl rfl dL_law_514 ?_
  refine j_iconst X (v := 3) (by decide) dL_law_515 ?_
  refine j_iadd X dL_law_516 ?_
  refine j_eqi (v := 3) (by decide) ?_
  refine j_sld X hX hbl hbA (by unfold vp_in; decide) dL_law_517 ?_
  refine j_eqi (v := xs 3) rfl ?_
  refine j_callVI X (nn := 2) (As := [.long ((((xs 1).toInt64) <<< ((32 : Int32).toInt64 &&& 63)) ||| (((xs 2).toInt64) &&& 4294967295)), .int (xs 3)]) (st := [.int (sp_feed ((((xs 1).toInt64) <<< ((32 : Int32).toInt64 &&& 63)) ||| (((xs 2).toInt64) &&& 4294967295)) (xs 3))]) (ci := 8) (by decide) (wE_8 _ rfl) rfl aw_306 aw_307 (c0_X8_feed l D y ad M_24 (Z1_keep s_23 hy) ((((xs 1).toInt64) <<< ((32 : Int32).toInt64 &&& 63)) ||| (((xs 2).toInt64) &&& 4294967295)) (xs 3)) aw_305 aw_308 aw_5 (by decide +kernel) ⟨by decide, by decide⟩ rfl (Nat.le_of_ble_eq_true rfl) ⟨by decide, by decide⟩ dL_law_518 ?_
  rintro r_ M1_ rfl
  refine j_icmp_eq X 1475 (by decide) dL_law_521 (fun _ => ?_) (fun c_25 => False.elim (c_25 rfl))
  refine j_lv (lv1 := [(3, .int 0), (2, .ref (ad 79)), (0, .ref b), (1, .ref (ad 0))]) [0, 1, 2, 3] rfl ?_
  exact law_end C0 X rfl rfl
set_option maxRecDepth 100000 in
set_option maxHeartbeats 4000000 in
theorem law_case_8 {p : Program} {l : Launch} {e : Env} {s : State} {m : MethodId} {below : List Frame} {meth : Method} {c : Code} {D : va_G} {y : wY} {ad : Nat → Nat} {M : Mem} {b kc ks : Nat} {xs : Nat → Int32} (C0 : lw_At p s m meth c b 6 xs) (X : Amb p m c cL_law 4 s #[Value.ref b] lw_tbl RL D y (fun q : Nat => s.heap.size ≤ q)) (hz : Z0 M) (hy : Z1 M) (hkc : kc = 92) (hks : ks = 2832) : J p l e room_1 s m #[Value.ref b] below meth c kc ks (lw_Z below #[Value.ref b] s) D y ad (fun q : Nat => s.heap.size ≤ q) 4 M 526 [(3, .int 0), (2, .ref (ad 79)), (0, .ref b), (1, .ref (ad 0))] [] := by
  subst hkc; subst hks
  obtain ⟨hx, hb, hr, hml, hown, hts, hX, hbl, hlocks, hgv⟩ := id C0
  have hbA : ¬ (fun q : Nat => s.heap.size ≤ q) b := Nat.not_le.mpr hbl
  refine j_aload_n X 3 rfl rfl dL_law_526 ?_
  refine j_aload_n X 2 rfl rfl dL_law_527 ?_
  refine j_iload_n X 0 rfl rfl dL_law_528 ?_
  refine j_iconst X (v := 1) (by decide) dL_law_529 ?_
  refine j_iadd X dL_law_530 ?_
  refine j_eqi (v := 1) (by decide) ?_
  refine j_sld X hX hbl hbA (by unfold vp_in; decide) dL_law_531 ?_
  refine j_eqi (v := xs 1) rfl ?_
  refine j_callVI X (nn := 1) (As := [.int (xs 1)]) (st := []) (ci := 7) (by decide) (wE_7 _ rfl) rfl aw_311 aw_312 (c0_X7_text l D y ad M hz (xs 1)) aw_310 aw_313 aw_2 (by decide +kernel) ⟨by decide, by decide⟩ rfl (Nat.le_of_ble_eq_true rfl) ⟨by decide, by decide⟩ dL_law_532 ?_
  rintro r_ M_27 ⟨rfl, s_26⟩
  refine j_aload_n X 1 rfl rfl dL_law_535 ?_
  refine j_aload_n X 2 rfl rfl dL_law_536 ?_
  refine j_iload_n X 0 rfl rfl dL_law_537 ?_
  refine j_iconst X (v := 1) (by decide) dL_law_538 ?_
  refine j_iadd X dL_law_539 ?_
  refine j_eqi (v := 1) (by decide) ?_
  refine j_sld X hX hbl hbA (by unfold vp_in; decide) dL_law_540 ?_
  refine j_eqi (v := xs 1) rfl ?_
  refine j_callVI X (nn := 1) (As := [.int (xs 1)]) (st := [.int (sp_text (xs 1))]) (ci := 8) (by decide) (wE_8 _ rfl) rfl aw_374 aw_375 (c0_X8_text l D y ad M_27 (Z1_keep s_26 hy) (xs 1)) aw_373 aw_376 aw_5 (by decide +kernel) ⟨by decide, by decide⟩ rfl (Nat.le_of_ble_eq_true rfl) ⟨by decide, by decide⟩ dL_law_541 ?_
  rintro r_ M1_ rfl
  refine j_icmp_eq X 1475 (by decide) dL_law_544 (fun _ => ?_) (fun c_28 => False.elim (c_28 rfl))
  refine j_lv (lv1 := [(3, .int 0), (2, .ref (ad 79)), (0, .ref b), (1, .ref (ad 0))]) [0, 1, 2, 3] rfl ?_
  exact law_end C0 X rfl rfl
set_option maxRecDepth 100000 in
set_option maxHeartbeats 4000000 in
theorem law_case_9 {p : Program} {l : Launch} {e : Env} {s : State} {m : MethodId} {below : List Frame} {meth : Method} {c : Code} {D : va_G} {y : wY} {ad : Nat → Nat} {M : Mem} {b kc ks : Nat} {xs : Nat → Int32} (C0 : lw_At p s m meth c b 6 xs) (X : Amb p m c cL_law 4 s #[Value.ref b] lw_tbl RL D y (fun q : Nat => s.heap.size ≤ q)) (hz : Z0 M) (hy : Z1 M) (hkc : kc = 92) (hks : ks = 2832) : J p l e room_1 s m #[Value.ref b] below meth c kc ks (lw_Z below #[Value.ref b] s) D y ad (fun q : Nat => s.heap.size ≤ q) 4 M 549 [(3, .int 0), (2, .ref (ad 79)), (0, .ref b), (1, .ref (ad 0))] [] := by
  subst hkc; subst hks
  obtain ⟨hx, hb, hr, hml, hown, hts, hX, hbl, hlocks, hgv⟩ := id C0
  have hbA : ¬ (fun q : Nat => s.heap.size ≤ q) b := Nat.not_le.mpr hbl
  refine j_aload_n X 3 rfl rfl dL_law_549 ?_
  refine j_aload_n X 2 rfl rfl dL_law_550 ?_
  refine j_iload_n X 0 rfl rfl dL_law_551 ?_
  refine j_iconst X (v := 1) (by decide) dL_law_552 ?_
  refine j_iadd X dL_law_553 ?_
  refine j_eqi (v := 1) (by decide) ?_
  refine j_sld X hX hbl hbA (by unfold vp_in; decide) dL_law_554 ?_
  refine j_eqi (v := xs 1) rfl ?_
  refine j_aload_n X 2 rfl rfl dL_law_555 ?_
  refine j_iload_n X 0 rfl rfl dL_law_556 ?_
  refine j_iconst X (v := 2) (by decide) dL_law_557 ?_
  refine j_iadd X dL_law_558 ?_
  refine j_eqi (v := 2) (by decide) ?_
  refine j_sld X hX hbl hbA (by unfold vp_in; decide) dL_law_559 ?_
  refine j_eqi (v := xs 2) rfl ?_
  refine j_aload_n X 2 rfl rfl dL_law_560 ?_
  refine j_iload_n X 0 rfl rfl dL_law_561 ?_
  refine j_iconst X (v := 3) (by decide) dL_law_562 ?_
  refine j_iadd X dL_law_563 ?_
  refine j_eqi (v := 3) (by decide) ?_
  refine j_sld X hX hbl hbA (by unfold vp_in; decide) dL_law_564 ?_
  refine j_eqi (v := xs 3) rfl ?_
  refine j_aload_n X 2 rfl rfl dL_law_565 ?_
  refine j_iload_n X 0 rfl rfl dL_law_566 ?_
  refine j_iconst X (v := 4) (by decide) dL_law_567 ?_
  refine j_iadd X dL_law_568 ?_
  refine j_eqi (v := 4) (by decide) ?_
  refine j_sld X hX hbl hbA (by unfold vp_in; decide) dL_law_569 ?_
  refine j_eqi (v := xs 4) rfl ?_
  refine j_callVI X (nn := 4) (As := [.int (xs 1), .int (xs 2), .int (xs 3), .int (xs 4)]) (st := []) (ci := 7) (by decide) (wE_7 _ rfl) rfl aw_427 aw_428 (c0_X7_law l D y ad M hz (xs 1) (xs 2) (xs 3) (xs 4)) aw_426 aw_429 aw_2 (by decide +kernel) ⟨by decide, by decide⟩ rfl (Nat.le_of_ble_eq_true rfl) ⟨by decide, by decide⟩ dL_law_570 ?_
  rintro r_ M_30 ⟨rfl, s_29⟩
  refine j_aload_n X 1 rfl rfl dL_law_573 ?_
  refine j_aload_n X 2 rfl rfl dL_law_574 ?_
  refine j_iload_n X 0 rfl rfl dL_law_575 ?_
  refine j_iconst X (v := 1) (by decide) dL_law_576 ?_
  refine j_iadd X dL_law_577 ?_
  refine j_eqi (v := 1) (by decide) ?_
  refine j_sld X hX hbl hbA (by unfold vp_in; decide) dL_law_578 ?_
  refine j_eqi (v := xs 1) rfl ?_
  refine j_aload_n X 2 rfl rfl dL_law_579 ?_
  refine j_iload_n X 0 rfl rfl dL_law_580 ?_
  refine j_iconst X (v := 2) (by decide) dL_law_581 ?_
  refine j_iadd X dL_law_582 ?_
  refine j_eqi (v := 2) (by decide) ?_
  refine j_sld X hX hbl hbA (by unfold vp_in; decide) dL_law_583 ?_
  refine j_eqi (v := xs 2) rfl ?_
  refine j_aload_n X 2 rfl rfl dL_law_584 ?_
  refine j_iload_n X 0 rfl rfl dL_law_585 ?_
  refine j_iconst X (v := 3) (by decide) dL_law_586 ?_
  refine j_iadd X dL_law_587 ?_
  refine j_eqi (v := 3) (by decide) ?_
  refine j_sld X hX hbl hbA (by unfold vp_in; decide) dL_law_588 ?_
  refine j_eqi (v := xs 3) rfl ?_
  refine j_aload_n X 2 rfl rfl dL_law_589 ?_
  refine j_iload_n X 0 rfl rfl dL_law_590 ?_
  refine j_iconst X (v := 4) (by decide) dL_law_591 ?_
  refine j_iadd X dL_law_592 ?_
  refine j_eqi (v := 4) (by decide) ?_
  refine j_sld X hX hbl hbA (by unfold vp_in; decide) dL_law_593 ?_
  refine j_eqi (v := xs 4) rfl ?_
  refine j_callVI X (nn := 4) (As := [.int (xs 1), .int (xs 2), .int (xs 3), .int (xs 4)]) (st := [.int (sp_law (xs 1) (xs 2) (xs 3) (xs 4))]) (ci := 8) (by decide) (wE_8 _ rfl) rfl aw_431 aw_432 (c0_X8_law l D y ad M_30 (Z1_keep s_29 hy) (xs 1) (xs 2) (xs 3) (xs 4)) aw_430 aw_433 aw_5 (by decide +kernel) ⟨by decide, by decide⟩ rfl (Nat.le_of_ble_eq_true rfl) ⟨by decide, by decide⟩ dL_law_594 ?_
  rintro r_ M1_ rfl
  refine j_icmp_eq X 1475 (by decide) dL_law_597 (fun _ => ?_) (fun c_31 => False.elim (c_31 rfl))
  refine j_lv (lv1 := [(3, .int 0), (2, .ref (ad 79)), (0, .ref b), (1, .ref (ad 0))]) [0, 1, 2, 3] rfl ?_
  exact law_end C0 X rfl rfl
set_option maxRecDepth 100000 in
set_option maxHeartbeats 4000000 in
theorem law_case_10 {p : Program} {l : Launch} {e : Env} {s : State} {m : MethodId} {below : List Frame} {meth : Method} {c : Code} {D : va_G} {y : wY} {ad : Nat → Nat} {M : Mem} {b kc ks : Nat} {xs : Nat → Int32} (C0 : lw_At p s m meth c b 6 xs) (X : Amb p m c cL_law 4 s #[Value.ref b] lw_tbl RL D y (fun q : Nat => s.heap.size ≤ q)) (hz : Z0 M) (hy : Z1 M) (hkc : kc = 92) (hks : ks = 2832) : J p l e room_1 s m #[Value.ref b] below meth c kc ks (lw_Z below #[Value.ref b] s) D y ad (fun q : Nat => s.heap.size ≤ q) 4 M 602 [(3, .int 0), (2, .ref (ad 79)), (0, .ref b), (1, .ref (ad 0))] [] := by
  subst hkc; subst hks
  obtain ⟨hx, hb, hr, hml, hown, hts, hX, hbl, hlocks, hgv⟩ := id C0
  have hbA : ¬ (fun q : Nat => s.heap.size ≤ q) b := Nat.not_le.mpr hbl
  refine j_aload_n X 3 rfl rfl dL_law_602 ?_
  refine j_aload_n X 2 rfl rfl dL_law_603 ?_
  refine j_iload_n X 0 rfl rfl dL_law_604 ?_
  refine j_iconst X (v := 1) (by decide) dL_law_605 ?_
  refine j_iadd X dL_law_606 ?_
  refine j_eqi (v := 1) (by decide) ?_
  refine j_sld X hX hbl hbA (by unfold vp_in; decide) dL_law_607 ?_
  refine j_eqi (v := xs 1) rfl ?_
  refine j_callVI X (nn := 1) (As := [.int (xs 1)]) (st := []) (ci := 7) (by decide) (wE_7 _ rfl) rfl aw_435 aw_436 (c0_X7_days l D y ad M hz (xs 1)) aw_434 aw_437 aw_2 (by decide +kernel) ⟨by decide, by decide⟩ rfl (Nat.le_of_ble_eq_true rfl) ⟨by decide, by decide⟩ dL_law_608 ?_
  rintro r_ M_33 ⟨rfl, s_32⟩
  refine j_aload_n X 1 rfl rfl dL_law_611 ?_
  refine j_aload_n X 2 rfl rfl dL_law_612 ?_
  refine j_iload_n X 0 rfl rfl dL_law_613 ?_
  refine j_iconst X (v := 1) (by decide) dL_law_614 ?_
  refine j_iadd X dL_law_615 ?_
  refine j_eqi (v := 1) (by decide) ?_
  refine j_sld X hX hbl hbA (by unfold vp_in; decide) dL_law_616 ?_
  refine j_eqi (v := xs 1) rfl ?_
  refine j_callVI X (nn := 1) (As := [.int (xs 1)]) (st := [.int (sp_days (xs 1))]) (ci := 8) (by decide) (wE_8 _ rfl) rfl aw_477 aw_478 (c0_X8_days l D y ad M_33 (Z1_keep s_32 hy) (xs 1)) aw_476 aw_479 aw_5 (by decide +kernel) ⟨by decide, by decide⟩ rfl (Nat.le_of_ble_eq_true rfl) ⟨by decide, by decide⟩ dL_law_617 ?_
  rintro r_ M1_ rfl
  refine j_icmp_eq X 1475 (by decide) dL_law_620 (fun _ => ?_) (fun c_34 => False.elim (c_34 rfl))
  refine j_lv (lv1 := [(3, .int 0), (2, .ref (ad 79)), (0, .ref b), (1, .ref (ad 0))]) [0, 1, 2, 3] rfl ?_
  exact law_end C0 X rfl rfl
set_option maxRecDepth 100000 in
set_option maxHeartbeats 4000000 in
theorem law_case_11 {p : Program} {l : Launch} {e : Env} {s : State} {m : MethodId} {below : List Frame} {meth : Method} {c : Code} {D : va_G} {y : wY} {ad : Nat → Nat} {M : Mem} {b kc ks : Nat} {xs : Nat → Int32} (C0 : lw_At p s m meth c b 6 xs) (X : Amb p m c cL_law 4 s #[Value.ref b] lw_tbl RL D y (fun q : Nat => s.heap.size ≤ q)) (hz : Z0 M) (hy : Z1 M) (hkc : kc = 92) (hks : ks = 2832) : J p l e room_1 s m #[Value.ref b] below meth c kc ks (lw_Z below #[Value.ref b] s) D y ad (fun q : Nat => s.heap.size ≤ q) 4 M 625 [(3, .int 0), (2, .ref (ad 79)), (0, .ref b), (1, .ref (ad 0))] [] := by
  subst hkc; subst hks
  obtain ⟨hx, hb, hr, hml, hown, hts, hX, hbl, hlocks, hgv⟩ := id C0
  have hbA : ¬ (fun q : Nat => s.heap.size ≤ q) b := Nat.not_le.mpr hbl
  refine j_aload_n X 3 rfl rfl dL_law_625 ?_
  refine j_aload_n X 2 rfl rfl dL_law_626 ?_
  refine j_iload_n X 0 rfl rfl dL_law_627 ?_
  refine j_iconst X (v := 1) (by decide) dL_law_628 ?_
  refine j_iadd X dL_law_629 ?_
  refine j_eqi (v := 1) (by decide) ?_
  refine j_sld X hX hbl hbA (by unfold vp_in; decide) dL_law_630 ?_
  refine j_eqi (v := xs 1) rfl ?_
  refine j_callVI X (nn := 1) (As := [.int (xs 1)]) (st := []) (ci := 7) (by decide) (wE_7 _ rfl) rfl aw_513 aw_514 (c0_X7_loose l D y ad M hz (xs 1)) aw_512 aw_515 aw_2 (by decide +kernel) ⟨by decide, by decide⟩ rfl (Nat.le_of_ble_eq_true rfl) ⟨by decide, by decide⟩ dL_law_631 ?_
  rintro r_ M_36 ⟨rfl, s_35⟩
  refine j_aload_n X 1 rfl rfl dL_law_634 ?_
  refine j_aload_n X 2 rfl rfl dL_law_635 ?_
  refine j_iload_n X 0 rfl rfl dL_law_636 ?_
  refine j_iconst X (v := 1) (by decide) dL_law_637 ?_
  refine j_iadd X dL_law_638 ?_
  refine j_eqi (v := 1) (by decide) ?_
  refine j_sld X hX hbl hbA (by unfold vp_in; decide) dL_law_639 ?_
  refine j_eqi (v := xs 1) rfl ?_
  refine j_callVI X (nn := 1) (As := [.int (xs 1)]) (st := [.int (sp_loose (xs 1))]) (ci := 8) (by decide) (wE_8 _ rfl) rfl aw_521 aw_522 (c0_X8_loose l D y ad M_36 (Z1_keep s_35 hy) (xs 1)) aw_520 aw_523 aw_5 (by decide +kernel) ⟨by decide, by decide⟩ rfl (Nat.le_of_ble_eq_true rfl) ⟨by decide, by decide⟩ dL_law_640 ?_
  rintro r_ M1_ rfl
  refine j_icmp_eq X 1475 (by decide) dL_law_643 (fun _ => ?_) (fun c_37 => False.elim (c_37 rfl))
  refine j_lv (lv1 := [(3, .int 0), (2, .ref (ad 79)), (0, .ref b), (1, .ref (ad 0))]) [0, 1, 2, 3] rfl ?_
  exact law_end C0 X rfl rfl
set_option maxRecDepth 100000 in
set_option maxHeartbeats 4000000 in
theorem law_case_12 {p : Program} {l : Launch} {e : Env} {s : State} {m : MethodId} {below : List Frame} {meth : Method} {c : Code} {D : va_G} {y : wY} {ad : Nat → Nat} {M : Mem} {b kc ks : Nat} {xs : Nat → Int32} (C0 : lw_At p s m meth c b 6 xs) (X : Amb p m c cL_law 4 s #[Value.ref b] lw_tbl RL D y (fun q : Nat => s.heap.size ≤ q)) (hz : Z0 M) (hy : Z1 M) (hkc : kc = 92) (hks : ks = 2832) : J p l e room_1 s m #[Value.ref b] below meth c kc ks (lw_Z below #[Value.ref b] s) D y ad (fun q : Nat => s.heap.size ≤ q) 4 M 648 [(3, .int 0), (2, .ref (ad 79)), (0, .ref b), (1, .ref (ad 0))] [] := by
  subst hkc; subst hks
  obtain ⟨hx, hb, hr, hml, hown, hts, hX, hbl, hlocks, hgv⟩ := id C0
  have hbA : ¬ (fun q : Nat => s.heap.size ≤ q) b := Nat.not_le.mpr hbl
  refine j_aload_n X 3 rfl rfl dL_law_648 ?_
  refine j_aload_n X 2 rfl rfl dL_law_649 ?_
  refine j_iload_n X 0 rfl rfl dL_law_650 ?_
  refine j_iconst X (v := 1) (by decide) dL_law_651 ?_
  refine j_iadd X dL_law_652 ?_
  refine j_eqi (v := 1) (by decide) ?_
  refine j_sld X hX hbl hbA (by unfold vp_in; decide) dL_law_653 ?_
  refine j_eqi (v := xs 1) rfl ?_
  refine j_aload_n X 2 rfl rfl dL_law_654 ?_
  refine j_iload_n X 0 rfl rfl dL_law_655 ?_
  refine j_iconst X (v := 2) (by decide) dL_law_656 ?_
  refine j_iadd X dL_law_657 ?_
  refine j_eqi (v := 2) (by decide) ?_
  refine j_sld X hX hbl hbA (by unfold vp_in; decide) dL_law_658 ?_
  refine j_eqi (v := xs 2) rfl ?_
  refine j_aload_n X 2 rfl rfl dL_law_659 ?_
  refine j_iload_n X 0 rfl rfl dL_law_660 ?_
  refine j_iconst X (v := 3) (by decide) dL_law_661 ?_
  refine j_iadd X dL_law_662 ?_
  refine j_eqi (v := 3) (by decide) ?_
  refine j_sld X hX hbl hbA (by unfold vp_in; decide) dL_law_663 ?_
  refine j_eqi (v := xs 3) rfl ?_
  refine j_callVI X (nn := 3) (As := [.int (xs 1), .int (xs 2), .int (xs 3)]) (st := []) (ci := 7) (by decide) (wE_7 _ rfl) rfl aw_530 aw_531 (c0_X7_then l D y ad M hz (xs 1) (xs 2) (xs 3)) aw_529 aw_532 aw_2 (by decide +kernel) ⟨by decide, by decide⟩ rfl (Nat.le_of_ble_eq_true rfl) ⟨by decide, by decide⟩ dL_law_664 ?_
  rintro r_ M_39 ⟨rfl, s_38⟩
  refine j_aload_n X 1 rfl rfl dL_law_667 ?_
  refine j_aload_n X 2 rfl rfl dL_law_668 ?_
  refine j_iload_n X 0 rfl rfl dL_law_669 ?_
  refine j_iconst X (v := 1) (by decide) dL_law_670 ?_
  refine j_iadd X dL_law_671 ?_
  refine j_eqi (v := 1) (by decide) ?_
  refine j_sld X hX hbl hbA (by unfold vp_in; decide) dL_law_672 ?_
  refine j_eqi (v := xs 1) rfl ?_
  refine j_aload_n X 2 rfl rfl dL_law_673 ?_
  refine j_iload_n X 0 rfl rfl dL_law_674 ?_
  refine j_iconst X (v := 2) (by decide) dL_law_675 ?_
  refine j_iadd X dL_law_676 ?_
  refine j_eqi (v := 2) (by decide) ?_
  refine j_sld X hX hbl hbA (by unfold vp_in; decide) dL_law_677 ?_
  refine j_eqi (v := xs 2) rfl ?_
  refine j_aload_n X 2 rfl rfl dL_law_678 ?_
  refine j_iload_n X 0 rfl rfl dL_law_679 ?_
  refine j_iconst X (v := 3) (by decide) dL_law_680 ?_
  refine j_iadd X dL_law_681 ?_
  refine j_eqi (v := 3) (by decide) ?_
  refine j_sld X hX hbl hbA (by unfold vp_in; decide) dL_law_682 ?_
  refine j_eqi (v := xs 3) rfl ?_
  refine j_callVI X (nn := 3) (As := [.int (xs 1), .int (xs 2), .int (xs 3)]) (st := [.int (sp_then (xs 1) (xs 2) (xs 3))]) (ci := 8) (by decide) (wE_8 _ rfl) rfl aw_549 aw_550 (c0_X8_then l D y ad M_39 (Z1_keep s_38 hy) (xs 1) (xs 2) (xs 3)) aw_548 aw_551 aw_5 (by decide +kernel) ⟨by decide, by decide⟩ rfl (Nat.le_of_ble_eq_true rfl) ⟨by decide, by decide⟩ dL_law_683 ?_
  rintro r_ M1_ rfl
  refine j_icmp_eq X 1475 (by decide) dL_law_686 (fun _ => ?_) (fun c_40 => False.elim (c_40 rfl))
  refine j_lv (lv1 := [(3, .int 0), (2, .ref (ad 79)), (0, .ref b), (1, .ref (ad 0))]) [0, 1, 2, 3] rfl ?_
  exact law_end C0 X rfl rfl
set_option maxRecDepth 100000 in
set_option maxHeartbeats 4000000 in
theorem law_case_13 {p : Program} {l : Launch} {e : Env} {s : State} {m : MethodId} {below : List Frame} {meth : Method} {c : Code} {D : va_G} {y : wY} {ad : Nat → Nat} {M : Mem} {b kc ks : Nat} {xs : Nat → Int32} (C0 : lw_At p s m meth c b 6 xs) (X : Amb p m c cL_law 4 s #[Value.ref b] lw_tbl RL D y (fun q : Nat => s.heap.size ≤ q)) (hz : Z0 M) (hy : Z1 M) (hkc : kc = 92) (hks : ks = 2832) : J p l e room_1 s m #[Value.ref b] below meth c kc ks (lw_Z below #[Value.ref b] s) D y ad (fun q : Nat => s.heap.size ≤ q) 4 M 691 [(3, .int 0), (2, .ref (ad 79)), (0, .ref b), (1, .ref (ad 0))] [] := by
  subst hkc; subst hks
  obtain ⟨hx, hb, hr, hml, hown, hts, hX, hbl, hlocks, hgv⟩ := id C0
  have hbA : ¬ (fun q : Nat => s.heap.size ≤ q) b := Nat.not_le.mpr hbl
  refine j_aload_n X 3 rfl rfl dL_law_691 ?_
  refine j_aload_n X 2 rfl rfl dL_law_692 ?_
  refine j_iload_n X 0 rfl rfl dL_law_693 ?_
  refine j_iconst X (v := 1) (by decide) dL_law_694 ?_
  refine j_iadd X dL_law_695 ?_
  refine j_eqi (v := 1) (by decide) ?_
  refine j_sld X hX hbl hbA (by unfold vp_in; decide) dL_law_696 ?_
  refine j_eqi (v := xs 1) rfl ?_
  refine j_callVI X (nn := 1) (As := [.int (xs 1)]) (st := []) (ci := 7) (by decide) (wE_7 _ rfl) rfl aw_557 aw_558 (c0_X7_when l D y ad M hz (xs 1)) aw_556 aw_559 aw_2 (by decide +kernel) ⟨by decide, by decide⟩ rfl (Nat.le_of_ble_eq_true rfl) ⟨by decide, by decide⟩ dL_law_697 ?_
  rintro r_ M_42 ⟨rfl, s_41⟩
  refine j_aload_n X 1 rfl rfl dL_law_700 ?_
  refine j_aload_n X 2 rfl rfl dL_law_701 ?_
  refine j_iload_n X 0 rfl rfl dL_law_702 ?_
  refine j_iconst X (v := 1) (by decide) dL_law_703 ?_
  refine j_iadd X dL_law_704 ?_
  refine j_eqi (v := 1) (by decide) ?_
  refine j_sld X hX hbl hbA (by unfold vp_in; decide) dL_law_705 ?_
  refine j_eqi (v := xs 1) rfl ?_
  refine j_callVI X (nn := 1) (As := [.int (xs 1)]) (st := [.int (sp_when (xs 1))]) (ci := 8) (by decide) (wE_8 _ rfl) rfl aw_562 aw_563 (c0_X8_when l D y ad M_42 (Z1_keep s_41 hy) (xs 1)) aw_561 aw_564 aw_5 (by decide +kernel) ⟨by decide, by decide⟩ rfl (Nat.le_of_ble_eq_true rfl) ⟨by decide, by decide⟩ dL_law_706 ?_
  rintro r_ M1_ rfl
  refine j_icmp_eq X 1475 (by decide) dL_law_709 (fun _ => ?_) (fun c_43 => False.elim (c_43 rfl))
  refine j_lv (lv1 := [(3, .int 0), (2, .ref (ad 79)), (0, .ref b), (1, .ref (ad 0))]) [0, 1, 2, 3] rfl ?_
  exact law_end C0 X rfl rfl
set_option maxRecDepth 100000 in
set_option maxHeartbeats 4000000 in
theorem law_case_14 {p : Program} {l : Launch} {e : Env} {s : State} {m : MethodId} {below : List Frame} {meth : Method} {c : Code} {D : va_G} {y : wY} {ad : Nat → Nat} {M : Mem} {b kc ks : Nat} {xs : Nat → Int32} (C0 : lw_At p s m meth c b 6 xs) (X : Amb p m c cL_law 4 s #[Value.ref b] lw_tbl RL D y (fun q : Nat => s.heap.size ≤ q)) (hz : Z0 M) (hy : Z1 M) (hkc : kc = 92) (hks : ks = 2832) : J p l e room_1 s m #[Value.ref b] below meth c kc ks (lw_Z below #[Value.ref b] s) D y ad (fun q : Nat => s.heap.size ≤ q) 4 M 714 [(3, .int 0), (2, .ref (ad 79)), (0, .ref b), (1, .ref (ad 0))] [] := by
  subst hkc; subst hks
  obtain ⟨hx, hb, hr, hml, hown, hts, hX, hbl, hlocks, hgv⟩ := id C0
  have hbA : ¬ (fun q : Nat => s.heap.size ≤ q) b := Nat.not_le.mpr hbl
  refine j_aload_n X 3 rfl rfl dL_law_714 ?_
  refine j_aload_n X 2 rfl rfl dL_law_715 ?_
  refine j_iload_n X 0 rfl rfl dL_law_716 ?_
  refine j_iconst X (v := 1) (by decide) dL_law_717 ?_
  refine j_iadd X dL_law_718 ?_
  refine j_eqi (v := 1) (by decide) ?_
  refine j_sld X hX hbl hbA (by unfold vp_in; decide) dL_law_719 ?_
  refine j_eqi (v := xs 1) rfl ?_
  refine j_callVI X (nn := 1) (As := [.int (xs 1)]) (st := []) (ci := 7) (by decide) (wE_7 _ rfl) rfl aw_567 aw_568 (c0_X7_ended l D y ad M hz (xs 1)) aw_566 aw_569 aw_2 (by decide +kernel) ⟨by decide, by decide⟩ rfl (Nat.le_of_ble_eq_true rfl) ⟨by decide, by decide⟩ dL_law_720 ?_
  rintro r_ M_45 ⟨rfl, s_44⟩
  refine j_aload_n X 1 rfl rfl dL_law_723 ?_
  refine j_aload_n X 2 rfl rfl dL_law_724 ?_
  refine j_iload_n X 0 rfl rfl dL_law_725 ?_
  refine j_iconst X (v := 1) (by decide) dL_law_726 ?_
  refine j_iadd X dL_law_727 ?_
  refine j_eqi (v := 1) (by decide) ?_
  refine j_sld X hX hbl hbA (by unfold vp_in; decide) dL_law_728 ?_
  refine j_eqi (v := xs 1) rfl ?_
  refine j_callVI X (nn := 1) (As := [.int (xs 1)]) (st := [.int (sp_ended (xs 1))]) (ci := 8) (by decide) (wE_8 _ rfl) rfl aw_571 aw_572 (c0_X8_ended l D y ad M_45 (Z1_keep s_44 hy) (xs 1)) aw_570 aw_573 aw_5 (by decide +kernel) ⟨by decide, by decide⟩ rfl (Nat.le_of_ble_eq_true rfl) ⟨by decide, by decide⟩ dL_law_729 ?_
  rintro r_ M1_ rfl
  refine j_icmp_eq X 1475 (by decide) dL_law_732 (fun _ => ?_) (fun c_46 => False.elim (c_46 rfl))
  refine j_lv (lv1 := [(3, .int 0), (2, .ref (ad 79)), (0, .ref b), (1, .ref (ad 0))]) [0, 1, 2, 3] rfl ?_
  exact law_end C0 X rfl rfl
set_option maxRecDepth 100000 in
set_option maxHeartbeats 4000000 in
theorem law_case_15 {p : Program} {l : Launch} {e : Env} {s : State} {m : MethodId} {below : List Frame} {meth : Method} {c : Code} {D : va_G} {y : wY} {ad : Nat → Nat} {M : Mem} {b kc ks : Nat} {xs : Nat → Int32} (C0 : lw_At p s m meth c b 6 xs) (X : Amb p m c cL_law 4 s #[Value.ref b] lw_tbl RL D y (fun q : Nat => s.heap.size ≤ q)) (hz : Z0 M) (hy : Z1 M) (hkc : kc = 92) (hks : ks = 2832) : J p l e room_1 s m #[Value.ref b] below meth c kc ks (lw_Z below #[Value.ref b] s) D y ad (fun q : Nat => s.heap.size ≤ q) 4 M 737 [(3, .int 0), (2, .ref (ad 79)), (0, .ref b), (1, .ref (ad 0))] [] := by
  subst hkc; subst hks
  obtain ⟨hx, hb, hr, hml, hown, hts, hX, hbl, hlocks, hgv⟩ := id C0
  have hbA : ¬ (fun q : Nat => s.heap.size ≤ q) b := Nat.not_le.mpr hbl
  refine j_aload_n X 3 rfl rfl dL_law_737 ?_
  refine j_aload_n X 2 rfl rfl dL_law_738 ?_
  refine j_iload_n X 0 rfl rfl dL_law_739 ?_
  refine j_iconst X (v := 1) (by decide) dL_law_740 ?_
  refine j_iadd X dL_law_741 ?_
  refine j_eqi (v := 1) (by decide) ?_
  refine j_sld X hX hbl hbA (by unfold vp_in; decide) dL_law_742 ?_
  refine j_eqi (v := xs 1) rfl ?_
  refine j_aload_n X 2 rfl rfl dL_law_743 ?_
  refine j_iload_n X 0 rfl rfl dL_law_744 ?_
  refine j_iconst X (v := 2) (by decide) dL_law_745 ?_
  refine j_iadd X dL_law_746 ?_
  refine j_eqi (v := 2) (by decide) ?_
  refine j_sld X hX hbl hbA (by unfold vp_in; decide) dL_law_747 ?_
  refine j_eqi (v := xs 2) rfl ?_
  refine j_callVI X (nn := 2) (As := [.int (xs 1), .int (xs 2)]) (st := []) (ci := 7) (by decide) (wE_7 _ rfl) rfl aw_579 aw_580 (c0_X7_start l D y ad M hz (xs 1) (xs 2)) aw_578 aw_581 aw_2 (by decide +kernel) ⟨by decide, by decide⟩ rfl (Nat.le_of_ble_eq_true rfl) ⟨by decide, by decide⟩ dL_law_748 ?_
  rintro r_ M_48 ⟨rfl, s_47⟩
  refine j_aload_n X 1 rfl rfl dL_law_751 ?_
  refine j_aload_n X 2 rfl rfl dL_law_752 ?_
  refine j_iload_n X 0 rfl rfl dL_law_753 ?_
  refine j_iconst X (v := 1) (by decide) dL_law_754 ?_
  refine j_iadd X dL_law_755 ?_
  refine j_eqi (v := 1) (by decide) ?_
  refine j_sld X hX hbl hbA (by unfold vp_in; decide) dL_law_756 ?_
  refine j_eqi (v := xs 1) rfl ?_
  refine j_aload_n X 2 rfl rfl dL_law_757 ?_
  refine j_iload_n X 0 rfl rfl dL_law_758 ?_
  refine j_iconst X (v := 2) (by decide) dL_law_759 ?_
  refine j_iadd X dL_law_760 ?_
  refine j_eqi (v := 2) (by decide) ?_
  refine j_sld X hX hbl hbA (by unfold vp_in; decide) dL_law_761 ?_
  refine j_eqi (v := xs 2) rfl ?_
  refine j_callVI X (nn := 2) (As := [.int (xs 1), .int (xs 2)]) (st := [.int (sp_start (xs 1) (xs 2))]) (ci := 8) (by decide) (wE_8 _ rfl) rfl aw_583 aw_584 (c0_X8_start l D y ad M_48 (Z1_keep s_47 hy) (xs 1) (xs 2)) aw_582 aw_585 aw_5 (by decide +kernel) ⟨by decide, by decide⟩ rfl (Nat.le_of_ble_eq_true rfl) ⟨by decide, by decide⟩ dL_law_762 ?_
  rintro r_ M1_ rfl
  refine j_icmp_eq X 1475 (by decide) dL_law_765 (fun _ => ?_) (fun c_49 => False.elim (c_49 rfl))
  refine j_lv (lv1 := [(3, .int 0), (2, .ref (ad 79)), (0, .ref b), (1, .ref (ad 0))]) [0, 1, 2, 3] rfl ?_
  exact law_end C0 X rfl rfl
set_option maxRecDepth 100000 in
set_option maxHeartbeats 4000000 in
theorem law_case_16 {p : Program} {l : Launch} {e : Env} {s : State} {m : MethodId} {below : List Frame} {meth : Method} {c : Code} {D : va_G} {y : wY} {ad : Nat → Nat} {M : Mem} {b kc ks : Nat} {xs : Nat → Int32} (C0 : lw_At p s m meth c b 6 xs) (X : Amb p m c cL_law 4 s #[Value.ref b] lw_tbl RL D y (fun q : Nat => s.heap.size ≤ q)) (hz : Z0 M) (hy : Z1 M) (hkc : kc = 92) (hks : ks = 2832) : J p l e room_1 s m #[Value.ref b] below meth c kc ks (lw_Z below #[Value.ref b] s) D y ad (fun q : Nat => s.heap.size ≤ q) 4 M 770 [(3, .int 0), (2, .ref (ad 79)), (0, .ref b), (1, .ref (ad 0))] [] := by
  subst hkc; subst hks
  obtain ⟨hx, hb, hr, hml, hown, hts, hX, hbl, hlocks, hgv⟩ := id C0
  have hbA : ¬ (fun q : Nat => s.heap.size ≤ q) b := Nat.not_le.mpr hbl
  refine j_aload_n X 3 rfl rfl dL_law_770 ?_
  refine j_aload_n X 2 rfl rfl dL_law_771 ?_
  refine j_iload_n X 0 rfl rfl dL_law_772 ?_
  refine j_iconst X (v := 1) (by decide) dL_law_773 ?_
  refine j_iadd X dL_law_774 ?_
  refine j_eqi (v := 1) (by decide) ?_
  refine j_sld X hX hbl hbA (by unfold vp_in; decide) dL_law_775 ?_
  refine j_eqi (v := xs 1) rfl ?_
  refine j_aload_n X 2 rfl rfl dL_law_776 ?_
  refine j_iload_n X 0 rfl rfl dL_law_777 ?_
  refine j_iconst X (v := 2) (by decide) dL_law_778 ?_
  refine j_iadd X dL_law_779 ?_
  refine j_eqi (v := 2) (by decide) ?_
  refine j_sld X hX hbl hbA (by unfold vp_in; decide) dL_law_780 ?_
  refine j_eqi (v := xs 2) rfl ?_
  refine j_callVI X (nn := 2) (As := [.int (xs 1), .int (xs 2)]) (st := []) (ci := 7) (by decide) (wE_7 _ rfl) rfl aw_591 aw_592 (c0_X7_pace l D y ad M hz (xs 1) (xs 2)) aw_590 aw_593 aw_2 (by decide +kernel) ⟨by decide, by decide⟩ rfl (Nat.le_of_ble_eq_true rfl) ⟨by decide, by decide⟩ dL_law_781 ?_
  rintro r_ M_51 ⟨rfl, s_50⟩
  refine j_aload_n X 1 rfl rfl dL_law_784 ?_
  refine j_aload_n X 2 rfl rfl dL_law_785 ?_
  refine j_iload_n X 0 rfl rfl dL_law_786 ?_
  refine j_iconst X (v := 1) (by decide) dL_law_787 ?_
  refine j_iadd X dL_law_788 ?_
  refine j_eqi (v := 1) (by decide) ?_
  refine j_sld X hX hbl hbA (by unfold vp_in; decide) dL_law_789 ?_
  refine j_eqi (v := xs 1) rfl ?_
  refine j_aload_n X 2 rfl rfl dL_law_790 ?_
  refine j_iload_n X 0 rfl rfl dL_law_791 ?_
  refine j_iconst X (v := 2) (by decide) dL_law_792 ?_
  refine j_iadd X dL_law_793 ?_
  refine j_eqi (v := 2) (by decide) ?_
  refine j_sld X hX hbl hbA (by unfold vp_in; decide) dL_law_794 ?_
  refine j_eqi (v := xs 2) rfl ?_
  refine j_callVI X (nn := 2) (As := [.int (xs 1), .int (xs 2)]) (st := [.int (sp_pace (xs 1) (xs 2))]) (ci := 8) (by decide) (wE_8 _ rfl) rfl aw_595 aw_596 (c0_X8_pace l D y ad M_51 (Z1_keep s_50 hy) (xs 1) (xs 2)) aw_594 aw_597 aw_5 (by decide +kernel) ⟨by decide, by decide⟩ rfl (Nat.le_of_ble_eq_true rfl) ⟨by decide, by decide⟩ dL_law_795 ?_
  rintro r_ M1_ rfl
  refine j_icmp_eq X 1475 (by decide) dL_law_798 (fun _ => ?_) (fun c_52 => False.elim (c_52 rfl))
  refine j_lv (lv1 := [(3, .int 0), (2, .ref (ad 79)), (0, .ref b), (1, .ref (ad 0))]) [0, 1, 2, 3] rfl ?_
  exact law_end C0 X rfl rfl
set_option maxRecDepth 100000 in
set_option maxHeartbeats 4000000 in
theorem law_case_17 {p : Program} {l : Launch} {e : Env} {s : State} {m : MethodId} {below : List Frame} {meth : Method} {c : Code} {D : va_G} {y : wY} {ad : Nat → Nat} {M : Mem} {b kc ks : Nat} {xs : Nat → Int32} (C0 : lw_At p s m meth c b 6 xs) (X : Amb p m c cL_law 4 s #[Value.ref b] lw_tbl RL D y (fun q : Nat => s.heap.size ≤ q)) (hz : Z0 M) (hy : Z1 M) (hkc : kc = 92) (hks : ks = 2832) : J p l e room_1 s m #[Value.ref b] below meth c kc ks (lw_Z below #[Value.ref b] s) D y ad (fun q : Nat => s.heap.size ≤ q) 4 M 803 [(3, .int 0), (2, .ref (ad 79)), (0, .ref b), (1, .ref (ad 0))] [] := by
  subst hkc; subst hks
  obtain ⟨hx, hb, hr, hml, hown, hts, hX, hbl, hlocks, hgv⟩ := id C0
  have hbA : ¬ (fun q : Nat => s.heap.size ≤ q) b := Nat.not_le.mpr hbl
  refine j_aload_n X 3 rfl rfl dL_law_803 ?_
  refine j_aload_n X 2 rfl rfl dL_law_804 ?_
  refine j_iload_n X 0 rfl rfl dL_law_805 ?_
  refine j_iconst X (v := 1) (by decide) dL_law_806 ?_
  refine j_iadd X dL_law_807 ?_
  refine j_eqi (v := 1) (by decide) ?_
  refine j_sld X hX hbl hbA (by unfold vp_in; decide) dL_law_808 ?_
  refine j_eqi (v := xs 1) rfl ?_
  refine j_aload_n X 2 rfl rfl dL_law_809 ?_
  refine j_iload_n X 0 rfl rfl dL_law_810 ?_
  refine j_iconst X (v := 2) (by decide) dL_law_811 ?_
  refine j_iadd X dL_law_812 ?_
  refine j_eqi (v := 2) (by decide) ?_
  refine j_sld X hX hbl hbA (by unfold vp_in; decide) dL_law_813 ?_
  refine j_eqi (v := xs 2) rfl ?_
  refine j_callVI X (nn := 2) (As := [.int (xs 1), .int (xs 2)]) (st := []) (ci := 7) (by decide) (wE_7 _ rfl) rfl aw_599 aw_600 (c0_X7_hand l D y ad M hz (xs 1) (xs 2)) aw_598 aw_601 aw_2 (by decide +kernel) ⟨by decide, by decide⟩ rfl (Nat.le_of_ble_eq_true rfl) ⟨by decide, by decide⟩ dL_law_814 ?_
  rintro r_ M_54 ⟨rfl, s_53⟩
  refine j_aload_n X 1 rfl rfl dL_law_817 ?_
  refine j_aload_n X 2 rfl rfl dL_law_818 ?_
  refine j_iload_n X 0 rfl rfl dL_law_819 ?_
  refine j_iconst X (v := 1) (by decide) dL_law_820 ?_
  refine j_iadd X dL_law_821 ?_
  refine j_eqi (v := 1) (by decide) ?_
  refine j_sld X hX hbl hbA (by unfold vp_in; decide) dL_law_822 ?_
  refine j_eqi (v := xs 1) rfl ?_
  refine j_aload_n X 2 rfl rfl dL_law_823 ?_
  refine j_iload_n X 0 rfl rfl dL_law_824 ?_
  refine j_iconst X (v := 2) (by decide) dL_law_825 ?_
  refine j_iadd X dL_law_826 ?_
  refine j_eqi (v := 2) (by decide) ?_
  refine j_sld X hX hbl hbA (by unfold vp_in; decide) dL_law_827 ?_
  refine j_eqi (v := xs 2) rfl ?_
  refine j_callVI X (nn := 2) (As := [.int (xs 1), .int (xs 2)]) (st := [.int (sp_hand (xs 1) (xs 2))]) (ci := 8) (by decide) (wE_8 _ rfl) rfl aw_614 aw_615 (c0_X8_hand l D y ad M_54 (Z1_keep s_53 hy) (xs 1) (xs 2)) aw_613 aw_616 aw_5 (by decide +kernel) ⟨by decide, by decide⟩ rfl (Nat.le_of_ble_eq_true rfl) ⟨by decide, by decide⟩ dL_law_828 ?_
  rintro r_ M1_ rfl
  refine j_icmp_eq X 1475 (by decide) dL_law_831 (fun _ => ?_) (fun c_55 => False.elim (c_55 rfl))
  refine j_lv (lv1 := [(3, .int 0), (2, .ref (ad 79)), (0, .ref b), (1, .ref (ad 0))]) [0, 1, 2, 3] rfl ?_
  exact law_end C0 X rfl rfl
set_option maxRecDepth 100000 in
set_option maxHeartbeats 4000000 in
theorem law_case_18 {p : Program} {l : Launch} {e : Env} {s : State} {m : MethodId} {below : List Frame} {meth : Method} {c : Code} {D : va_G} {y : wY} {ad : Nat → Nat} {M : Mem} {b kc ks : Nat} {xs : Nat → Int32} (C0 : lw_At p s m meth c b 6 xs) (X : Amb p m c cL_law 4 s #[Value.ref b] lw_tbl RL D y (fun q : Nat => s.heap.size ≤ q)) (hz : Z0 M) (hy : Z1 M) (hkc : kc = 92) (hks : ks = 2832) : J p l e room_1 s m #[Value.ref b] below meth c kc ks (lw_Z below #[Value.ref b] s) D y ad (fun q : Nat => s.heap.size ≤ q) 4 M 836 [(3, .int 0), (2, .ref (ad 79)), (0, .ref b), (1, .ref (ad 0))] [] := by
  subst hkc; subst hks
  obtain ⟨hx, hb, hr, hml, hown, hts, hX, hbl, hlocks, hgv⟩ := id C0
  have hbA : ¬ (fun q : Nat => s.heap.size ≤ q) b := Nat.not_le.mpr hbl
  refine j_aload_n X 3 rfl rfl dL_law_836 ?_
  refine j_aload_n X 2 rfl rfl dL_law_837 ?_
  refine j_iload_n X 0 rfl rfl dL_law_838 ?_
  refine j_iconst X (v := 1) (by decide) dL_law_839 ?_
  refine j_iadd X dL_law_840 ?_
  refine j_eqi (v := 1) (by decide) ?_
  refine j_sld X hX hbl hbA (by unfold vp_in; decide) dL_law_841 ?_
  refine j_eqi (v := xs 1) rfl ?_
  refine j_aload_n X 2 rfl rfl dL_law_842 ?_
  refine j_iload_n X 0 rfl rfl dL_law_843 ?_
  refine j_iconst X (v := 2) (by decide) dL_law_844 ?_
  refine j_iadd X dL_law_845 ?_
  refine j_eqi (v := 2) (by decide) ?_
  refine j_sld X hX hbl hbA (by unfold vp_in; decide) dL_law_846 ?_
  refine j_eqi (v := xs 2) rfl ?_
  refine j_callVI X (nn := 2) (As := [.int (xs 1), .int (xs 2)]) (st := []) (ci := 7) (by decide) (wE_7 _ rfl) rfl aw_622 aw_623 (c0_X7_first l D y ad M hz (xs 1) (xs 2)) aw_621 aw_624 aw_2 (by decide +kernel) ⟨by decide, by decide⟩ rfl (Nat.le_of_ble_eq_true rfl) ⟨by decide, by decide⟩ dL_law_847 ?_
  rintro r_ M_57 ⟨rfl, s_56⟩
  refine j_aload_n X 1 rfl rfl dL_law_850 ?_
  refine j_aload_n X 2 rfl rfl dL_law_851 ?_
  refine j_iload_n X 0 rfl rfl dL_law_852 ?_
  refine j_iconst X (v := 1) (by decide) dL_law_853 ?_
  refine j_iadd X dL_law_854 ?_
  refine j_eqi (v := 1) (by decide) ?_
  refine j_sld X hX hbl hbA (by unfold vp_in; decide) dL_law_855 ?_
  refine j_eqi (v := xs 1) rfl ?_
  refine j_aload_n X 2 rfl rfl dL_law_856 ?_
  refine j_iload_n X 0 rfl rfl dL_law_857 ?_
  refine j_iconst X (v := 2) (by decide) dL_law_858 ?_
  refine j_iadd X dL_law_859 ?_
  refine j_eqi (v := 2) (by decide) ?_
  refine j_sld X hX hbl hbA (by unfold vp_in; decide) dL_law_860 ?_
  refine j_eqi (v := xs 2) rfl ?_
  refine j_callVI X (nn := 2) (As := [.int (xs 1), .int (xs 2)]) (st := [.int (sp_first (xs 1) (xs 2))]) (ci := 8) (by decide) (wE_8 _ rfl) rfl aw_630 aw_631 (c0_X8_first l D y ad M_57 (Z1_keep s_56 hy) (xs 1) (xs 2)) aw_629 aw_632 aw_5 (by decide +kernel) ⟨by decide, by decide⟩ rfl (Nat.le_of_ble_eq_true rfl) ⟨by decide, by decide⟩ dL_law_861 ?_
  rintro r_ M1_ rfl
  refine j_icmp_eq X 1475 (by decide) dL_law_864 (fun _ => ?_) (fun c_58 => False.elim (c_58 rfl))
  refine j_lv (lv1 := [(3, .int 0), (2, .ref (ad 79)), (0, .ref b), (1, .ref (ad 0))]) [0, 1, 2, 3] rfl ?_
  exact law_end C0 X rfl rfl
set_option maxRecDepth 100000 in
set_option maxHeartbeats 4000000 in
theorem law_case_19 {p : Program} {l : Launch} {e : Env} {s : State} {m : MethodId} {below : List Frame} {meth : Method} {c : Code} {D : va_G} {y : wY} {ad : Nat → Nat} {M : Mem} {b kc ks : Nat} {xs : Nat → Int32} (C0 : lw_At p s m meth c b 6 xs) (X : Amb p m c cL_law 4 s #[Value.ref b] lw_tbl RL D y (fun q : Nat => s.heap.size ≤ q)) (hz : Z0 M) (hy : Z1 M) (hkc : kc = 92) (hks : ks = 2832) : J p l e room_1 s m #[Value.ref b] below meth c kc ks (lw_Z below #[Value.ref b] s) D y ad (fun q : Nat => s.heap.size ≤ q) 4 M 869 [(3, .int 0), (2, .ref (ad 79)), (0, .ref b), (1, .ref (ad 0))] [] := by
  subst hkc; subst hks
  obtain ⟨hx, hb, hr, hml, hown, hts, hX, hbl, hlocks, hgv⟩ := id C0
  have hbA : ¬ (fun q : Nat => s.heap.size ≤ q) b := Nat.not_le.mpr hbl
  refine j_aload_n X 3 rfl rfl dL_law_869 ?_
  refine j_aload_n X 2 rfl rfl dL_law_870 ?_
  refine j_iload_n X 0 rfl rfl dL_law_871 ?_
  refine j_iconst X (v := 1) (by decide) dL_law_872 ?_
  refine j_iadd X dL_law_873 ?_
  refine j_eqi (v := 1) (by decide) ?_
  refine j_sld X hX hbl hbA (by unfold vp_in; decide) dL_law_874 ?_
  refine j_eqi (v := xs 1) rfl ?_
  refine j_aload_n X 2 rfl rfl dL_law_875 ?_
  refine j_iload_n X 0 rfl rfl dL_law_876 ?_
  refine j_iconst X (v := 2) (by decide) dL_law_877 ?_
  refine j_iadd X dL_law_878 ?_
  refine j_eqi (v := 2) (by decide) ?_
  refine j_sld X hX hbl hbA (by unfold vp_in; decide) dL_law_879 ?_
  refine j_eqi (v := xs 2) rfl ?_
  refine j_callVI X (nn := 2) (As := [.int (xs 1), .int (xs 2)]) (st := []) (ci := 7) (by decide) (wE_7 _ rfl) rfl aw_635 aw_636 (c0_X7_sparks l D y ad M hz (xs 1) (xs 2)) aw_634 aw_637 aw_2 (by decide +kernel) ⟨by decide, by decide⟩ rfl (Nat.le_of_ble_eq_true rfl) ⟨by decide, by decide⟩ dL_law_880 ?_
  rintro r_ M_60 ⟨rfl, s_59⟩
  refine j_aload_n X 1 rfl rfl dL_law_883 ?_
  refine j_aload_n X 2 rfl rfl dL_law_884 ?_
  refine j_iload_n X 0 rfl rfl dL_law_885 ?_
  refine j_iconst X (v := 1) (by decide) dL_law_886 ?_
  refine j_iadd X dL_law_887 ?_
  refine j_eqi (v := 1) (by decide) ?_
  refine j_sld X hX hbl hbA (by unfold vp_in; decide) dL_law_888 ?_
  refine j_eqi (v := xs 1) rfl ?_
  refine j_aload_n X 2 rfl rfl dL_law_889 ?_
  refine j_iload_n X 0 rfl rfl dL_law_890 ?_
  refine j_iconst X (v := 2) (by decide) dL_law_891 ?_
  refine j_iadd X dL_law_892 ?_
  refine j_eqi (v := 2) (by decide) ?_
  refine j_sld X hX hbl hbA (by unfold vp_in; decide) dL_law_893 ?_
  refine j_eqi (v := xs 2) rfl ?_
  refine j_callVI X (nn := 2) (As := [.int (xs 1), .int (xs 2)]) (st := [.int (sp_sparks (xs 1) (xs 2))]) (ci := 8) (by decide) (wE_8 _ rfl) rfl aw_649 aw_650 (c0_X8_sparks l D y ad M_60 (Z1_keep s_59 hy) (xs 1) (xs 2)) aw_648 aw_651 aw_5 (by decide +kernel) ⟨by decide, by decide⟩ rfl (Nat.le_of_ble_eq_true rfl) ⟨by decide, by decide⟩ dL_law_894 ?_
  rintro r_ M1_ rfl
  refine j_icmp_eq X 1475 (by decide) dL_law_897 (fun _ => ?_) (fun c_61 => False.elim (c_61 rfl))
  refine j_lv (lv1 := [(3, .int 0), (2, .ref (ad 79)), (0, .ref b), (1, .ref (ad 0))]) [0, 1, 2, 3] rfl ?_
  exact law_end C0 X rfl rfl
set_option maxRecDepth 100000 in
set_option maxHeartbeats 4000000 in
theorem law_case_20 {p : Program} {l : Launch} {e : Env} {s : State} {m : MethodId} {below : List Frame} {meth : Method} {c : Code} {D : va_G} {y : wY} {ad : Nat → Nat} {M : Mem} {b kc ks : Nat} {xs : Nat → Int32} (C0 : lw_At p s m meth c b 6 xs) (X : Amb p m c cL_law 4 s #[Value.ref b] lw_tbl RL D y (fun q : Nat => s.heap.size ≤ q)) (hz : Z0 M) (hy : Z1 M) (hkc : kc = 92) (hks : ks = 2832) : J p l e room_1 s m #[Value.ref b] below meth c kc ks (lw_Z below #[Value.ref b] s) D y ad (fun q : Nat => s.heap.size ≤ q) 4 M 902 [(3, .int 0), (2, .ref (ad 79)), (0, .ref b), (1, .ref (ad 0))] [] := by
  subst hkc; subst hks
  obtain ⟨hx, hb, hr, hml, hown, hts, hX, hbl, hlocks, hgv⟩ := id C0
  have hbA : ¬ (fun q : Nat => s.heap.size ≤ q) b := Nat.not_le.mpr hbl
  refine j_aload_n X 3 rfl rfl dL_law_902 ?_
  refine j_aload_n X 2 rfl rfl dL_law_903 ?_
  refine j_iload_n X 0 rfl rfl dL_law_904 ?_
  refine j_iconst X (v := 1) (by decide) dL_law_905 ?_
  refine j_iadd X dL_law_906 ?_
  refine j_eqi (v := 1) (by decide) ?_
  refine j_sld X hX hbl hbA (by unfold vp_in; decide) dL_law_907 ?_
  refine j_eqi (v := xs 1) rfl ?_
  refine j_callVI X (nn := 1) (As := [.int (xs 1)]) (st := []) (ci := 7) (by decide) (wE_7 _ rfl) rfl aw_660 aw_661 (c0_X7_last l D y ad M hz (xs 1)) aw_659 aw_662 aw_2 (by decide +kernel) ⟨by decide, by decide⟩ rfl (Nat.le_of_ble_eq_true rfl) ⟨by decide, by decide⟩ dL_law_908 ?_
  rintro r_ M_63 ⟨rfl, s_62⟩
  refine j_aload_n X 1 rfl rfl dL_law_911 ?_
  refine j_aload_n X 2 rfl rfl dL_law_912 ?_
  refine j_iload_n X 0 rfl rfl dL_law_913 ?_
  refine j_iconst X (v := 1) (by decide) dL_law_914 ?_
  refine j_iadd X dL_law_915 ?_
  refine j_eqi (v := 1) (by decide) ?_
  refine j_sld X hX hbl hbA (by unfold vp_in; decide) dL_law_916 ?_
  refine j_eqi (v := xs 1) rfl ?_
  refine j_callVI X (nn := 1) (As := [.int (xs 1)]) (st := [.int (sp_last (xs 1))]) (ci := 8) (by decide) (wE_8 _ rfl) rfl aw_667 aw_668 (c0_X8_last l D y ad M_63 (Z1_keep s_62 hy) (xs 1)) aw_666 aw_669 aw_5 (by decide +kernel) ⟨by decide, by decide⟩ rfl (Nat.le_of_ble_eq_true rfl) ⟨by decide, by decide⟩ dL_law_917 ?_
  rintro r_ M1_ rfl
  refine j_icmp_eq X 1475 (by decide) dL_law_920 (fun _ => ?_) (fun c_64 => False.elim (c_64 rfl))
  refine j_lv (lv1 := [(3, .int 0), (2, .ref (ad 79)), (0, .ref b), (1, .ref (ad 0))]) [0, 1, 2, 3] rfl ?_
  exact law_end C0 X rfl rfl
set_option maxRecDepth 100000 in
set_option maxHeartbeats 4000000 in
theorem law_case_21 {p : Program} {l : Launch} {e : Env} {s : State} {m : MethodId} {below : List Frame} {meth : Method} {c : Code} {D : va_G} {y : wY} {ad : Nat → Nat} {M : Mem} {b kc ks : Nat} {xs : Nat → Int32} (C0 : lw_At p s m meth c b 6 xs) (X : Amb p m c cL_law 4 s #[Value.ref b] lw_tbl RL D y (fun q : Nat => s.heap.size ≤ q)) (hz : Z0 M) (hy : Z1 M) (hkc : kc = 92) (hks : ks = 2832) : J p l e room_1 s m #[Value.ref b] below meth c kc ks (lw_Z below #[Value.ref b] s) D y ad (fun q : Nat => s.heap.size ≤ q) 4 M 925 [(3, .int 0), (2, .ref (ad 79)), (0, .ref b), (1, .ref (ad 0))] [] := by
  subst hkc; subst hks
  obtain ⟨hx, hb, hr, hml, hown, hts, hX, hbl, hlocks, hgv⟩ := id C0
  have hbA : ¬ (fun q : Nat => s.heap.size ≤ q) b := Nat.not_le.mpr hbl
  refine j_aload_n X 3 rfl rfl dL_law_925 ?_
  refine j_aload_n X 2 rfl rfl dL_law_926 ?_
  refine j_iload_n X 0 rfl rfl dL_law_927 ?_
  refine j_iconst X (v := 1) (by decide) dL_law_928 ?_
  refine j_iadd X dL_law_929 ?_
  refine j_eqi (v := 1) (by decide) ?_
  refine j_sld X hX hbl hbA (by unfold vp_in; decide) dL_law_930 ?_
  refine j_eqi (v := xs 1) rfl ?_
  refine j_aload_n X 2 rfl rfl dL_law_931 ?_
  refine j_iload_n X 0 rfl rfl dL_law_932 ?_
  refine j_iconst X (v := 2) (by decide) dL_law_933 ?_
  refine j_iadd X dL_law_934 ?_
  refine j_eqi (v := 2) (by decide) ?_
  refine j_sld X hX hbl hbA (by unfold vp_in; decide) dL_law_935 ?_
  refine j_eqi (v := xs 2) rfl ?_
  refine j_callVI X (nn := 2) (As := [.int (xs 1), .int (xs 2)]) (st := []) (ci := 7) (by decide) (wE_7 _ rfl) rfl aw_671 aw_672 (c0_X7_sharp l D y ad M hz (xs 1) (xs 2)) aw_670 aw_673 aw_2 (by decide +kernel) ⟨by decide, by decide⟩ rfl (Nat.le_of_ble_eq_true rfl) ⟨by decide, by decide⟩ dL_law_936 ?_
  rintro r_ M_66 ⟨rfl, s_65⟩
  refine j_aload_n X 1 rfl rfl dL_law_939 ?_
  refine j_aload_n X 2 rfl rfl dL_law_940 ?_
  refine j_iload_n X 0 rfl rfl dL_law_941 ?_
  refine j_iconst X (v := 1) (by decide) dL_law_942 ?_
  refine j_iadd X dL_law_943 ?_
  refine j_eqi (v := 1) (by decide) ?_
  refine j_sld X hX hbl hbA (by unfold vp_in; decide) dL_law_944 ?_
  refine j_eqi (v := xs 1) rfl ?_
  refine j_aload_n X 2 rfl rfl dL_law_945 ?_
  refine j_iload_n X 0 rfl rfl dL_law_946 ?_
  refine j_iconst X (v := 2) (by decide) dL_law_947 ?_
  refine j_iadd X dL_law_948 ?_
  refine j_eqi (v := 2) (by decide) ?_
  refine j_sld X hX hbl hbA (by unfold vp_in; decide) dL_law_949 ?_
  refine j_eqi (v := xs 2) rfl ?_
  refine j_callVI X (nn := 2) (As := [.int (xs 1), .int (xs 2)]) (st := [.int (sp_sharp (xs 1) (xs 2))]) (ci := 8) (by decide) (wE_8 _ rfl) rfl aw_675 aw_676 (c0_X8_sharp l D y ad M_66 (Z1_keep s_65 hy) (xs 1) (xs 2)) aw_674 aw_677 aw_5 (by decide +kernel) ⟨by decide, by decide⟩ rfl (Nat.le_of_ble_eq_true rfl) ⟨by decide, by decide⟩ dL_law_950 ?_
  rintro r_ M1_ rfl
  refine j_icmp_eq X 1475 (by decide) dL_law_953 (fun _ => ?_) (fun c_67 => False.elim (c_67 rfl))
  refine j_lv (lv1 := [(3, .int 0), (2, .ref (ad 79)), (0, .ref b), (1, .ref (ad 0))]) [0, 1, 2, 3] rfl ?_
  exact law_end C0 X rfl rfl
set_option maxRecDepth 100000 in
set_option maxHeartbeats 4000000 in
theorem law_case_22 {p : Program} {l : Launch} {e : Env} {s : State} {m : MethodId} {below : List Frame} {meth : Method} {c : Code} {D : va_G} {y : wY} {ad : Nat → Nat} {M : Mem} {b kc ks : Nat} {xs : Nat → Int32} (C0 : lw_At p s m meth c b 6 xs) (X : Amb p m c cL_law 4 s #[Value.ref b] lw_tbl RL D y (fun q : Nat => s.heap.size ≤ q)) (hz : Z0 M) (hy : Z1 M) (hkc : kc = 92) (hks : ks = 2832) : J p l e room_1 s m #[Value.ref b] below meth c kc ks (lw_Z below #[Value.ref b] s) D y ad (fun q : Nat => s.heap.size ≤ q) 4 M 958 [(3, .int 0), (2, .ref (ad 79)), (0, .ref b), (1, .ref (ad 0))] [] := by
  subst hkc; subst hks
  obtain ⟨hx, hb, hr, hml, hown, hts, hX, hbl, hlocks, hgv⟩ := id C0
  have hbA : ¬ (fun q : Nat => s.heap.size ≤ q) b := Nat.not_le.mpr hbl
  refine j_aload_n X 3 rfl rfl dL_law_958 ?_
  refine j_aload_n X 2 rfl rfl dL_law_959 ?_
  refine j_iload_n X 0 rfl rfl dL_law_960 ?_
  refine j_iconst X (v := 1) (by decide) dL_law_961 ?_
  refine j_iadd X dL_law_962 ?_
  refine j_eqi (v := 1) (by decide) ?_
  refine j_sld X hX hbl hbA (by unfold vp_in; decide) dL_law_963 ?_
  refine j_eqi (v := xs 1) rfl ?_
  refine j_callVI X (nn := 1) (As := [.int (xs 1)]) (st := []) (ci := 7) (by decide) (wE_7 _ rfl) rfl aw_679 aw_680 (c0_X7_off l D y ad M hz (xs 1)) aw_678 aw_681 aw_2 (by decide +kernel) ⟨by decide, by decide⟩ rfl (Nat.le_of_ble_eq_true rfl) ⟨by decide, by decide⟩ dL_law_964 ?_
  rintro r_ M_69 ⟨rfl, s_68⟩
  refine j_aload_n X 1 rfl rfl dL_law_967 ?_
  refine j_aload_n X 2 rfl rfl dL_law_968 ?_
  refine j_iload_n X 0 rfl rfl dL_law_969 ?_
  refine j_iconst X (v := 1) (by decide) dL_law_970 ?_
  refine j_iadd X dL_law_971 ?_
  refine j_eqi (v := 1) (by decide) ?_
  refine j_sld X hX hbl hbA (by unfold vp_in; decide) dL_law_972 ?_
  refine j_eqi (v := xs 1) rfl ?_
  refine j_callVI X (nn := 1) (As := [.int (xs 1)]) (st := [.int (sp_off (xs 1))]) (ci := 8) (by decide) (wE_8 _ rfl) rfl aw_683 aw_684 (c0_X8_off l D y ad M_69 (Z1_keep s_68 hy) (xs 1)) aw_682 aw_685 aw_5 (by decide +kernel) ⟨by decide, by decide⟩ rfl (Nat.le_of_ble_eq_true rfl) ⟨by decide, by decide⟩ dL_law_973 ?_
  rintro r_ M1_ rfl
  refine j_icmp_eq X 1475 (by decide) dL_law_976 (fun _ => ?_) (fun c_70 => False.elim (c_70 rfl))
  refine j_lv (lv1 := [(3, .int 0), (2, .ref (ad 79)), (0, .ref b), (1, .ref (ad 0))]) [0, 1, 2, 3] rfl ?_
  exact law_end C0 X rfl rfl
set_option maxRecDepth 100000 in
set_option maxHeartbeats 4000000 in
theorem law_case_23 {p : Program} {l : Launch} {e : Env} {s : State} {m : MethodId} {below : List Frame} {meth : Method} {c : Code} {D : va_G} {y : wY} {ad : Nat → Nat} {M : Mem} {b kc ks : Nat} {xs : Nat → Int32} (C0 : lw_At p s m meth c b 6 xs) (X : Amb p m c cL_law 4 s #[Value.ref b] lw_tbl RL D y (fun q : Nat => s.heap.size ≤ q)) (hz : Z0 M) (hy : Z1 M) (hkc : kc = 92) (hks : ks = 2832) : J p l e room_1 s m #[Value.ref b] below meth c kc ks (lw_Z below #[Value.ref b] s) D y ad (fun q : Nat => s.heap.size ≤ q) 4 M 981 [(3, .int 0), (2, .ref (ad 79)), (0, .ref b), (1, .ref (ad 0))] [] := by
  subst hkc; subst hks
  obtain ⟨hx, hb, hr, hml, hown, hts, hX, hbl, hlocks, hgv⟩ := id C0
  have hbA : ¬ (fun q : Nat => s.heap.size ≤ q) b := Nat.not_le.mpr hbl
  refine j_aload_n X 3 rfl rfl dL_law_981 ?_
  refine j_aload_n X 2 rfl rfl dL_law_982 ?_
  refine j_iload_n X 0 rfl rfl dL_law_983 ?_
  refine j_iconst X (v := 1) (by decide) dL_law_984 ?_
  refine j_iadd X dL_law_985 ?_
  refine j_eqi (v := 1) (by decide) ?_
  refine j_sld X hX hbl hbA (by unfold vp_in; decide) dL_law_986 ?_
  refine j_eqi (v := xs 1) rfl ?_
  refine j_callVI X (nn := 1) (As := [.int (xs 1)]) (st := []) (ci := 7) (by decide) (wE_7 _ rfl) rfl aw_687 aw_688 (c0_X7_chain l D y ad M hz (xs 1)) aw_686 aw_689 aw_2 (by decide +kernel) ⟨by decide, by decide⟩ rfl (Nat.le_of_ble_eq_true rfl) ⟨by decide, by decide⟩ dL_law_987 ?_
  rintro r_ M_72 ⟨rfl, s_71⟩
  refine j_aload_n X 1 rfl rfl dL_law_990 ?_
  refine j_aload_n X 2 rfl rfl dL_law_991 ?_
  refine j_iload_n X 0 rfl rfl dL_law_992 ?_
  refine j_iconst X (v := 1) (by decide) dL_law_993 ?_
  refine j_iadd X dL_law_994 ?_
  refine j_eqi (v := 1) (by decide) ?_
  refine j_sld X hX hbl hbA (by unfold vp_in; decide) dL_law_995 ?_
  refine j_eqi (v := xs 1) rfl ?_
  refine j_callVI X (nn := 1) (As := [.int (xs 1)]) (st := [.int (sp_chain (xs 1))]) (ci := 8) (by decide) (wE_8 _ rfl) rfl aw_694 aw_695 (c0_X8_chain l D y ad M_72 (Z1_keep s_71 hy) (xs 1)) aw_693 aw_696 aw_5 (by decide +kernel) ⟨by decide, by decide⟩ rfl (Nat.le_of_ble_eq_true rfl) ⟨by decide, by decide⟩ dL_law_996 ?_
  rintro r_ M1_ rfl
  refine j_icmp_eq X 1475 (by decide) dL_law_999 (fun _ => ?_) (fun c_73 => False.elim (c_73 rfl))
  refine j_lv (lv1 := [(3, .int 0), (2, .ref (ad 79)), (0, .ref b), (1, .ref (ad 0))]) [0, 1, 2, 3] rfl ?_
  exact law_end C0 X rfl rfl
set_option maxRecDepth 100000 in
set_option maxHeartbeats 4000000 in
theorem law_case_24 {p : Program} {l : Launch} {e : Env} {s : State} {m : MethodId} {below : List Frame} {meth : Method} {c : Code} {D : va_G} {y : wY} {ad : Nat → Nat} {M : Mem} {b kc ks : Nat} {xs : Nat → Int32} (C0 : lw_At p s m meth c b 6 xs) (X : Amb p m c cL_law 4 s #[Value.ref b] lw_tbl RL D y (fun q : Nat => s.heap.size ≤ q)) (hz : Z0 M) (hy : Z1 M) (hkc : kc = 92) (hks : ks = 2832) : J p l e room_1 s m #[Value.ref b] below meth c kc ks (lw_Z below #[Value.ref b] s) D y ad (fun q : Nat => s.heap.size ≤ q) 4 M 1004 [(3, .int 0), (2, .ref (ad 79)), (0, .ref b), (1, .ref (ad 0))] [] := by
  subst hkc; subst hks
  obtain ⟨hx, hb, hr, hml, hown, hts, hX, hbl, hlocks, hgv⟩ := id C0
  have hbA : ¬ (fun q : Nat => s.heap.size ≤ q) b := Nat.not_le.mpr hbl
  refine j_aload_n X 3 rfl rfl dL_law_1004 ?_
  refine j_aload_n X 2 rfl rfl dL_law_1005 ?_
  refine j_iload_n X 0 rfl rfl dL_law_1006 ?_
  refine j_iconst X (v := 1) (by decide) dL_law_1007 ?_
  refine j_iadd X dL_law_1008 ?_
  refine j_eqi (v := 1) (by decide) ?_
  refine j_sld X hX hbl hbA (by unfold vp_in; decide) dL_law_1009 ?_
  refine j_eqi (v := xs 1) rfl ?_
  refine j_callVI X (nn := 1) (As := [.int (xs 1)]) (st := []) (ci := 7) (by decide) (wE_7 _ rfl) rfl aw_698 aw_699 (c0_X7_fee l D y ad M hz (xs 1)) aw_697 aw_700 aw_2 (by decide +kernel) ⟨by decide, by decide⟩ rfl (Nat.le_of_ble_eq_true rfl) ⟨by decide, by decide⟩ dL_law_1010 ?_
  rintro r_ M_75 ⟨rfl, s_74⟩
  refine j_aload_n X 1 rfl rfl dL_law_1013 ?_
  refine j_aload_n X 2 rfl rfl dL_law_1014 ?_
  refine j_iload_n X 0 rfl rfl dL_law_1015 ?_
  refine j_iconst X (v := 1) (by decide) dL_law_1016 ?_
  refine j_iadd X dL_law_1017 ?_
  refine j_eqi (v := 1) (by decide) ?_
  refine j_sld X hX hbl hbA (by unfold vp_in; decide) dL_law_1018 ?_
  refine j_eqi (v := xs 1) rfl ?_
  refine j_callVI X (nn := 1) (As := [.int (xs 1)]) (st := [.int (sp_fee (xs 1))]) (ci := 8) (by decide) (wE_8 _ rfl) rfl aw_702 aw_703 (c0_X8_fee l D y ad M_75 (Z1_keep s_74 hy) (xs 1)) aw_701 aw_704 aw_5 (by decide +kernel) ⟨by decide, by decide⟩ rfl (Nat.le_of_ble_eq_true rfl) ⟨by decide, by decide⟩ dL_law_1019 ?_
  rintro r_ M1_ rfl
  refine j_icmp_eq X 1475 (by decide) dL_law_1022 (fun _ => ?_) (fun c_76 => False.elim (c_76 rfl))
  refine j_lv (lv1 := [(3, .int 0), (2, .ref (ad 79)), (0, .ref b), (1, .ref (ad 0))]) [0, 1, 2, 3] rfl ?_
  exact law_end C0 X rfl rfl
set_option maxRecDepth 100000 in
set_option maxHeartbeats 4000000 in
theorem law_case_25 {p : Program} {l : Launch} {e : Env} {s : State} {m : MethodId} {below : List Frame} {meth : Method} {c : Code} {D : va_G} {y : wY} {ad : Nat → Nat} {M : Mem} {b kc ks : Nat} {xs : Nat → Int32} (C0 : lw_At p s m meth c b 6 xs) (X : Amb p m c cL_law 4 s #[Value.ref b] lw_tbl RL D y (fun q : Nat => s.heap.size ≤ q)) (hz : Z0 M) (hy : Z1 M) (hkc : kc = 92) (hks : ks = 2832) : J p l e room_1 s m #[Value.ref b] below meth c kc ks (lw_Z below #[Value.ref b] s) D y ad (fun q : Nat => s.heap.size ≤ q) 4 M 1027 [(3, .int 0), (2, .ref (ad 79)), (0, .ref b), (1, .ref (ad 0))] [] := by
  subst hkc; subst hks
  obtain ⟨hx, hb, hr, hml, hown, hts, hX, hbl, hlocks, hgv⟩ := id C0
  have hbA : ¬ (fun q : Nat => s.heap.size ≤ q) b := Nat.not_le.mpr hbl
  refine j_aload_n X 3 rfl rfl dL_law_1027 ?_
  refine j_callVI X (nn := 0) (As := []) (st := []) (ci := 7) (by decide) (wE_7 _ rfl) rfl aw_706 aw_707 (c0_X7_free l D y ad M hz) aw_705 aw_708 aw_2 (by decide +kernel) ⟨by decide, by decide⟩ rfl (Nat.le_of_ble_eq_true rfl) ⟨by decide, by decide⟩ dL_law_1028 ?_
  rintro r_ M_78 ⟨rfl, s_77⟩
  refine j_aload_n X 1 rfl rfl dL_law_1031 ?_
  refine j_callVI X (nn := 0) (As := []) (st := [.int sp_free]) (ci := 8) (by decide) (wE_8 _ rfl) rfl aw_713 aw_714 (c0_X8_free l D y ad M_78 (Z1_keep s_77 hy)) aw_712 aw_715 aw_5 (by decide +kernel) ⟨by decide, by decide⟩ rfl (Nat.le_of_ble_eq_true rfl) ⟨by decide, by decide⟩ dL_law_1032 ?_
  rintro r_ M1_ rfl
  refine j_icmp_eq X 1475 (by decide) dL_law_1035 (fun _ => ?_) (fun c_79 => False.elim (c_79 rfl))
  refine j_lv (lv1 := [(3, .int 0), (2, .ref (ad 79)), (0, .ref b), (1, .ref (ad 0))]) [0, 1, 2, 3] rfl ?_
  exact law_end C0 X rfl rfl
set_option maxRecDepth 100000 in
set_option maxHeartbeats 4000000 in
theorem law_case_26 {p : Program} {l : Launch} {e : Env} {s : State} {m : MethodId} {below : List Frame} {meth : Method} {c : Code} {D : va_G} {y : wY} {ad : Nat → Nat} {M : Mem} {b kc ks : Nat} {xs : Nat → Int32} (C0 : lw_At p s m meth c b 6 xs) (X : Amb p m c cL_law 4 s #[Value.ref b] lw_tbl RL D y (fun q : Nat => s.heap.size ≤ q)) (hz : Z0 M) (hy : Z1 M) (hkc : kc = 92) (hks : ks = 2832) : J p l e room_1 s m #[Value.ref b] below meth c kc ks (lw_Z below #[Value.ref b] s) D y ad (fun q : Nat => s.heap.size ≤ q) 4 M 1040 [(3, .int 0), (2, .ref (ad 79)), (0, .ref b), (1, .ref (ad 0))] [] := by
  subst hkc; subst hks
  obtain ⟨hx, hb, hr, hml, hown, hts, hX, hbl, hlocks, hgv⟩ := id C0
  have hbA : ¬ (fun q : Nat => s.heap.size ≤ q) b := Nat.not_le.mpr hbl
  refine j_aload_n X 3 rfl rfl dL_law_1040 ?_
  refine j_aload_n X 2 rfl rfl dL_law_1041 ?_
  refine j_iload_n X 0 rfl rfl dL_law_1042 ?_
  refine j_iconst X (v := 1) (by decide) dL_law_1043 ?_
  refine j_iadd X dL_law_1044 ?_
  refine j_eqi (v := 1) (by decide) ?_
  refine j_sld X hX hbl hbA (by unfold vp_in; decide) dL_law_1045 ?_
  refine j_eqi (v := xs 1) rfl ?_
  refine j_aload_n X 2 rfl rfl dL_law_1046 ?_
  refine j_iload_n X 0 rfl rfl dL_law_1047 ?_
  refine j_iconst X (v := 2) (by decide) dL_law_1048 ?_
  refine j_iadd X dL_law_1049 ?_
  refine j_eqi (v := 2) (by decide) ?_
  refine j_sld X hX hbl hbA (by unfold vp_in; decide) dL_law_1050 ?_
  refine j_eqi (v := xs 2) rfl ?_
  refine j_aload_n X 2 rfl rfl dL_law_1051 ?_
  refine j_iload_n X 0 rfl rfl dL_law_1052 ?_
  refine j_iconst X (v := 3) (by decide) dL_law_1053 ?_
  refine j_iadd X dL_law_1054 ?_
  refine j_eqi (v := 3) (by decide) ?_
  refine j_sld X hX hbl hbA (by unfold vp_in; decide) dL_law_1055 ?_
  refine j_eqi (v := xs 3) rfl ?_
  refine j_callVI X (nn := 3) (As := [.int (xs 1), .int (xs 2), .int (xs 3)]) (st := []) (ci := 7) (by decide) (wE_7 _ rfl) rfl aw_717 aw_718 (c0_X7_odds l D y ad M hz (xs 1) (xs 2) (xs 3)) aw_716 aw_719 aw_2 (by decide +kernel) ⟨by decide, by decide⟩ rfl (Nat.le_of_ble_eq_true rfl) ⟨by decide, by decide⟩ dL_law_1056 ?_
  rintro r_ M_81 ⟨rfl, s_80⟩
  refine j_aload_n X 1 rfl rfl dL_law_1059 ?_
  refine j_aload_n X 2 rfl rfl dL_law_1060 ?_
  refine j_iload_n X 0 rfl rfl dL_law_1061 ?_
  refine j_iconst X (v := 1) (by decide) dL_law_1062 ?_
  refine j_iadd X dL_law_1063 ?_
  refine j_eqi (v := 1) (by decide) ?_
  refine j_sld X hX hbl hbA (by unfold vp_in; decide) dL_law_1064 ?_
  refine j_eqi (v := xs 1) rfl ?_
  refine j_aload_n X 2 rfl rfl dL_law_1065 ?_
  refine j_iload_n X 0 rfl rfl dL_law_1066 ?_
  refine j_iconst X (v := 2) (by decide) dL_law_1067 ?_
  refine j_iadd X dL_law_1068 ?_
  refine j_eqi (v := 2) (by decide) ?_
  refine j_sld X hX hbl hbA (by unfold vp_in; decide) dL_law_1069 ?_
  refine j_eqi (v := xs 2) rfl ?_
  refine j_aload_n X 2 rfl rfl dL_law_1070 ?_
  refine j_iload_n X 0 rfl rfl dL_law_1071 ?_
  refine j_iconst X (v := 3) (by decide) dL_law_1072 ?_
  refine j_iadd X dL_law_1073 ?_
  refine j_eqi (v := 3) (by decide) ?_
  refine j_sld X hX hbl hbA (by unfold vp_in; decide) dL_law_1074 ?_
  refine j_eqi (v := xs 3) rfl ?_
  refine j_callVI X (nn := 3) (As := [.int (xs 1), .int (xs 2), .int (xs 3)]) (st := [.int (sp_odds (xs 1) (xs 2) (xs 3))]) (ci := 8) (by decide) (wE_8 _ rfl) rfl aw_724 aw_725 (c0_X8_odds l D y ad M_81 (Z1_keep s_80 hy) (xs 1) (xs 2) (xs 3)) aw_723 aw_726 aw_5 (by decide +kernel) ⟨by decide, by decide⟩ rfl (Nat.le_of_ble_eq_true rfl) ⟨by decide, by decide⟩ dL_law_1075 ?_
  rintro r_ M1_ rfl
  refine j_icmp_eq X 1475 (by decide) dL_law_1078 (fun _ => ?_) (fun c_82 => False.elim (c_82 rfl))
  refine j_lv (lv1 := [(3, .int 0), (2, .ref (ad 79)), (0, .ref b), (1, .ref (ad 0))]) [0, 1, 2, 3] rfl ?_
  exact law_end C0 X rfl rfl
set_option maxRecDepth 100000 in
set_option maxHeartbeats 4000000 in
theorem law_case_27 {p : Program} {l : Launch} {e : Env} {s : State} {m : MethodId} {below : List Frame} {meth : Method} {c : Code} {D : va_G} {y : wY} {ad : Nat → Nat} {M : Mem} {b kc ks : Nat} {xs : Nat → Int32} (C0 : lw_At p s m meth c b 6 xs) (X : Amb p m c cL_law 4 s #[Value.ref b] lw_tbl RL D y (fun q : Nat => s.heap.size ≤ q)) (hz : Z0 M) (hy : Z1 M) (hkc : kc = 92) (hks : ks = 2832) : J p l e room_1 s m #[Value.ref b] below meth c kc ks (lw_Z below #[Value.ref b] s) D y ad (fun q : Nat => s.heap.size ≤ q) 4 M 1083 [(3, .int 0), (2, .ref (ad 79)), (0, .ref b), (1, .ref (ad 0))] [] := by
  subst hkc; subst hks
  obtain ⟨hx, hb, hr, hml, hown, hts, hX, hbl, hlocks, hgv⟩ := id C0
  have hbA : ¬ (fun q : Nat => s.heap.size ≤ q) b := Nat.not_le.mpr hbl
  refine j_aload_n X 3 rfl rfl dL_law_1083 ?_
  refine j_aload_n X 2 rfl rfl dL_law_1084 ?_
  refine j_iload_n X 0 rfl rfl dL_law_1085 ?_
  refine j_iconst X (v := 1) (by decide) dL_law_1086 ?_
  refine j_iadd X dL_law_1087 ?_
  refine j_eqi (v := 1) (by decide) ?_
  refine j_sld X hX hbl hbA (by unfold vp_in; decide) dL_law_1088 ?_
  refine j_eqi (v := xs 1) rfl ?_
  refine j_callVI X (nn := 1) (As := [.int (xs 1)]) (st := []) (ci := 7) (by decide) (wE_7 _ rfl) rfl aw_731 aw_732 (c0_X7_seed l D y ad M hz (xs 1)) aw_730 aw_733 aw_2 (by decide +kernel) ⟨by decide, by decide⟩ rfl (Nat.le_of_ble_eq_true rfl) ⟨by decide, by decide⟩ dL_law_1089 ?_
  rintro r_ M_84 ⟨rfl, s_83⟩
  refine j_aload_n X 1 rfl rfl dL_law_1092 ?_
  refine j_aload_n X 2 rfl rfl dL_law_1093 ?_
  refine j_iload_n X 0 rfl rfl dL_law_1094 ?_
  refine j_iconst X (v := 1) (by decide) dL_law_1095 ?_
  refine j_iadd X dL_law_1096 ?_
  refine j_eqi (v := 1) (by decide) ?_
  refine j_sld X hX hbl hbA (by unfold vp_in; decide) dL_law_1097 ?_
  refine j_eqi (v := xs 1) rfl ?_
  refine j_callVI X (nn := 1) (As := [.int (xs 1)]) (st := [.int (sp_seed (xs 1))]) (ci := 8) (by decide) (wE_8 _ rfl) rfl aw_735 aw_736 (c0_X8_seed l D y ad M_84 (Z1_keep s_83 hy) (xs 1)) aw_734 aw_737 aw_5 (by decide +kernel) ⟨by decide, by decide⟩ rfl (Nat.le_of_ble_eq_true rfl) ⟨by decide, by decide⟩ dL_law_1098 ?_
  rintro r_ M1_ rfl
  refine j_icmp_eq X 1475 (by decide) dL_law_1101 (fun _ => ?_) (fun c_85 => False.elim (c_85 rfl))
  refine j_lv (lv1 := [(3, .int 0), (2, .ref (ad 79)), (0, .ref b), (1, .ref (ad 0))]) [0, 1, 2, 3] rfl ?_
  exact law_end C0 X rfl rfl
set_option maxRecDepth 100000 in
set_option maxHeartbeats 4000000 in
theorem law_case_28 {p : Program} {l : Launch} {e : Env} {s : State} {m : MethodId} {below : List Frame} {meth : Method} {c : Code} {D : va_G} {y : wY} {ad : Nat → Nat} {M : Mem} {b kc ks : Nat} {xs : Nat → Int32} (C0 : lw_At p s m meth c b 6 xs) (X : Amb p m c cL_law 4 s #[Value.ref b] lw_tbl RL D y (fun q : Nat => s.heap.size ≤ q)) (hz : Z0 M) (hy : Z1 M) (hkc : kc = 92) (hks : ks = 2832) : J p l e room_1 s m #[Value.ref b] below meth c kc ks (lw_Z below #[Value.ref b] s) D y ad (fun q : Nat => s.heap.size ≤ q) 4 M 1106 [(3, .int 0), (2, .ref (ad 79)), (0, .ref b), (1, .ref (ad 0))] [] := by
  subst hkc; subst hks
  obtain ⟨hx, hb, hr, hml, hown, hts, hX, hbl, hlocks, hgv⟩ := id C0
  have hbA : ¬ (fun q : Nat => s.heap.size ≤ q) b := Nat.not_le.mpr hbl
  refine j_aload_n X 3 rfl rfl dL_law_1106 ?_
  refine j_aload_n X 2 rfl rfl dL_law_1107 ?_
  refine j_iload_n X 0 rfl rfl dL_law_1108 ?_
  refine j_iconst X (v := 1) (by decide) dL_law_1109 ?_
  refine j_iadd X dL_law_1110 ?_
  refine j_eqi (v := 1) (by decide) ?_
  refine j_sld X hX hbl hbA (by unfold vp_in; decide) dL_law_1111 ?_
  refine j_eqi (v := xs 1) rfl ?_
  refine j_aload_n X 2 rfl rfl dL_law_1112 ?_
  refine j_iload_n X 0 rfl rfl dL_law_1113 ?_
  refine j_iconst X (v := 2) (by decide) dL_law_1114 ?_
  refine j_iadd X dL_law_1115 ?_
  refine j_eqi (v := 2) (by decide) ?_
  refine j_sld X hX hbl hbA (by unfold vp_in; decide) dL_law_1116 ?_
  refine j_eqi (v := xs 2) rfl ?_
  refine j_aload_n X 2 rfl rfl dL_law_1117 ?_
  refine j_iload_n X 0 rfl rfl dL_law_1118 ?_
  refine j_iconst X (v := 3) (by decide) dL_law_1119 ?_
  refine j_iadd X dL_law_1120 ?_
  refine j_eqi (v := 3) (by decide) ?_
  refine j_sld X hX hbl hbA (by unfold vp_in; decide) dL_law_1121 ?_
  refine j_eqi (v := xs 3) rfl ?_
  refine j_callVI X (nn := 3) (As := [.int (xs 1), .int (xs 2), .int (xs 3)]) (st := []) (ci := 7) (by decide) (wE_7 _ rfl) rfl aw_739 aw_740 (c0_X7_voice l D y ad M hz (xs 1) (xs 2) (xs 3)) aw_738 aw_741 aw_2 (by decide +kernel) ⟨by decide, by decide⟩ rfl (Nat.le_of_ble_eq_true rfl) ⟨by decide, by decide⟩ dL_law_1122 ?_
  rintro r_ M_87 ⟨rfl, s_86⟩
  refine j_aload_n X 1 rfl rfl dL_law_1125 ?_
  refine j_aload_n X 2 rfl rfl dL_law_1126 ?_
  refine j_iload_n X 0 rfl rfl dL_law_1127 ?_
  refine j_iconst X (v := 1) (by decide) dL_law_1128 ?_
  refine j_iadd X dL_law_1129 ?_
  refine j_eqi (v := 1) (by decide) ?_
  refine j_sld X hX hbl hbA (by unfold vp_in; decide) dL_law_1130 ?_
  refine j_eqi (v := xs 1) rfl ?_
  refine j_aload_n X 2 rfl rfl dL_law_1131 ?_
  refine j_iload_n X 0 rfl rfl dL_law_1132 ?_
  refine j_iconst X (v := 2) (by decide) dL_law_1133 ?_
  refine j_iadd X dL_law_1134 ?_
  refine j_eqi (v := 2) (by decide) ?_
  refine j_sld X hX hbl hbA (by unfold vp_in; decide) dL_law_1135 ?_
  refine j_eqi (v := xs 2) rfl ?_
  refine j_aload_n X 2 rfl rfl dL_law_1136 ?_
  refine j_iload_n X 0 rfl rfl dL_law_1137 ?_
  refine j_iconst X (v := 3) (by decide) dL_law_1138 ?_
  refine j_iadd X dL_law_1139 ?_
  refine j_eqi (v := 3) (by decide) ?_
  refine j_sld X hX hbl hbA (by unfold vp_in; decide) dL_law_1140 ?_
  refine j_eqi (v := xs 3) rfl ?_
  refine j_callVI X (nn := 3) (As := [.int (xs 1), .int (xs 2), .int (xs 3)]) (st := [.int (sp_voice (xs 1) (xs 2) (xs 3))]) (ci := 8) (by decide) (wE_8 _ rfl) rfl aw_773 aw_774 (c0_X8_voice l D y ad M_87 (Z1_keep s_86 hy) (xs 1) (xs 2) (xs 3)) aw_772 aw_775 aw_5 (by decide +kernel) ⟨by decide, by decide⟩ rfl (Nat.le_of_ble_eq_true rfl) ⟨by decide, by decide⟩ dL_law_1141 ?_
  rintro r_ M1_ rfl
  refine j_icmp_eq X 1475 (by decide) dL_law_1144 (fun _ => ?_) (fun c_88 => False.elim (c_88 rfl))
  refine j_lv (lv1 := [(3, .int 0), (2, .ref (ad 79)), (0, .ref b), (1, .ref (ad 0))]) [0, 1, 2, 3] rfl ?_
  exact law_end C0 X rfl rfl
set_option maxRecDepth 100000 in
set_option maxHeartbeats 4000000 in
theorem law_case_29 {p : Program} {l : Launch} {e : Env} {s : State} {m : MethodId} {below : List Frame} {meth : Method} {c : Code} {D : va_G} {y : wY} {ad : Nat → Nat} {M : Mem} {b kc ks : Nat} {xs : Nat → Int32} (C0 : lw_At p s m meth c b 6 xs) (X : Amb p m c cL_law 4 s #[Value.ref b] lw_tbl RL D y (fun q : Nat => s.heap.size ≤ q)) (hz : Z0 M) (hy : Z1 M) (hkc : kc = 92) (hks : ks = 2832) : J p l e room_1 s m #[Value.ref b] below meth c kc ks (lw_Z below #[Value.ref b] s) D y ad (fun q : Nat => s.heap.size ≤ q) 4 M 1149 [(3, .int 0), (2, .ref (ad 79)), (0, .ref b), (1, .ref (ad 0))] [] := by
  subst hkc; subst hks
  obtain ⟨hx, hb, hr, hml, hown, hts, hX, hbl, hlocks, hgv⟩ := id C0
  have hbA : ¬ (fun q : Nat => s.heap.size ≤ q) b := Nat.not_le.mpr hbl
  refine j_aload_n X 3 rfl rfl dL_law_1149 ?_
  refine j_aload_n X 2 rfl rfl dL_law_1150 ?_
  refine j_iload_n X 0 rfl rfl dL_law_1151 ?_
  refine j_iconst X (v := 1) (by decide) dL_law_1152 ?_
  refine j_iadd X dL_law_1153 ?_
  refine j_eqi (v := 1) (by decide) ?_
  refine j_sld X hX hbl hbA (by unfold vp_in; decide) dL_law_1154 ?_
  refine j_eqi (v := xs 1) rfl ?_
  refine j_callVI X (nn := 1) (As := [.int (xs 1)]) (st := []) (ci := 7) (by decide) (wE_7 _ rfl) rfl aw_801 aw_802 (c0_X7_trace l D y ad M hz (xs 1)) aw_800 aw_803 aw_2 (by decide +kernel) ⟨by decide, by decide⟩ rfl (Nat.le_of_ble_eq_true rfl) ⟨by decide, by decide⟩ dL_law_1155 ?_
  rintro r_ M_90 ⟨rfl, s_89⟩
  refine j_aload_n X 1 rfl rfl dL_law_1158 ?_
  refine j_aload_n X 2 rfl rfl dL_law_1159 ?_
  refine j_iload_n X 0 rfl rfl dL_law_1160 ?_
  refine j_iconst X (v := 1) (by decide) dL_law_1161 ?_
  refine j_iadd X dL_law_1162 ?_
  refine j_eqi (v := 1) (by decide) ?_
  refine j_sld X hX hbl hbA (by unfold vp_in; decide) dL_law_1163 ?_
  refine j_eqi (v := xs 1) rfl ?_
  refine j_callVI X (nn := 1) (As := [.int (xs 1)]) (st := [.int (sp_trace (xs 1))]) (ci := 8) (by decide) (wE_8 _ rfl) rfl aw_805 aw_806 (c0_X8_trace l D y ad M_90 (Z1_keep s_89 hy) (xs 1)) aw_804 aw_807 aw_5 (by decide +kernel) ⟨by decide, by decide⟩ rfl (Nat.le_of_ble_eq_true rfl) ⟨by decide, by decide⟩ dL_law_1164 ?_
  rintro r_ M1_ rfl
  refine j_icmp_eq X 1475 (by decide) dL_law_1167 (fun _ => ?_) (fun c_91 => False.elim (c_91 rfl))
  refine j_lv (lv1 := [(3, .int 0), (2, .ref (ad 79)), (0, .ref b), (1, .ref (ad 0))]) [0, 1, 2, 3] rfl ?_
  exact law_end C0 X rfl rfl
set_option maxRecDepth 100000 in
set_option maxHeartbeats 4000000 in
theorem law_case_30 {p : Program} {l : Launch} {e : Env} {s : State} {m : MethodId} {below : List Frame} {meth : Method} {c : Code} {D : va_G} {y : wY} {ad : Nat → Nat} {M : Mem} {b kc ks : Nat} {xs : Nat → Int32} (C0 : lw_At p s m meth c b 6 xs) (X : Amb p m c cL_law 4 s #[Value.ref b] lw_tbl RL D y (fun q : Nat => s.heap.size ≤ q)) (hz : Z0 M) (hy : Z1 M) (hkc : kc = 92) (hks : ks = 2832) : J p l e room_1 s m #[Value.ref b] below meth c kc ks (lw_Z below #[Value.ref b] s) D y ad (fun q : Nat => s.heap.size ≤ q) 4 M 1172 [(3, .int 0), (2, .ref (ad 79)), (0, .ref b), (1, .ref (ad 0))] [] := by
  subst hkc; subst hks
  obtain ⟨hx, hb, hr, hml, hown, hts, hX, hbl, hlocks, hgv⟩ := id C0
  have hbA : ¬ (fun q : Nat => s.heap.size ≤ q) b := Nat.not_le.mpr hbl
  refine j_aload_n X 3 rfl rfl dL_law_1172 ?_
  refine j_aload_n X 2 rfl rfl dL_law_1173 ?_
  refine j_iload_n X 0 rfl rfl dL_law_1174 ?_
  refine j_iconst X (v := 1) (by decide) dL_law_1175 ?_
  refine j_iadd X dL_law_1176 ?_
  refine j_eqi (v := 1) (by decide) ?_
  refine j_sld X hX hbl hbA (by unfold vp_in; decide) dL_law_1177 ?_
  refine j_eqi (v := xs 1) rfl ?_
  refine j_aload_n X 2 rfl rfl dL_law_1178 ?_
  refine j_iload_n X 0 rfl rfl dL_law_1179 ?_
  refine j_iconst X (v := 2) (by decide) dL_law_1180 ?_
  refine j_iadd X dL_law_1181 ?_
  refine j_eqi (v := 2) (by decide) ?_
  refine j_sld X hX hbl hbA (by unfold vp_in; decide) dL_law_1182 ?_
  refine j_eqi (v := xs 2) rfl ?_
  refine j_aload_n X 2 rfl rfl dL_law_1183 ?_
  refine j_iload_n X 0 rfl rfl dL_law_1184 ?_
  refine j_iconst X (v := 3) (by decide) dL_law_1185 ?_
  refine j_iadd X dL_law_1186 ?_
  refine j_eqi (v := 3) (by decide) ?_
  refine j_sld X hX hbl hbA (by unfold vp_in; decide) dL_law_1187 ?_
  refine j_eqi (v := xs 3) rfl ?_
  refine j_callVI X (nn := 3) (As := [.int (xs 1), .int (xs 2), .int (xs 3)]) (st := []) (ci := 7) (by decide) (wE_7 _ rfl) rfl aw_809 aw_810 (c0_X7_sheet l D y ad M hz (xs 1) (xs 2) (xs 3)) aw_808 aw_811 aw_2 (by decide +kernel) ⟨by decide, by decide⟩ rfl (Nat.le_of_ble_eq_true rfl) ⟨by decide, by decide⟩ dL_law_1188 ?_
  rintro r_ M_93 ⟨rfl, s_92⟩
  refine j_aload_n X 1 rfl rfl dL_law_1191 ?_
  refine j_aload_n X 2 rfl rfl dL_law_1192 ?_
  refine j_iload_n X 0 rfl rfl dL_law_1193 ?_
  refine j_iconst X (v := 1) (by decide) dL_law_1194 ?_
  refine j_iadd X dL_law_1195 ?_
  refine j_eqi (v := 1) (by decide) ?_
  refine j_sld X hX hbl hbA (by unfold vp_in; decide) dL_law_1196 ?_
  refine j_eqi (v := xs 1) rfl ?_
  refine j_aload_n X 2 rfl rfl dL_law_1197 ?_
  refine j_iload_n X 0 rfl rfl dL_law_1198 ?_
  refine j_iconst X (v := 2) (by decide) dL_law_1199 ?_
  refine j_iadd X dL_law_1200 ?_
  refine j_eqi (v := 2) (by decide) ?_
  refine j_sld X hX hbl hbA (by unfold vp_in; decide) dL_law_1201 ?_
  refine j_eqi (v := xs 2) rfl ?_
  refine j_aload_n X 2 rfl rfl dL_law_1202 ?_
  refine j_iload_n X 0 rfl rfl dL_law_1203 ?_
  refine j_iconst X (v := 3) (by decide) dL_law_1204 ?_
  refine j_iadd X dL_law_1205 ?_
  refine j_eqi (v := 3) (by decide) ?_
  refine j_sld X hX hbl hbA (by unfold vp_in; decide) dL_law_1206 ?_
  refine j_eqi (v := xs 3) rfl ?_
  refine j_callVI X (nn := 3) (As := [.int (xs 1), .int (xs 2), .int (xs 3)]) (st := [.int (sp_sheet (xs 1) (xs 2) (xs 3))]) (ci := 8) (by decide) (wE_8 _ rfl) rfl aw_817 aw_818 (c0_X8_sheet l D y ad M_93 (Z1_keep s_92 hy) (xs 1) (xs 2) (xs 3)) aw_816 aw_819 aw_5 (by decide +kernel) ⟨by decide, by decide⟩ rfl (Nat.le_of_ble_eq_true rfl) ⟨by decide, by decide⟩ dL_law_1207 ?_
  rintro r_ M1_ rfl
  refine j_icmp_eq X 1475 (by decide) dL_law_1210 (fun _ => ?_) (fun c_94 => False.elim (c_94 rfl))
  refine j_lv (lv1 := [(3, .int 0), (2, .ref (ad 79)), (0, .ref b), (1, .ref (ad 0))]) [0, 1, 2, 3] rfl ?_
  exact law_end C0 X rfl rfl
set_option maxRecDepth 100000 in
set_option maxHeartbeats 4000000 in
theorem law_case_31 {p : Program} {l : Launch} {e : Env} {s : State} {m : MethodId} {below : List Frame} {meth : Method} {c : Code} {D : va_G} {y : wY} {ad : Nat → Nat} {M : Mem} {b kc ks : Nat} {xs : Nat → Int32} (C0 : lw_At p s m meth c b 6 xs) (X : Amb p m c cL_law 4 s #[Value.ref b] lw_tbl RL D y (fun q : Nat => s.heap.size ≤ q)) (hz : Z0 M) (hy : Z1 M) (hkc : kc = 92) (hks : ks = 2832) : J p l e room_1 s m #[Value.ref b] below meth c kc ks (lw_Z below #[Value.ref b] s) D y ad (fun q : Nat => s.heap.size ≤ q) 4 M 1215 [(3, .int 0), (2, .ref (ad 79)), (0, .ref b), (1, .ref (ad 0))] [] := by
  subst hkc; subst hks
  obtain ⟨hx, hb, hr, hml, hown, hts, hX, hbl, hlocks, hgv⟩ := id C0
  have hbA : ¬ (fun q : Nat => s.heap.size ≤ q) b := Nat.not_le.mpr hbl
  refine j_aload_n X 3 rfl rfl dL_law_1215 ?_
  refine j_aload_n X 2 rfl rfl dL_law_1216 ?_
  refine j_iload_n X 0 rfl rfl dL_law_1217 ?_
  refine j_iconst X (v := 1) (by decide) dL_law_1218 ?_
  refine j_iadd X dL_law_1219 ?_
  refine j_eqi (v := 1) (by decide) ?_
  refine j_sld X hX hbl hbA (by unfold vp_in; decide) dL_law_1220 ?_
  refine j_eqi (v := xs 1) rfl ?_
  refine j_aload_n X 2 rfl rfl dL_law_1221 ?_
  refine j_iload_n X 0 rfl rfl dL_law_1222 ?_
  refine j_iconst X (v := 2) (by decide) dL_law_1223 ?_
  refine j_iadd X dL_law_1224 ?_
  refine j_eqi (v := 2) (by decide) ?_
  refine j_sld X hX hbl hbA (by unfold vp_in; decide) dL_law_1225 ?_
  refine j_eqi (v := xs 2) rfl ?_
  refine j_aload_n X 2 rfl rfl dL_law_1226 ?_
  refine j_iload_n X 0 rfl rfl dL_law_1227 ?_
  refine j_iconst X (v := 3) (by decide) dL_law_1228 ?_
  refine j_iadd X dL_law_1229 ?_
  refine j_eqi (v := 3) (by decide) ?_
  refine j_sld X hX hbl hbA (by unfold vp_in; decide) dL_law_1230 ?_
  refine j_eqi (v := xs 3) rfl ?_
  refine j_callVI X (nn := 3) (As := [.int (xs 1), .int (xs 2), .int (xs 3)]) (st := []) (ci := 7) (by decide) (wE_7 _ rfl) rfl aw_821 aw_822 (c0_X7_put l D y ad M hz (xs 1) (xs 2) (xs 3)) aw_820 aw_823 aw_2 (by decide +kernel) ⟨by decide, by decide⟩ rfl (Nat.le_of_ble_eq_true rfl) ⟨by decide, by decide⟩ dL_law_1231 ?_
  rintro r_ M_96 ⟨rfl, s_95⟩
  refine j_aload_n X 1 rfl rfl dL_law_1234 ?_
  refine j_aload_n X 2 rfl rfl dL_law_1235 ?_
  refine j_iload_n X 0 rfl rfl dL_law_1236 ?_
  refine j_iconst X (v := 1) (by decide) dL_law_1237 ?_
  refine j_iadd X dL_law_1238 ?_
  refine j_eqi (v := 1) (by decide) ?_
  refine j_sld X hX hbl hbA (by unfold vp_in; decide) dL_law_1239 ?_
  refine j_eqi (v := xs 1) rfl ?_
  refine j_aload_n X 2 rfl rfl dL_law_1240 ?_
  refine j_iload_n X 0 rfl rfl dL_law_1241 ?_
  refine j_iconst X (v := 2) (by decide) dL_law_1242 ?_
  refine j_iadd X dL_law_1243 ?_
  refine j_eqi (v := 2) (by decide) ?_
  refine j_sld X hX hbl hbA (by unfold vp_in; decide) dL_law_1244 ?_
  refine j_eqi (v := xs 2) rfl ?_
  refine j_aload_n X 2 rfl rfl dL_law_1245 ?_
  refine j_iload_n X 0 rfl rfl dL_law_1246 ?_
  refine j_iconst X (v := 3) (by decide) dL_law_1247 ?_
  refine j_iadd X dL_law_1248 ?_
  refine j_eqi (v := 3) (by decide) ?_
  refine j_sld X hX hbl hbA (by unfold vp_in; decide) dL_law_1249 ?_
  refine j_eqi (v := xs 3) rfl ?_
  refine j_callVI X (nn := 3) (As := [.int (xs 1), .int (xs 2), .int (xs 3)]) (st := [.int (sp_put (xs 1) (xs 2) (xs 3))]) (ci := 8) (by decide) (wE_8 _ rfl) rfl aw_828 aw_829 (c0_X8_put l D y ad M_96 (Z1_keep s_95 hy) (xs 1) (xs 2) (xs 3)) aw_827 aw_830 aw_5 (by decide +kernel) ⟨by decide, by decide⟩ rfl (Nat.le_of_ble_eq_true rfl) ⟨by decide, by decide⟩ dL_law_1250 ?_
  rintro r_ M1_ rfl
  refine j_icmp_eq X 1475 (by decide) dL_law_1253 (fun _ => ?_) (fun c_97 => False.elim (c_97 rfl))
  refine j_lv (lv1 := [(3, .int 0), (2, .ref (ad 79)), (0, .ref b), (1, .ref (ad 0))]) [0, 1, 2, 3] rfl ?_
  exact law_end C0 X rfl rfl
set_option maxRecDepth 100000 in
set_option maxHeartbeats 4000000 in
theorem law_case_32 {p : Program} {l : Launch} {e : Env} {s : State} {m : MethodId} {below : List Frame} {meth : Method} {c : Code} {D : va_G} {y : wY} {ad : Nat → Nat} {M : Mem} {b kc ks : Nat} {xs : Nat → Int32} (C0 : lw_At p s m meth c b 6 xs) (X : Amb p m c cL_law 4 s #[Value.ref b] lw_tbl RL D y (fun q : Nat => s.heap.size ≤ q)) (hz : Z0 M) (hy : Z1 M) (hkc : kc = 92) (hks : ks = 2832) : J p l e room_1 s m #[Value.ref b] below meth c kc ks (lw_Z below #[Value.ref b] s) D y ad (fun q : Nat => s.heap.size ≤ q) 4 M 1258 [(3, .int 0), (2, .ref (ad 79)), (0, .ref b), (1, .ref (ad 0))] [] := by
  subst hkc; subst hks
  obtain ⟨hx, hb, hr, hml, hown, hts, hX, hbl, hlocks, hgv⟩ := id C0
  have hbA : ¬ (fun q : Nat => s.heap.size ≤ q) b := Nat.not_le.mpr hbl
  refine j_aload_n X 3 rfl rfl dL_law_1258 ?_
  refine j_aload_n X 2 rfl rfl dL_law_1259 ?_
  refine j_iload_n X 0 rfl rfl dL_law_1260 ?_
  refine j_iconst X (v := 1) (by decide) dL_law_1261 ?_
  refine j_iadd X dL_law_1262 ?_
  refine j_eqi (v := 1) (by decide) ?_
  refine j_sld X hX hbl hbA (by unfold vp_in; decide) dL_law_1263 ?_
  refine j_eqi (v := xs 1) rfl ?_
  refine j_aload_n X 2 rfl rfl dL_law_1264 ?_
  refine j_iload_n X 0 rfl rfl dL_law_1265 ?_
  refine j_iconst X (v := 2) (by decide) dL_law_1266 ?_
  refine j_iadd X dL_law_1267 ?_
  refine j_eqi (v := 2) (by decide) ?_
  refine j_sld X hX hbl hbA (by unfold vp_in; decide) dL_law_1268 ?_
  refine j_eqi (v := xs 2) rfl ?_
  refine j_aload_n X 2 rfl rfl dL_law_1269 ?_
  refine j_iload_n X 0 rfl rfl dL_law_1270 ?_
  refine j_iconst X (v := 3) (by decide) dL_law_1271 ?_
  refine j_iadd X dL_law_1272 ?_
  refine j_eqi (v := 3) (by decide) ?_
  refine j_sld X hX hbl hbA (by unfold vp_in; decide) dL_law_1273 ?_
  refine j_eqi (v := xs 3) rfl ?_
  refine j_aload_n X 2 rfl rfl dL_law_1274 ?_
  refine j_iload_n X 0 rfl rfl dL_law_1275 ?_
  refine j_iconst X (v := 4) (by decide) dL_law_1276 ?_
  refine j_iadd X dL_law_1277 ?_
  refine j_eqi (v := 4) (by decide) ?_
  refine j_sld X hX hbl hbA (by unfold vp_in; decide) dL_law_1278 ?_
  refine j_eqi (v := xs 4) rfl ?_
  refine j_aload_n X 2 rfl rfl dL_law_1279 ?_
  refine j_iload_n X 0 rfl rfl dL_law_1280 ?_
  refine j_iconst X (v := 5) (by decide) dL_law_1281 ?_
  refine j_iadd X dL_law_1282 ?_
  refine j_eqi (v := 5) (by decide) ?_
  refine j_sld X hX hbl hbA (by unfold vp_in; decide) dL_law_1283 ?_
  refine j_eqi (v := xs 5) rfl ?_
  refine j_callVI X (nn := 5) (As := [.int (xs 1), .int (xs 2), .int (xs 3), .int (xs 4), .int (xs 5)]) (st := []) (ci := 7) (by decide) (wE_7 _ rfl) rfl aw_835 aw_836 (c0_X7_move l D y ad M hz (xs 1) (xs 2) (xs 3) (xs 4) (xs 5)) aw_834 aw_837 aw_2 (by decide +kernel) ⟨by decide, by decide⟩ rfl (Nat.le_of_ble_eq_true rfl) ⟨by decide, by decide⟩ dL_law_1284 ?_
  rintro r_ M_99 ⟨rfl, s_98⟩
  refine j_aload_n X 1 rfl rfl dL_law_1287 ?_
  refine j_aload_n X 2 rfl rfl dL_law_1288 ?_
  refine j_iload_n X 0 rfl rfl dL_law_1289 ?_
  refine j_iconst X (v := 1) (by decide) dL_law_1290 ?_
  refine j_iadd X dL_law_1291 ?_
  refine j_eqi (v := 1) (by decide) ?_
  refine j_sld X hX hbl hbA (by unfold vp_in; decide) dL_law_1292 ?_
  refine j_eqi (v := xs 1) rfl ?_
  refine j_aload_n X 2 rfl rfl dL_law_1293 ?_
  refine j_iload_n X 0 rfl rfl dL_law_1294 ?_
  refine j_iconst X (v := 2) (by decide) dL_law_1295 ?_
  refine j_iadd X dL_law_1296 ?_
  refine j_eqi (v := 2) (by decide) ?_
  refine j_sld X hX hbl hbA (by unfold vp_in; decide) dL_law_1297 ?_
  refine j_eqi (v := xs 2) rfl ?_
  refine j_aload_n X 2 rfl rfl dL_law_1298 ?_
  refine j_iload_n X 0 rfl rfl dL_law_1299 ?_
  refine j_iconst X (v := 3) (by decide) dL_law_1300 ?_
  refine j_iadd X dL_law_1301 ?_
  refine j_eqi (v := 3) (by decide) ?_
  refine j_sld X hX hbl hbA (by unfold vp_in; decide) dL_law_1302 ?_
  refine j_eqi (v := xs 3) rfl ?_
  refine j_aload_n X 2 rfl rfl dL_law_1303 ?_
  refine j_iload_n X 0 rfl rfl dL_law_1304 ?_
  refine j_iconst X (v := 4) (by decide) dL_law_1305 ?_
  refine j_iadd X dL_law_1306 ?_
  refine j_eqi (v := 4) (by decide) ?_
  refine j_sld X hX hbl hbA (by unfold vp_in; decide) dL_law_1307 ?_
  refine j_eqi (v := xs 4) rfl ?_
  refine j_aload_n X 2 rfl rfl dL_law_1308 ?_
  refine j_iload_n X 0 rfl rfl dL_law_1309 ?_
  refine j_iconst X (v := 5) (by decide) dL_law_1310 ?_
  refine j_iadd X dL_law_1311 ?_
  refine j_eqi (v := 5) (by decide) ?_
  refine j_sld X hX hbl hbA (by unfold vp_in; decide) dL_law_1312 ?_
  refine j_eqi (v := xs 5) rfl ?_
  refine j_callVI X (nn := 5) (As := [.int (xs 1), .int (xs 2), .int (xs 3), .int (xs 4), .int (xs 5)]) (st := [.int (sp_move (xs 1) (xs 2) (xs 3) (xs 4) (xs 5))]) (ci := 8) (by decide) (wE_8 _ rfl) rfl aw_843 aw_844 (c0_X8_move l D y ad M_99 (Z1_keep s_98 hy) (xs 1) (xs 2) (xs 3) (xs 4) (xs 5)) aw_842 aw_845 aw_5 (by decide +kernel) ⟨by decide, by decide⟩ rfl (Nat.le_of_ble_eq_true rfl) ⟨by decide, by decide⟩ dL_law_1313 ?_
  rintro r_ M1_ rfl
  refine j_icmp_eq X 1475 (by decide) dL_law_1316 (fun _ => ?_) (fun c_100 => False.elim (c_100 rfl))
  refine j_lv (lv1 := [(3, .int 0), (2, .ref (ad 79)), (0, .ref b), (1, .ref (ad 0))]) [0, 1, 2, 3] rfl ?_
  exact law_end C0 X rfl rfl
set_option maxRecDepth 100000 in
set_option maxHeartbeats 4000000 in
theorem law_case_33 {p : Program} {l : Launch} {e : Env} {s : State} {m : MethodId} {below : List Frame} {meth : Method} {c : Code} {D : va_G} {y : wY} {ad : Nat → Nat} {M : Mem} {b kc ks : Nat} {xs : Nat → Int32} (C0 : lw_At p s m meth c b 6 xs) (X : Amb p m c cL_law 4 s #[Value.ref b] lw_tbl RL D y (fun q : Nat => s.heap.size ≤ q)) (hz : Z0 M) (hy : Z1 M) (hkc : kc = 92) (hks : ks = 2832) : J p l e room_1 s m #[Value.ref b] below meth c kc ks (lw_Z below #[Value.ref b] s) D y ad (fun q : Nat => s.heap.size ≤ q) 4 M 1321 [(3, .int 0), (2, .ref (ad 79)), (0, .ref b), (1, .ref (ad 0))] [] := by
  subst hkc; subst hks
  obtain ⟨hx, hb, hr, hml, hown, hts, hX, hbl, hlocks, hgv⟩ := id C0
  have hbA : ¬ (fun q : Nat => s.heap.size ≤ q) b := Nat.not_le.mpr hbl
  refine j_aload_n X 3 rfl rfl dL_law_1321 ?_
  refine j_aload_n X 2 rfl rfl dL_law_1322 ?_
  refine j_iload_n X 0 rfl rfl dL_law_1323 ?_
  refine j_iconst X (v := 1) (by decide) dL_law_1324 ?_
  refine j_iadd X dL_law_1325 ?_
  refine j_eqi (v := 1) (by decide) ?_
  refine j_sld X hX hbl hbA (by unfold vp_in; decide) dL_law_1326 ?_
  refine j_eqi (v := xs 1) rfl ?_
  refine j_callVI X (nn := 1) (As := [.int (xs 1)]) (st := []) (ci := 7) (by decide) (wE_7 _ rfl) rfl aw_847 aw_848 (c0_X7_edges l D y ad M hz (xs 1)) aw_846 aw_849 aw_2 (by decide +kernel) ⟨by decide, by decide⟩ rfl (Nat.le_of_ble_eq_true rfl) ⟨by decide, by decide⟩ dL_law_1327 ?_
  rintro r_ M_102 ⟨rfl, s_101⟩
  refine j_aload_n X 1 rfl rfl dL_law_1330 ?_
  refine j_aload_n X 2 rfl rfl dL_law_1331 ?_
  refine j_iload_n X 0 rfl rfl dL_law_1332 ?_
  refine j_iconst X (v := 1) (by decide) dL_law_1333 ?_
  refine j_iadd X dL_law_1334 ?_
  refine j_eqi (v := 1) (by decide) ?_
  refine j_sld X hX hbl hbA (by unfold vp_in; decide) dL_law_1335 ?_
  refine j_eqi (v := xs 1) rfl ?_
  refine j_callVI X (nn := 1) (As := [.int (xs 1)]) (st := [.int (sp_edges (xs 1))]) (ci := 8) (by decide) (wE_8 _ rfl) rfl aw_852 aw_853 (c0_X8_edges l D y ad M_102 (Z1_keep s_101 hy) (xs 1)) aw_851 aw_854 aw_5 (by decide +kernel) ⟨by decide, by decide⟩ rfl (Nat.le_of_ble_eq_true rfl) ⟨by decide, by decide⟩ dL_law_1336 ?_
  rintro r_ M1_ rfl
  refine j_icmp_eq X 1475 (by decide) dL_law_1339 (fun _ => ?_) (fun c_103 => False.elim (c_103 rfl))
  refine j_lv (lv1 := [(3, .int 0), (2, .ref (ad 79)), (0, .ref b), (1, .ref (ad 0))]) [0, 1, 2, 3] rfl ?_
  exact law_end C0 X rfl rfl
set_option maxRecDepth 100000 in
set_option maxHeartbeats 4000000 in
theorem law_case_34 {p : Program} {l : Launch} {e : Env} {s : State} {m : MethodId} {below : List Frame} {meth : Method} {c : Code} {D : va_G} {y : wY} {ad : Nat → Nat} {M : Mem} {b kc ks : Nat} {xs : Nat → Int32} (C0 : lw_At p s m meth c b 6 xs) (X : Amb p m c cL_law 4 s #[Value.ref b] lw_tbl RL D y (fun q : Nat => s.heap.size ≤ q)) (hz : Z0 M) (hy : Z1 M) (hkc : kc = 92) (hks : ks = 2832) : J p l e room_1 s m #[Value.ref b] below meth c kc ks (lw_Z below #[Value.ref b] s) D y ad (fun q : Nat => s.heap.size ≤ q) 4 M 1344 [(3, .int 0), (2, .ref (ad 79)), (0, .ref b), (1, .ref (ad 0))] [] := by
  subst hkc; subst hks
  obtain ⟨hx, hb, hr, hml, hown, hts, hX, hbl, hlocks, hgv⟩ := id C0
  have hbA : ¬ (fun q : Nat => s.heap.size ≤ q) b := Nat.not_le.mpr hbl
  refine j_aload_n X 3 rfl rfl dL_law_1344 ?_
  refine j_aload_n X 2 rfl rfl dL_law_1345 ?_
  refine j_iload_n X 0 rfl rfl dL_law_1346 ?_
  refine j_iconst X (v := 1) (by decide) dL_law_1347 ?_
  refine j_iadd X dL_law_1348 ?_
  refine j_eqi (v := 1) (by decide) ?_
  refine j_sld X hX hbl hbA (by unfold vp_in; decide) dL_law_1349 ?_
  refine j_eqi (v := xs 1) rfl ?_
  refine j_callVI X (nn := 1) (As := [.int (xs 1)]) (st := []) (ci := 7) (by decide) (wE_7 _ rfl) rfl aw_856 aw_857 (c0_X7_judge l D y ad M hz (xs 1)) aw_855 aw_858 aw_2 (by decide +kernel) ⟨by decide, by decide⟩ rfl (Nat.le_of_ble_eq_true rfl) ⟨by decide, by decide⟩ dL_law_1350 ?_
  rintro r_ M_105 ⟨rfl, s_104⟩
  refine j_aload_n X 1 rfl rfl dL_law_1353 ?_
  refine j_aload_n X 2 rfl rfl dL_law_1354 ?_
  refine j_iload_n X 0 rfl rfl dL_law_1355 ?_
  refine j_iconst X (v := 1) (by decide) dL_law_1356 ?_
  refine j_iadd X dL_law_1357 ?_
  refine j_eqi (v := 1) (by decide) ?_
  refine j_sld X hX hbl hbA (by unfold vp_in; decide) dL_law_1358 ?_
  refine j_eqi (v := xs 1) rfl ?_
  refine j_callVI X (nn := 1) (As := [.int (xs 1)]) (st := [.int (sp_judge (xs 1))]) (ci := 8) (by decide) (wE_8 _ rfl) rfl aw_860 aw_861 (c0_X8_judge l D y ad M_105 (Z1_keep s_104 hy) (xs 1)) aw_859 aw_862 aw_5 (by decide +kernel) ⟨by decide, by decide⟩ rfl (Nat.le_of_ble_eq_true rfl) ⟨by decide, by decide⟩ dL_law_1359 ?_
  rintro r_ M1_ rfl
  refine j_icmp_eq X 1475 (by decide) dL_law_1362 (fun _ => ?_) (fun c_106 => False.elim (c_106 rfl))
  refine j_lv (lv1 := [(3, .int 0), (2, .ref (ad 79)), (0, .ref b), (1, .ref (ad 0))]) [0, 1, 2, 3] rfl ?_
  exact law_end C0 X rfl rfl
set_option maxRecDepth 100000 in
set_option maxHeartbeats 4000000 in
theorem law_case_35 {p : Program} {l : Launch} {e : Env} {s : State} {m : MethodId} {below : List Frame} {meth : Method} {c : Code} {D : va_G} {y : wY} {ad : Nat → Nat} {M : Mem} {b kc ks : Nat} {xs : Nat → Int32} (C0 : lw_At p s m meth c b 6 xs) (X : Amb p m c cL_law 4 s #[Value.ref b] lw_tbl RL D y (fun q : Nat => s.heap.size ≤ q)) (hz : Z0 M) (hy : Z1 M) (hkc : kc = 92) (hks : ks = 2832) : J p l e room_1 s m #[Value.ref b] below meth c kc ks (lw_Z below #[Value.ref b] s) D y ad (fun q : Nat => s.heap.size ≤ q) 4 M 1367 [(3, .int 0), (2, .ref (ad 79)), (0, .ref b), (1, .ref (ad 0))] [] := by
  subst hkc; subst hks
  obtain ⟨hx, hb, hr, hml, hown, hts, hX, hbl, hlocks, hgv⟩ := id C0
  have hbA : ¬ (fun q : Nat => s.heap.size ≤ q) b := Nat.not_le.mpr hbl
  refine j_aload_n X 3 rfl rfl dL_law_1367 ?_
  refine j_callVI X (nn := 0) (As := []) (st := []) (ci := 7) (by decide) (wE_7 _ rfl) rfl aw_864 aw_865 (c0_X7_image l D y ad M hz) aw_863 aw_866 aw_2 (by decide +kernel) ⟨by decide, by decide⟩ rfl (Nat.le_of_ble_eq_true rfl) ⟨by decide, by decide⟩ dL_law_1368 ?_
  rintro r_ M_108 ⟨rfl, s_107⟩
  refine j_aload_n X 1 rfl rfl dL_law_1371 ?_
  refine j_callVI X (nn := 0) (As := []) (st := [.int sp_image]) (ci := 8) (by decide) (wE_8 _ rfl) rfl aw_875 aw_876 (c0_X8_image l D y ad M_108 (Z1_keep s_107 hy)) aw_874 aw_877 aw_5 (by decide +kernel) ⟨by decide, by decide⟩ rfl (Nat.le_of_ble_eq_true rfl) ⟨by decide, by decide⟩ dL_law_1372 ?_
  rintro r_ M1_ rfl
  refine j_icmp_eq X 1475 (by decide) dL_law_1375 (fun _ => ?_) (fun c_109 => False.elim (c_109 rfl))
  refine j_lv (lv1 := [(3, .int 0), (2, .ref (ad 79)), (0, .ref b), (1, .ref (ad 0))]) [0, 1, 2, 3] rfl ?_
  exact law_end C0 X rfl rfl
set_option maxRecDepth 100000 in
set_option maxHeartbeats 4000000 in
theorem law_case_36 {p : Program} {l : Launch} {e : Env} {s : State} {m : MethodId} {below : List Frame} {meth : Method} {c : Code} {D : va_G} {y : wY} {ad : Nat → Nat} {M : Mem} {b kc ks : Nat} {xs : Nat → Int32} (C0 : lw_At p s m meth c b 6 xs) (X : Amb p m c cL_law 4 s #[Value.ref b] lw_tbl RL D y (fun q : Nat => s.heap.size ≤ q)) (hz : Z0 M) (hy : Z1 M) (hkc : kc = 92) (hks : ks = 2832) : J p l e room_1 s m #[Value.ref b] below meth c kc ks (lw_Z below #[Value.ref b] s) D y ad (fun q : Nat => s.heap.size ≤ q) 4 M 1380 [(3, .int 0), (2, .ref (ad 79)), (0, .ref b), (1, .ref (ad 0))] [] := by
  subst hkc; subst hks
  obtain ⟨hx, hb, hr, hml, hown, hts, hX, hbl, hlocks, hgv⟩ := id C0
  have hbA : ¬ (fun q : Nat => s.heap.size ≤ q) b := Nat.not_le.mpr hbl
  refine j_aload_n X 3 rfl rfl dL_law_1380 ?_
  refine j_callVI X (nn := 0) (As := []) (st := []) (ci := 7) (by decide) (wE_7 _ rfl) rfl aw_881 aw_882 (c0_X7_restore l D y ad M hz) aw_880 aw_883 aw_2 (by decide +kernel) ⟨by decide, by decide⟩ rfl (Nat.le_of_ble_eq_true rfl) ⟨by decide, by decide⟩ dL_law_1381 ?_
  rintro r_ M_111 ⟨rfl, s_110⟩
  refine j_aload_n X 1 rfl rfl dL_law_1384 ?_
  refine j_callVI X (nn := 0) (As := []) (st := [.int sp_restore]) (ci := 8) (by decide) (wE_8 _ rfl) rfl aw_885 aw_886 (c0_X8_restore l D y ad M_111 (Z1_keep s_110 hy)) aw_884 aw_887 aw_5 (by decide +kernel) ⟨by decide, by decide⟩ rfl (Nat.le_of_ble_eq_true rfl) ⟨by decide, by decide⟩ dL_law_1385 ?_
  rintro r_ M1_ rfl
  refine j_icmp_eq X 1475 (by decide) dL_law_1388 (fun _ => ?_) (fun c_112 => False.elim (c_112 rfl))
  refine j_lv (lv1 := [(3, .int 0), (2, .ref (ad 79)), (0, .ref b), (1, .ref (ad 0))]) [0, 1, 2, 3] rfl ?_
  exact law_end C0 X rfl rfl
set_option maxRecDepth 100000 in
set_option maxHeartbeats 4000000 in
theorem law_case_37 {p : Program} {l : Launch} {e : Env} {s : State} {m : MethodId} {below : List Frame} {meth : Method} {c : Code} {D : va_G} {y : wY} {ad : Nat → Nat} {M : Mem} {b kc ks : Nat} {xs : Nat → Int32} (C0 : lw_At p s m meth c b 6 xs) (X : Amb p m c cL_law 4 s #[Value.ref b] lw_tbl RL D y (fun q : Nat => s.heap.size ≤ q)) (hz : Z0 M) (hy : Z1 M) (hkc : kc = 92) (hks : ks = 2832) : J p l e room_1 s m #[Value.ref b] below meth c kc ks (lw_Z below #[Value.ref b] s) D y ad (fun q : Nat => s.heap.size ≤ q) 4 M 1393 [(3, .int 0), (2, .ref (ad 79)), (0, .ref b), (1, .ref (ad 0))] [] := by
  subst hkc; subst hks
  obtain ⟨hx, hb, hr, hml, hown, hts, hX, hbl, hlocks, hgv⟩ := id C0
  have hbA : ¬ (fun q : Nat => s.heap.size ≤ q) b := Nat.not_le.mpr hbl
  refine j_aload_n X 3 rfl rfl dL_law_1393 ?_
  refine j_aload_n X 2 rfl rfl dL_law_1394 ?_
  refine j_iload_n X 0 rfl rfl dL_law_1395 ?_
  refine j_iconst X (v := 1) (by decide) dL_law_1396 ?_
  refine j_iadd X dL_law_1397 ?_
  refine j_eqi (v := 1) (by decide) ?_
  refine j_sld X hX hbl hbA (by unfold vp_in; decide) dL_law_1398 ?_
  refine j_eqi (v := xs 1) rfl ?_
  refine j_callVI X (nn := 1) (As := [.int (xs 1)]) (st := []) (ci := 7) (by decide) (wE_7 _ rfl) rfl aw_889 aw_890 (c0_X7_tell l D y ad M hz (xs 1)) aw_888 aw_891 aw_2 (by decide +kernel) ⟨by decide, by decide⟩ rfl (Nat.le_of_ble_eq_true rfl) ⟨by decide, by decide⟩ dL_law_1399 ?_
  rintro r_ M_114 ⟨rfl, s_113⟩
  refine j_aload_n X 1 rfl rfl dL_law_1402 ?_
  refine j_aload_n X 2 rfl rfl dL_law_1403 ?_
  refine j_iload_n X 0 rfl rfl dL_law_1404 ?_
  refine j_iconst X (v := 1) (by decide) dL_law_1405 ?_
  refine j_iadd X dL_law_1406 ?_
  refine j_eqi (v := 1) (by decide) ?_
  refine j_sld X hX hbl hbA (by unfold vp_in; decide) dL_law_1407 ?_
  refine j_eqi (v := xs 1) rfl ?_
  refine j_callVI X (nn := 1) (As := [.int (xs 1)]) (st := [.int (sp_tell (xs 1))]) (ci := 8) (by decide) (wE_8 _ rfl) rfl aw_893 aw_894 (c0_X8_tell l D y ad M_114 (Z1_keep s_113 hy) (xs 1)) aw_892 aw_895 aw_5 (by decide +kernel) ⟨by decide, by decide⟩ rfl (Nat.le_of_ble_eq_true rfl) ⟨by decide, by decide⟩ dL_law_1408 ?_
  rintro r_ M1_ rfl
  refine j_icmp_eq X 1475 (by decide) dL_law_1411 (fun _ => ?_) (fun c_115 => False.elim (c_115 rfl))
  refine j_lv (lv1 := [(3, .int 0), (2, .ref (ad 79)), (0, .ref b), (1, .ref (ad 0))]) [0, 1, 2, 3] rfl ?_
  exact law_end C0 X rfl rfl
set_option maxRecDepth 100000 in
set_option maxHeartbeats 4000000 in
theorem law_case_38 {p : Program} {l : Launch} {e : Env} {s : State} {m : MethodId} {below : List Frame} {meth : Method} {c : Code} {D : va_G} {y : wY} {ad : Nat → Nat} {M : Mem} {b kc ks : Nat} {xs : Nat → Int32} (C0 : lw_At p s m meth c b 6 xs) (X : Amb p m c cL_law 4 s #[Value.ref b] lw_tbl RL D y (fun q : Nat => s.heap.size ≤ q)) (hz : Z0 M) (hy : Z1 M) (hkc : kc = 92) (hks : ks = 2832) : J p l e room_1 s m #[Value.ref b] below meth c kc ks (lw_Z below #[Value.ref b] s) D y ad (fun q : Nat => s.heap.size ≤ q) 4 M 1416 [(3, .int 0), (2, .ref (ad 79)), (0, .ref b), (1, .ref (ad 0))] [] := by
  subst hkc; subst hks
  obtain ⟨hx, hb, hr, hml, hown, hts, hX, hbl, hlocks, hgv⟩ := id C0
  have hbA : ¬ (fun q : Nat => s.heap.size ≤ q) b := Nat.not_le.mpr hbl
  refine j_aload_n X 3 rfl rfl dL_law_1416 ?_
  refine j_callVI X (nn := 0) (As := []) (st := []) (ci := 7) (by decide) (wE_7 _ rfl) rfl aw_897 aw_898 (c0_X7_check l D y ad M hz) aw_896 aw_899 aw_2 (by decide +kernel) ⟨by decide, by decide⟩ rfl (Nat.le_of_ble_eq_true rfl) ⟨by decide, by decide⟩ dL_law_1417 ?_
  rintro r_ M_117 ⟨rfl, s_116⟩
  refine j_aload_n X 1 rfl rfl dL_law_1420 ?_
  refine j_callVI X (nn := 0) (As := []) (st := [.int sp_check]) (ci := 8) (by decide) (wE_8 _ rfl) rfl aw_901 aw_902 (c0_X8_check l D y ad M_117 (Z1_keep s_116 hy)) aw_900 aw_903 aw_5 (by decide +kernel) ⟨by decide, by decide⟩ rfl (Nat.le_of_ble_eq_true rfl) ⟨by decide, by decide⟩ dL_law_1421 ?_
  rintro r_ M1_ rfl
  refine j_icmp_eq X 1475 (by decide) dL_law_1424 (fun _ => ?_) (fun c_118 => False.elim (c_118 rfl))
  refine j_lv (lv1 := [(3, .int 0), (2, .ref (ad 79)), (0, .ref b), (1, .ref (ad 0))]) [0, 1, 2, 3] rfl ?_
  exact law_end C0 X rfl rfl
set_option maxRecDepth 100000 in
set_option maxHeartbeats 4000000 in
theorem law_case_39 {p : Program} {l : Launch} {e : Env} {s : State} {m : MethodId} {below : List Frame} {meth : Method} {c : Code} {D : va_G} {y : wY} {ad : Nat → Nat} {M : Mem} {b kc ks : Nat} {xs : Nat → Int32} (C0 : lw_At p s m meth c b 6 xs) (X : Amb p m c cL_law 4 s #[Value.ref b] lw_tbl RL D y (fun q : Nat => s.heap.size ≤ q)) (hz : Z0 M) (hy : Z1 M) (hkc : kc = 92) (hks : ks = 2832) : J p l e room_1 s m #[Value.ref b] below meth c kc ks (lw_Z below #[Value.ref b] s) D y ad (fun q : Nat => s.heap.size ≤ q) 4 M 1429 [(3, .int 0), (2, .ref (ad 79)), (0, .ref b), (1, .ref (ad 0))] [] := by
  subst hkc; subst hks
  obtain ⟨hx, hb, hr, hml, hown, hts, hX, hbl, hlocks, hgv⟩ := id C0
  have hbA : ¬ (fun q : Nat => s.heap.size ≤ q) b := Nat.not_le.mpr hbl
  refine j_aload_n X 3 rfl rfl dL_law_1429 ?_
  refine j_aload_n X 2 rfl rfl dL_law_1430 ?_
  refine j_iload_n X 0 rfl rfl dL_law_1431 ?_
  refine j_iconst X (v := 1) (by decide) dL_law_1432 ?_
  refine j_iadd X dL_law_1433 ?_
  refine j_eqi (v := 1) (by decide) ?_
  refine j_sld X hX hbl hbA (by unfold vp_in; decide) dL_law_1434 ?_
  refine j_eqi (v := xs 1) rfl ?_
  refine j_callVI X (nn := 1) (As := [.int (xs 1)]) (st := []) (ci := 7) (by decide) (wE_7 _ rfl) rfl aw_905 aw_906 (c0_X7_count l D y ad M hz (xs 1)) aw_904 aw_907 aw_2 (by decide +kernel) ⟨by decide, by decide⟩ rfl (Nat.le_of_ble_eq_true rfl) ⟨by decide, by decide⟩ dL_law_1435 ?_
  rintro r_ M_120 ⟨rfl, s_119⟩
  refine j_aload_n X 1 rfl rfl dL_law_1438 ?_
  refine j_aload_n X 2 rfl rfl dL_law_1439 ?_
  refine j_iload_n X 0 rfl rfl dL_law_1440 ?_
  refine j_iconst X (v := 1) (by decide) dL_law_1441 ?_
  refine j_iadd X dL_law_1442 ?_
  refine j_eqi (v := 1) (by decide) ?_
  refine j_sld X hX hbl hbA (by unfold vp_in; decide) dL_law_1443 ?_
  refine j_eqi (v := xs 1) rfl ?_
  refine j_callVI X (nn := 1) (As := [.int (xs 1)]) (st := [.int (sp_count (xs 1))]) (ci := 8) (by decide) (wE_8 _ rfl) rfl aw_912 aw_913 (c0_X8_count l D y ad M_120 (Z1_keep s_119 hy) (xs 1)) aw_911 aw_914 aw_5 (by decide +kernel) ⟨by decide, by decide⟩ rfl (Nat.le_of_ble_eq_true rfl) ⟨by decide, by decide⟩ dL_law_1444 ?_
  rintro r_ M1_ rfl
  refine j_icmp_eq X 1475 (by decide) dL_law_1447 (fun _ => ?_) (fun c_121 => False.elim (c_121 rfl))
  refine j_lv (lv1 := [(3, .int 0), (2, .ref (ad 79)), (0, .ref b), (1, .ref (ad 0))]) [0, 1, 2, 3] rfl ?_
  exact law_end C0 X rfl rfl
set_option maxRecDepth 100000 in
set_option maxHeartbeats 4000000 in
theorem law_case_40 {p : Program} {l : Launch} {e : Env} {s : State} {m : MethodId} {below : List Frame} {meth : Method} {c : Code} {D : va_G} {y : wY} {ad : Nat → Nat} {M : Mem} {b kc ks : Nat} {xs : Nat → Int32} (C0 : lw_At p s m meth c b 6 xs) (X : Amb p m c cL_law 4 s #[Value.ref b] lw_tbl RL D y (fun q : Nat => s.heap.size ≤ q)) (hz : Z0 M) (hy : Z1 M) (hkc : kc = 92) (hks : ks = 2832) : J p l e room_1 s m #[Value.ref b] below meth c kc ks (lw_Z below #[Value.ref b] s) D y ad (fun q : Nat => s.heap.size ≤ q) 4 M 1452 [(3, .int 0), (2, .ref (ad 79)), (0, .ref b), (1, .ref (ad 0))] [] := by
  subst hkc; subst hks
  obtain ⟨hx, hb, hr, hml, hown, hts, hX, hbl, hlocks, hgv⟩ := id C0
  have hbA : ¬ (fun q : Nat => s.heap.size ≤ q) b := Nat.not_le.mpr hbl
  refine j_aload_n X 3 rfl rfl dL_law_1452 ?_
  refine j_aload_n X 2 rfl rfl dL_law_1453 ?_
  refine j_iload_n X 0 rfl rfl dL_law_1454 ?_
  refine j_iconst X (v := 1) (by decide) dL_law_1455 ?_
  refine j_iadd X dL_law_1456 ?_
  refine j_eqi (v := 1) (by decide) ?_
  refine j_sld X hX hbl hbA (by unfold vp_in; decide) dL_law_1457 ?_
  refine j_eqi (v := xs 1) rfl ?_
  refine j_callVI X (nn := 1) (As := [.int (xs 1)]) (st := []) (ci := 7) (by decide) (wE_7 _ rfl) rfl aw_920 aw_921 (c0_X7_told l D y ad M hz (xs 1)) aw_919 aw_922 aw_2 (by decide +kernel) ⟨by decide, by decide⟩ rfl (Nat.le_of_ble_eq_true rfl) ⟨by decide, by decide⟩ dL_law_1458 ?_
  rintro r_ M_123 ⟨rfl, s_122⟩
  refine j_aload_n X 1 rfl rfl dL_law_1461 ?_
  refine j_aload_n X 2 rfl rfl dL_law_1462 ?_
  refine j_iload_n X 0 rfl rfl dL_law_1463 ?_
  refine j_iconst X (v := 1) (by decide) dL_law_1464 ?_
  refine j_iadd X dL_law_1465 ?_
  refine j_eqi (v := 1) (by decide) ?_
  refine j_sld X hX hbl hbA (by unfold vp_in; decide) dL_law_1466 ?_
  refine j_eqi (v := xs 1) rfl ?_
  refine j_callVI X (nn := 1) (As := [.int (xs 1)]) (st := [.int (sp_told (xs 1))]) (ci := 8) (by decide) (wE_8 _ rfl) rfl aw_924 aw_925 (c0_X8_told l D y ad M_123 (Z1_keep s_122 hy) (xs 1)) aw_923 aw_926 aw_5 (by decide +kernel) ⟨by decide, by decide⟩ rfl (Nat.le_of_ble_eq_true rfl) ⟨by decide, by decide⟩ dL_law_1467 ?_
  rintro r_ M1_ rfl
  refine j_icmp_eq X 1475 (by decide) dL_law_1470 (fun _ => ?_) (fun c_124 => False.elim (c_124 rfl))
  refine j_lv (lv1 := [(3, .int 0), (2, .ref (ad 79)), (0, .ref b), (1, .ref (ad 0))]) [0, 1, 2, 3] rfl ?_
  exact law_end C0 X rfl rfl
set_option maxRecDepth 100000 in
set_option maxHeartbeats 4000000 in
theorem law_head {p : Program} {l : Launch} {e : Env} {s : State} {m : MethodId} {below : List Frame} {meth : Method} {c : Code} {D : va_G} {y : wY} {ad : Nat → Nat} {M : Mem} {b L kc ks : Nat} {xs : Nat → Int32} (hL : L ≤ 6) (C0 : lw_At p s m meth c b L xs) (X : Amb p m c cL_law 4 s #[Value.ref b] lw_tbl RL D y (fun q : Nat => s.heap.size ≤ q)) (hz : Z0 M) (hy : Z1 M) (hkc : kc = 92) (hks : ks = 2832) : J p l e room_1 s m #[Value.ref b] below meth c kc ks (lw_Z below #[Value.ref b] s) D y ad (fun q : Nat => s.heap.size ≤ q) 4 M 18 [(3, .int 0), (2, .ref (ad 79)), (0, .ref b), (1, .ref (ad 0))] [] := by
  subst hkc; subst hks
  obtain ⟨hx, hb, hr, hml, hown, hts, hX, hbl, hlocks, hgv⟩ := id C0
  have hbA : ¬ (fun q : Nat => s.heap.size ≤ q) b := Nat.not_le.mpr hbl
  rcases (by omega : L = 0 ∨ L = 1 ∨ L = 2 ∨ L = 3 ∨ L = 4 ∨ L = 5 ∨ L = 6) with rfl | rfl | rfl | rfl | rfl | rfl | rfl
  · refine j_iload_n X 0 rfl rfl dL_law_18 ?_
    refine j_aload_n X 2 rfl rfl dL_law_19 ?_
    refine j_slen X hX hbl hbA dL_law_20 ?_
    refine j_eqi (v := 0) (by decide) ?_
    refine j_bipush X (v := 6) (by decide) dL_law_21 ?_
    refine j_isub X dL_law_23 ?_
    refine j_eqi (v := (-6)) (by decide) ?_
    refine j_icmp_gt X 1481 (by decide) dL_law_24 (fun c_125 => ?_) (fun c_125 => False.elim (by revert c_125; decide))
    refine j_iconst X (v := 1) (by decide) dL_law_1481 ?_
    exact j_lawret hx hb hr hlocks (by decide) (by decide) dL_law_1482
  · refine j_iload_n X 0 rfl rfl dL_law_18 ?_
    refine j_aload_n X 2 rfl rfl dL_law_19 ?_
    refine j_slen X hX hbl hbA dL_law_20 ?_
    refine j_eqi (v := 1) (by decide) ?_
    refine j_bipush X (v := 6) (by decide) dL_law_21 ?_
    refine j_isub X dL_law_23 ?_
    refine j_eqi (v := (-5)) (by decide) ?_
    refine j_icmp_gt X 1481 (by decide) dL_law_24 (fun c_126 => ?_) (fun c_126 => False.elim (by revert c_126; decide))
    refine j_iconst X (v := 1) (by decide) dL_law_1481 ?_
    exact j_lawret hx hb hr hlocks (by decide) (by decide) dL_law_1482
  · refine j_iload_n X 0 rfl rfl dL_law_18 ?_
    refine j_aload_n X 2 rfl rfl dL_law_19 ?_
    refine j_slen X hX hbl hbA dL_law_20 ?_
    refine j_eqi (v := 2) (by decide) ?_
    refine j_bipush X (v := 6) (by decide) dL_law_21 ?_
    refine j_isub X dL_law_23 ?_
    refine j_eqi (v := (-4)) (by decide) ?_
    refine j_icmp_gt X 1481 (by decide) dL_law_24 (fun c_127 => ?_) (fun c_127 => False.elim (by revert c_127; decide))
    refine j_iconst X (v := 1) (by decide) dL_law_1481 ?_
    exact j_lawret hx hb hr hlocks (by decide) (by decide) dL_law_1482
  · refine j_iload_n X 0 rfl rfl dL_law_18 ?_
    refine j_aload_n X 2 rfl rfl dL_law_19 ?_
    refine j_slen X hX hbl hbA dL_law_20 ?_
    refine j_eqi (v := 3) (by decide) ?_
    refine j_bipush X (v := 6) (by decide) dL_law_21 ?_
    refine j_isub X dL_law_23 ?_
    refine j_eqi (v := (-3)) (by decide) ?_
    refine j_icmp_gt X 1481 (by decide) dL_law_24 (fun c_128 => ?_) (fun c_128 => False.elim (by revert c_128; decide))
    refine j_iconst X (v := 1) (by decide) dL_law_1481 ?_
    exact j_lawret hx hb hr hlocks (by decide) (by decide) dL_law_1482
  · refine j_iload_n X 0 rfl rfl dL_law_18 ?_
    refine j_aload_n X 2 rfl rfl dL_law_19 ?_
    refine j_slen X hX hbl hbA dL_law_20 ?_
    refine j_eqi (v := 4) (by decide) ?_
    refine j_bipush X (v := 6) (by decide) dL_law_21 ?_
    refine j_isub X dL_law_23 ?_
    refine j_eqi (v := (-2)) (by decide) ?_
    refine j_icmp_gt X 1481 (by decide) dL_law_24 (fun c_129 => ?_) (fun c_129 => False.elim (by revert c_129; decide))
    refine j_iconst X (v := 1) (by decide) dL_law_1481 ?_
    exact j_lawret hx hb hr hlocks (by decide) (by decide) dL_law_1482
  · refine j_iload_n X 0 rfl rfl dL_law_18 ?_
    refine j_aload_n X 2 rfl rfl dL_law_19 ?_
    refine j_slen X hX hbl hbA dL_law_20 ?_
    refine j_eqi (v := 5) (by decide) ?_
    refine j_bipush X (v := 6) (by decide) dL_law_21 ?_
    refine j_isub X dL_law_23 ?_
    refine j_eqi (v := (-1)) (by decide) ?_
    refine j_icmp_gt X 1481 (by decide) dL_law_24 (fun c_130 => ?_) (fun c_130 => False.elim (by revert c_130; decide))
    refine j_iconst X (v := 1) (by decide) dL_law_1481 ?_
    exact j_lawret hx hb hr hlocks (by decide) (by decide) dL_law_1482
  · refine j_iload_n X 0 rfl rfl dL_law_18 ?_
    refine j_aload_n X 2 rfl rfl dL_law_19 ?_
    refine j_slen X hX hbl hbA dL_law_20 ?_
    refine j_eqi (v := 6) (by decide) ?_
    refine j_bipush X (v := 6) (by decide) dL_law_21 ?_
    refine j_isub X dL_law_23 ?_
    refine j_eqi (v := 0) (by decide) ?_
    refine j_icmp_gt X 1481 (by decide) dL_law_24 (fun c_131 => False.elim (by revert c_131; decide)) (fun c_131 => ?_)
    refine j_aload_n X 2 rfl rfl dL_law_27 ?_
    refine j_iload_n X 0 rfl rfl dL_law_28 ?_
    refine j_sld X hX hbl hbA (by unfold vp_in; decide) dL_law_29 ?_
    refine j_eqi (v := xs 0) rfl ?_
    refine j_bipush X (v := 63) (by decide) dL_law_30 ?_
    refine j_iand X dL_law_32 ?_
    by_cases w_132 : ((xs 0) &&& 63) = 0
    · refine j_tsw_in X 212 0 w_132 (by decide) (by decide) (off := 179) rfl (by decide) dL_law_33 ?_
      refine j_lv (lv1 := [(3, .int 0), (2, .ref (ad 79)), (0, .ref b), (1, .ref (ad 0))]) [0, 1, 2, 3] rfl ?_
      exact law_case_0 C0 X hz hy rfl rfl
    by_cases w_133 : ((xs 0) &&& 63) = 1
    · refine j_tsw_in X 245 1 w_133 (by decide) (by decide) (off := 212) rfl (by decide) dL_law_33 ?_
      refine j_lv (lv1 := [(3, .int 0), (2, .ref (ad 79)), (0, .ref b), (1, .ref (ad 0))]) [0, 1, 2, 3] rfl ?_
      exact law_case_1 C0 X hz hy rfl rfl
    by_cases w_134 : ((xs 0) &&& 63) = 2
    · refine j_tsw_in X 268 2 w_134 (by decide) (by decide) (off := 235) rfl (by decide) dL_law_33 ?_
      refine j_lv (lv1 := [(3, .int 0), (2, .ref (ad 79)), (0, .ref b), (1, .ref (ad 0))]) [0, 1, 2, 3] rfl ?_
      exact law_case_2 C0 X hz hy rfl rfl
    by_cases w_135 : ((xs 0) &&& 63) = 3
    · refine j_tsw_in X 321 3 w_135 (by decide) (by decide) (off := 288) rfl (by decide) dL_law_33 ?_
      refine j_lv (lv1 := [(3, .int 0), (2, .ref (ad 79)), (0, .ref b), (1, .ref (ad 0))]) [0, 1, 2, 3] rfl ?_
      exact law_case_3 C0 X hz hy rfl rfl
    by_cases w_136 : ((xs 0) &&& 63) = 4
    · refine j_tsw_in X 354 4 w_136 (by decide) (by decide) (off := 321) rfl (by decide) dL_law_33 ?_
      refine j_lv (lv1 := [(3, .int 0), (2, .ref (ad 79)), (0, .ref b), (1, .ref (ad 0))]) [0, 1, 2, 3] rfl ?_
      exact law_case_4 C0 X hz hy rfl rfl
    by_cases w_137 : ((xs 0) &&& 63) = 5
    · refine j_tsw_in X 397 5 w_137 (by decide) (by decide) (off := 364) rfl (by decide) dL_law_33 ?_
      refine j_lv (lv1 := [(3, .int 0), (2, .ref (ad 79)), (0, .ref b), (1, .ref (ad 0))]) [0, 1, 2, 3] rfl ?_
      exact law_case_5 C0 X hz hy rfl rfl
    by_cases w_138 : ((xs 0) &&& 63) = 6
    · refine j_tsw_in X 430 6 w_138 (by decide) (by decide) (off := 397) rfl (by decide) dL_law_33 ?_
      refine j_lv (lv1 := [(3, .int 0), (2, .ref (ad 79)), (0, .ref b), (1, .ref (ad 0))]) [0, 1, 2, 3] rfl ?_
      exact law_case_6 C0 X hz hy rfl rfl
    by_cases w_139 : ((xs 0) &&& 63) = 7
    · refine j_tsw_in X 463 7 w_139 (by decide) (by decide) (off := 430) rfl (by decide) dL_law_33 ?_
      refine j_lv (lv1 := [(3, .int 0), (2, .ref (ad 79)), (0, .ref b), (1, .ref (ad 0))]) [0, 1, 2, 3] rfl ?_
      exact law_case_7 C0 X hz hy rfl rfl
    by_cases w_140 : ((xs 0) &&& 63) = 8
    · refine j_tsw_in X 526 8 w_140 (by decide) (by decide) (off := 493) rfl (by decide) dL_law_33 ?_
      refine j_lv (lv1 := [(3, .int 0), (2, .ref (ad 79)), (0, .ref b), (1, .ref (ad 0))]) [0, 1, 2, 3] rfl ?_
      exact law_case_8 C0 X hz hy rfl rfl
    by_cases w_141 : ((xs 0) &&& 63) = 9
    · refine j_tsw_in X 549 9 w_141 (by decide) (by decide) (off := 516) rfl (by decide) dL_law_33 ?_
      refine j_lv (lv1 := [(3, .int 0), (2, .ref (ad 79)), (0, .ref b), (1, .ref (ad 0))]) [0, 1, 2, 3] rfl ?_
      exact law_case_9 C0 X hz hy rfl rfl
    by_cases w_142 : ((xs 0) &&& 63) = 10
    · refine j_tsw_in X 602 10 w_142 (by decide) (by decide) (off := 569) rfl (by decide) dL_law_33 ?_
      refine j_lv (lv1 := [(3, .int 0), (2, .ref (ad 79)), (0, .ref b), (1, .ref (ad 0))]) [0, 1, 2, 3] rfl ?_
      exact law_case_10 C0 X hz hy rfl rfl
    by_cases w_143 : ((xs 0) &&& 63) = 11
    · refine j_tsw_in X 625 11 w_143 (by decide) (by decide) (off := 592) rfl (by decide) dL_law_33 ?_
      refine j_lv (lv1 := [(3, .int 0), (2, .ref (ad 79)), (0, .ref b), (1, .ref (ad 0))]) [0, 1, 2, 3] rfl ?_
      exact law_case_11 C0 X hz hy rfl rfl
    by_cases w_144 : ((xs 0) &&& 63) = 12
    · refine j_tsw_in X 648 12 w_144 (by decide) (by decide) (off := 615) rfl (by decide) dL_law_33 ?_
      refine j_lv (lv1 := [(3, .int 0), (2, .ref (ad 79)), (0, .ref b), (1, .ref (ad 0))]) [0, 1, 2, 3] rfl ?_
      exact law_case_12 C0 X hz hy rfl rfl
    by_cases w_145 : ((xs 0) &&& 63) = 13
    · refine j_tsw_in X 691 13 w_145 (by decide) (by decide) (off := 658) rfl (by decide) dL_law_33 ?_
      refine j_lv (lv1 := [(3, .int 0), (2, .ref (ad 79)), (0, .ref b), (1, .ref (ad 0))]) [0, 1, 2, 3] rfl ?_
      exact law_case_13 C0 X hz hy rfl rfl
    by_cases w_146 : ((xs 0) &&& 63) = 14
    · refine j_tsw_in X 714 14 w_146 (by decide) (by decide) (off := 681) rfl (by decide) dL_law_33 ?_
      refine j_lv (lv1 := [(3, .int 0), (2, .ref (ad 79)), (0, .ref b), (1, .ref (ad 0))]) [0, 1, 2, 3] rfl ?_
      exact law_case_14 C0 X hz hy rfl rfl
    by_cases w_147 : ((xs 0) &&& 63) = 15
    · refine j_tsw_in X 737 15 w_147 (by decide) (by decide) (off := 704) rfl (by decide) dL_law_33 ?_
      refine j_lv (lv1 := [(3, .int 0), (2, .ref (ad 79)), (0, .ref b), (1, .ref (ad 0))]) [0, 1, 2, 3] rfl ?_
      exact law_case_15 C0 X hz hy rfl rfl
    by_cases w_148 : ((xs 0) &&& 63) = 16
    · refine j_tsw_in X 770 16 w_148 (by decide) (by decide) (off := 737) rfl (by decide) dL_law_33 ?_
      refine j_lv (lv1 := [(3, .int 0), (2, .ref (ad 79)), (0, .ref b), (1, .ref (ad 0))]) [0, 1, 2, 3] rfl ?_
      exact law_case_16 C0 X hz hy rfl rfl
    by_cases w_149 : ((xs 0) &&& 63) = 17
    · refine j_tsw_in X 803 17 w_149 (by decide) (by decide) (off := 770) rfl (by decide) dL_law_33 ?_
      refine j_lv (lv1 := [(3, .int 0), (2, .ref (ad 79)), (0, .ref b), (1, .ref (ad 0))]) [0, 1, 2, 3] rfl ?_
      exact law_case_17 C0 X hz hy rfl rfl
    by_cases w_150 : ((xs 0) &&& 63) = 18
    · refine j_tsw_in X 836 18 w_150 (by decide) (by decide) (off := 803) rfl (by decide) dL_law_33 ?_
      refine j_lv (lv1 := [(3, .int 0), (2, .ref (ad 79)), (0, .ref b), (1, .ref (ad 0))]) [0, 1, 2, 3] rfl ?_
      exact law_case_18 C0 X hz hy rfl rfl
    by_cases w_151 : ((xs 0) &&& 63) = 19
    · refine j_tsw_in X 869 19 w_151 (by decide) (by decide) (off := 836) rfl (by decide) dL_law_33 ?_
      refine j_lv (lv1 := [(3, .int 0), (2, .ref (ad 79)), (0, .ref b), (1, .ref (ad 0))]) [0, 1, 2, 3] rfl ?_
      exact law_case_19 C0 X hz hy rfl rfl
    by_cases w_152 : ((xs 0) &&& 63) = 20
    · refine j_tsw_in X 902 20 w_152 (by decide) (by decide) (off := 869) rfl (by decide) dL_law_33 ?_
      refine j_lv (lv1 := [(3, .int 0), (2, .ref (ad 79)), (0, .ref b), (1, .ref (ad 0))]) [0, 1, 2, 3] rfl ?_
      exact law_case_20 C0 X hz hy rfl rfl
    by_cases w_153 : ((xs 0) &&& 63) = 21
    · refine j_tsw_in X 925 21 w_153 (by decide) (by decide) (off := 892) rfl (by decide) dL_law_33 ?_
      refine j_lv (lv1 := [(3, .int 0), (2, .ref (ad 79)), (0, .ref b), (1, .ref (ad 0))]) [0, 1, 2, 3] rfl ?_
      exact law_case_21 C0 X hz hy rfl rfl
    by_cases w_154 : ((xs 0) &&& 63) = 22
    · refine j_tsw_in X 958 22 w_154 (by decide) (by decide) (off := 925) rfl (by decide) dL_law_33 ?_
      refine j_lv (lv1 := [(3, .int 0), (2, .ref (ad 79)), (0, .ref b), (1, .ref (ad 0))]) [0, 1, 2, 3] rfl ?_
      exact law_case_22 C0 X hz hy rfl rfl
    by_cases w_155 : ((xs 0) &&& 63) = 23
    · refine j_tsw_in X 981 23 w_155 (by decide) (by decide) (off := 948) rfl (by decide) dL_law_33 ?_
      refine j_lv (lv1 := [(3, .int 0), (2, .ref (ad 79)), (0, .ref b), (1, .ref (ad 0))]) [0, 1, 2, 3] rfl ?_
      exact law_case_23 C0 X hz hy rfl rfl
    by_cases w_156 : ((xs 0) &&& 63) = 24
    · refine j_tsw_in X 1004 24 w_156 (by decide) (by decide) (off := 971) rfl (by decide) dL_law_33 ?_
      refine j_lv (lv1 := [(3, .int 0), (2, .ref (ad 79)), (0, .ref b), (1, .ref (ad 0))]) [0, 1, 2, 3] rfl ?_
      exact law_case_24 C0 X hz hy rfl rfl
    by_cases w_157 : ((xs 0) &&& 63) = 25
    · refine j_tsw_in X 1027 25 w_157 (by decide) (by decide) (off := 994) rfl (by decide) dL_law_33 ?_
      refine j_lv (lv1 := [(3, .int 0), (2, .ref (ad 79)), (0, .ref b), (1, .ref (ad 0))]) [0, 1, 2, 3] rfl ?_
      exact law_case_25 C0 X hz hy rfl rfl
    by_cases w_158 : ((xs 0) &&& 63) = 26
    · refine j_tsw_in X 1040 26 w_158 (by decide) (by decide) (off := 1007) rfl (by decide) dL_law_33 ?_
      refine j_lv (lv1 := [(3, .int 0), (2, .ref (ad 79)), (0, .ref b), (1, .ref (ad 0))]) [0, 1, 2, 3] rfl ?_
      exact law_case_26 C0 X hz hy rfl rfl
    by_cases w_159 : ((xs 0) &&& 63) = 27
    · refine j_tsw_in X 1083 27 w_159 (by decide) (by decide) (off := 1050) rfl (by decide) dL_law_33 ?_
      refine j_lv (lv1 := [(3, .int 0), (2, .ref (ad 79)), (0, .ref b), (1, .ref (ad 0))]) [0, 1, 2, 3] rfl ?_
      exact law_case_27 C0 X hz hy rfl rfl
    by_cases w_160 : ((xs 0) &&& 63) = 28
    · refine j_tsw_in X 1106 28 w_160 (by decide) (by decide) (off := 1073) rfl (by decide) dL_law_33 ?_
      refine j_lv (lv1 := [(3, .int 0), (2, .ref (ad 79)), (0, .ref b), (1, .ref (ad 0))]) [0, 1, 2, 3] rfl ?_
      exact law_case_28 C0 X hz hy rfl rfl
    by_cases w_161 : ((xs 0) &&& 63) = 29
    · refine j_tsw_in X 1149 29 w_161 (by decide) (by decide) (off := 1116) rfl (by decide) dL_law_33 ?_
      refine j_lv (lv1 := [(3, .int 0), (2, .ref (ad 79)), (0, .ref b), (1, .ref (ad 0))]) [0, 1, 2, 3] rfl ?_
      exact law_case_29 C0 X hz hy rfl rfl
    by_cases w_162 : ((xs 0) &&& 63) = 30
    · refine j_tsw_in X 1172 30 w_162 (by decide) (by decide) (off := 1139) rfl (by decide) dL_law_33 ?_
      refine j_lv (lv1 := [(3, .int 0), (2, .ref (ad 79)), (0, .ref b), (1, .ref (ad 0))]) [0, 1, 2, 3] rfl ?_
      exact law_case_30 C0 X hz hy rfl rfl
    by_cases w_163 : ((xs 0) &&& 63) = 31
    · refine j_tsw_in X 1215 31 w_163 (by decide) (by decide) (off := 1182) rfl (by decide) dL_law_33 ?_
      refine j_lv (lv1 := [(3, .int 0), (2, .ref (ad 79)), (0, .ref b), (1, .ref (ad 0))]) [0, 1, 2, 3] rfl ?_
      exact law_case_31 C0 X hz hy rfl rfl
    by_cases w_164 : ((xs 0) &&& 63) = 32
    · refine j_tsw_in X 1258 32 w_164 (by decide) (by decide) (off := 1225) rfl (by decide) dL_law_33 ?_
      refine j_lv (lv1 := [(3, .int 0), (2, .ref (ad 79)), (0, .ref b), (1, .ref (ad 0))]) [0, 1, 2, 3] rfl ?_
      exact law_case_32 C0 X hz hy rfl rfl
    by_cases w_165 : ((xs 0) &&& 63) = 33
    · refine j_tsw_in X 1321 33 w_165 (by decide) (by decide) (off := 1288) rfl (by decide) dL_law_33 ?_
      refine j_lv (lv1 := [(3, .int 0), (2, .ref (ad 79)), (0, .ref b), (1, .ref (ad 0))]) [0, 1, 2, 3] rfl ?_
      exact law_case_33 C0 X hz hy rfl rfl
    by_cases w_166 : ((xs 0) &&& 63) = 34
    · refine j_tsw_in X 1344 34 w_166 (by decide) (by decide) (off := 1311) rfl (by decide) dL_law_33 ?_
      refine j_lv (lv1 := [(3, .int 0), (2, .ref (ad 79)), (0, .ref b), (1, .ref (ad 0))]) [0, 1, 2, 3] rfl ?_
      exact law_case_34 C0 X hz hy rfl rfl
    by_cases w_167 : ((xs 0) &&& 63) = 35
    · refine j_tsw_in X 1367 35 w_167 (by decide) (by decide) (off := 1334) rfl (by decide) dL_law_33 ?_
      refine j_lv (lv1 := [(3, .int 0), (2, .ref (ad 79)), (0, .ref b), (1, .ref (ad 0))]) [0, 1, 2, 3] rfl ?_
      exact law_case_35 C0 X hz hy rfl rfl
    by_cases w_168 : ((xs 0) &&& 63) = 36
    · refine j_tsw_in X 1380 36 w_168 (by decide) (by decide) (off := 1347) rfl (by decide) dL_law_33 ?_
      refine j_lv (lv1 := [(3, .int 0), (2, .ref (ad 79)), (0, .ref b), (1, .ref (ad 0))]) [0, 1, 2, 3] rfl ?_
      exact law_case_36 C0 X hz hy rfl rfl
    by_cases w_169 : ((xs 0) &&& 63) = 37
    · refine j_tsw_in X 1393 37 w_169 (by decide) (by decide) (off := 1360) rfl (by decide) dL_law_33 ?_
      refine j_lv (lv1 := [(3, .int 0), (2, .ref (ad 79)), (0, .ref b), (1, .ref (ad 0))]) [0, 1, 2, 3] rfl ?_
      exact law_case_37 C0 X hz hy rfl rfl
    by_cases w_170 : ((xs 0) &&& 63) = 38
    · refine j_tsw_in X 1416 38 w_170 (by decide) (by decide) (off := 1383) rfl (by decide) dL_law_33 ?_
      refine j_lv (lv1 := [(3, .int 0), (2, .ref (ad 79)), (0, .ref b), (1, .ref (ad 0))]) [0, 1, 2, 3] rfl ?_
      exact law_case_38 C0 X hz hy rfl rfl
    by_cases w_171 : ((xs 0) &&& 63) = 39
    · refine j_tsw_in X 1429 39 w_171 (by decide) (by decide) (off := 1396) rfl (by decide) dL_law_33 ?_
      refine j_lv (lv1 := [(3, .int 0), (2, .ref (ad 79)), (0, .ref b), (1, .ref (ad 0))]) [0, 1, 2, 3] rfl ?_
      exact law_case_39 C0 X hz hy rfl rfl
    by_cases w_172 : ((xs 0) &&& 63) = 40
    · refine j_tsw_in X 1452 40 w_172 (by decide) (by decide) (off := 1419) rfl (by decide) dL_law_33 ?_
      refine j_lv (lv1 := [(3, .int 0), (2, .ref (ad 79)), (0, .ref b), (1, .ref (ad 0))]) [0, 1, 2, 3] rfl ?_
      exact law_case_40 C0 X hz hy rfl rfl
    refine j_tsw_out X 1475 (tsw_out 40 (by decide) (fun j hj => by
      have hj : j = 0 ∨ j = 1 ∨ j = 2 ∨ j = 3 ∨ j = 4 ∨ j = 5 ∨ j = 6 ∨ j = 7 ∨ j = 8 ∨ j = 9 ∨ j = 10 ∨ j = 11 ∨ j = 12 ∨ j = 13 ∨ j = 14 ∨ j = 15 ∨ j = 16 ∨ j = 17 ∨ j = 18 ∨ j = 19 ∨ j = 20 ∨ j = 21 ∨ j = 22 ∨ j = 23 ∨ j = 24 ∨ j = 25 ∨ j = 26 ∨ j = 27 ∨ j = 28 ∨ j = 29 ∨ j = 30 ∨ j = 31 ∨ j = 32 ∨ j = 33 ∨ j = 34 ∨ j = 35 ∨ j = 36 ∨ j = 37 ∨ j = 38 ∨ j = 39 ∨ j = 40 := by omega
      rcases hj with rfl | rfl | rfl | rfl | rfl | rfl | rfl | rfl | rfl | rfl | rfl | rfl | rfl | rfl | rfl | rfl | rfl | rfl | rfl | rfl | rfl | rfl | rfl | rfl | rfl | rfl | rfl | rfl | rfl | rfl | rfl | rfl | rfl | rfl | rfl | rfl | rfl | rfl | rfl | rfl | rfl
      · exact w_132
      · exact w_133
      · exact w_134
      · exact w_135
      · exact w_136
      · exact w_137
      · exact w_138
      · exact w_139
      · exact w_140
      · exact w_141
      · exact w_142
      · exact w_143
      · exact w_144
      · exact w_145
      · exact w_146
      · exact w_147
      · exact w_148
      · exact w_149
      · exact w_150
      · exact w_151
      · exact w_152
      · exact w_153
      · exact w_154
      · exact w_155
      · exact w_156
      · exact w_157
      · exact w_158
      · exact w_159
      · exact w_160
      · exact w_161
      · exact w_162
      · exact w_163
      · exact w_164
      · exact w_165
      · exact w_166
      · exact w_167
      · exact w_168
      · exact w_169
      · exact w_170
      · exact w_171
      · exact w_172
      )) (by decide) dL_law_33 ?_
    refine j_lv (lv1 := [(3, .int 0), (2, .ref (ad 79)), (0, .ref b), (1, .ref (ad 0))]) [0, 1, 2, 3] rfl ?_
    exact law_end C0 X rfl rfl
