theorem dL_law_212 : decode cL_law 212 = .ok (.aload_n 1, 1) := dk_43 (by decide +kernel)
theorem dL_law_213 : decode cL_law 213 = .ok (.aload_n 0, 1) := dk_42 (by decide +kernel)
theorem dL_law_214 : decode cL_law 214 = .ok (.iload_n 3, 1) := dk_29 (by decide +kernel)
theorem dL_law_215 : decode cL_law 215 = .ok (.iconst 1, 1) := dk_4 (by decide +kernel)
theorem dL_law_216 : decode cL_law 216 = .ok (.iadd, 1) := dk_96 (by decide +kernel)
theorem dL_law_217 : decode cL_law 217 = .ok (.iaload, 1) := dk_46 (by decide +kernel)
theorem dL_law_218 : decode cL_law 218 = .ok (.aload_n 0, 1) := dk_42 (by decide +kernel)
theorem dL_law_219 : decode cL_law 219 = .ok (.iload_n 3, 1) := dk_29 (by decide +kernel)
theorem dL_law_220 : decode cL_law 220 = .ok (.iconst 2, 1) := dk_5 (by decide +kernel)
theorem dL_law_221 : decode cL_law 221 = .ok (.iadd, 1) := dk_96 (by decide +kernel)
theorem dL_law_222 : decode cL_law 222 = .ok (.iaload, 1) := dk_46 (by decide +kernel)
theorem dL_law_223 : decode cL_law 223 = .ok (.invokevirtual 13, 3) := dk_182 (by decide +kernel)
theorem dL_law_226 : decode cL_law 226 = .ok (.pop, 1) := dk_87 (by decide +kernel)
theorem dL_law_227 : decode cL_law 227 = .ok (.aload_n 2, 1) := dk_44 (by decide +kernel)
theorem dL_law_228 : decode cL_law 228 = .ok (.aload_n 0, 1) := dk_42 (by decide +kernel)
theorem dL_law_229 : decode cL_law 229 = .ok (.iload_n 3, 1) := dk_29 (by decide +kernel)
theorem dL_law_230 : decode cL_law 230 = .ok (.iconst 1, 1) := dk_4 (by decide +kernel)
theorem dL_law_231 : decode cL_law 231 = .ok (.iadd, 1) := dk_96 (by decide +kernel)
theorem dL_law_232 : decode cL_law 232 = .ok (.iaload, 1) := dk_46 (by decide +kernel)
theorem dL_law_233 : decode cL_law 233 = .ok (.aload_n 0, 1) := dk_42 (by decide +kernel)
theorem dL_law_234 : decode cL_law 234 = .ok (.iload_n 3, 1) := dk_29 (by decide +kernel)
theorem dL_law_235 : decode cL_law 235 = .ok (.iconst 2, 1) := dk_5 (by decide +kernel)
theorem dL_law_236 : decode cL_law 236 = .ok (.iadd, 1) := dk_96 (by decide +kernel)
theorem dL_law_237 : decode cL_law 237 = .ok (.iaload, 1) := dk_46 (by decide +kernel)
theorem dL_law_238 : decode cL_law 238 = .ok (.invokevirtual 17, 3) := dk_182 (by decide +kernel)
theorem dL_law_241 : decode cL_law 241 = .ok (.pop, 1) := dk_87 (by decide +kernel)
theorem dL_law_242 : decode cL_law 242 = .ok (.goto 1233, 3) := dk_167 (by decide +kernel)
theorem dL_law_245 : decode cL_law 245 = .ok (.aload_n 1, 1) := dk_43 (by decide +kernel)
theorem dL_law_246 : decode cL_law 246 = .ok (.aload_n 0, 1) := dk_42 (by decide +kernel)
theorem dL_law_247 : decode cL_law 247 = .ok (.iload_n 3, 1) := dk_29 (by decide +kernel)
theorem dL_law_248 : decode cL_law 248 = .ok (.iconst 1, 1) := dk_4 (by decide +kernel)
theorem dL_law_249 : decode cL_law 249 = .ok (.iadd, 1) := dk_96 (by decide +kernel)
theorem dL_law_250 : decode cL_law 250 = .ok (.iaload, 1) := dk_46 (by decide +kernel)
theorem dL_law_251 : decode cL_law 251 = .ok (.invokevirtual 18, 3) := dk_182 (by decide +kernel)
theorem dL_law_254 : decode cL_law 254 = .ok (.pop, 1) := dk_87 (by decide +kernel)
theorem dL_law_255 : decode cL_law 255 = .ok (.aload_n 2, 1) := dk_44 (by decide +kernel)
theorem dL_law_256 : decode cL_law 256 = .ok (.aload_n 0, 1) := dk_42 (by decide +kernel)
theorem dL_law_257 : decode cL_law 257 = .ok (.iload_n 3, 1) := dk_29 (by decide +kernel)
theorem dL_law_258 : decode cL_law 258 = .ok (.iconst 1, 1) := dk_4 (by decide +kernel)
theorem dL_law_259 : decode cL_law 259 = .ok (.iadd, 1) := dk_96 (by decide +kernel)
theorem dL_law_260 : decode cL_law 260 = .ok (.iaload, 1) := dk_46 (by decide +kernel)
theorem dL_law_261 : decode cL_law 261 = .ok (.invokevirtual 22, 3) := dk_182 (by decide +kernel)
theorem dL_law_264 : decode cL_law 264 = .ok (.pop, 1) := dk_87 (by decide +kernel)
theorem dL_law_265 : decode cL_law 265 = .ok (.goto 1210, 3) := dk_167 (by decide +kernel)
theorem dL_law_268 : decode cL_law 268 = .ok (.aload_n 1, 1) := dk_43 (by decide +kernel)
theorem dL_law_269 : decode cL_law 269 = .ok (.aload_n 0, 1) := dk_42 (by decide +kernel)
theorem dL_law_270 : decode cL_law 270 = .ok (.iload_n 3, 1) := dk_29 (by decide +kernel)
theorem dL_law_271 : decode cL_law 271 = .ok (.iconst 1, 1) := dk_4 (by decide +kernel)
theorem dL_law_272 : decode cL_law 272 = .ok (.iadd, 1) := dk_96 (by decide +kernel)
theorem dL_law_273 : decode cL_law 273 = .ok (.iaload, 1) := dk_46 (by decide +kernel)
theorem dL_law_274 : decode cL_law 274 = .ok (.aload_n 0, 1) := dk_42 (by decide +kernel)
theorem dL_law_275 : decode cL_law 275 = .ok (.iload_n 3, 1) := dk_29 (by decide +kernel)
theorem dL_law_276 : decode cL_law 276 = .ok (.iconst 2, 1) := dk_5 (by decide +kernel)
theorem dL_law_277 : decode cL_law 277 = .ok (.iadd, 1) := dk_96 (by decide +kernel)
theorem dL_law_278 : decode cL_law 278 = .ok (.iaload, 1) := dk_46 (by decide +kernel)
theorem dL_law_279 : decode cL_law 279 = .ok (.aload_n 0, 1) := dk_42 (by decide +kernel)
theorem dL_law_280 : decode cL_law 280 = .ok (.iload_n 3, 1) := dk_29 (by decide +kernel)
theorem dL_law_281 : decode cL_law 281 = .ok (.iconst 3, 1) := dk_6 (by decide +kernel)
theorem dL_law_282 : decode cL_law 282 = .ok (.iadd, 1) := dk_96 (by decide +kernel)
theorem dL_law_283 : decode cL_law 283 = .ok (.iaload, 1) := dk_46 (by decide +kernel)
theorem dL_law_284 : decode cL_law 284 = .ok (.aload_n 0, 1) := dk_42 (by decide +kernel)
theorem dL_law_285 : decode cL_law 285 = .ok (.iload_n 3, 1) := dk_29 (by decide +kernel)
theorem dL_law_286 : decode cL_law 286 = .ok (.iconst 4, 1) := dk_7 (by decide +kernel)
theorem dL_law_287 : decode cL_law 287 = .ok (.iadd, 1) := dk_96 (by decide +kernel)
theorem dL_law_288 : decode cL_law 288 = .ok (.iaload, 1) := dk_46 (by decide +kernel)
theorem dL_law_289 : decode cL_law 289 = .ok (.invokevirtual 23, 3) := dk_182 (by decide +kernel)
theorem dL_law_292 : decode cL_law 292 = .ok (.pop, 1) := dk_87 (by decide +kernel)
theorem dL_law_293 : decode cL_law 293 = .ok (.aload_n 2, 1) := dk_44 (by decide +kernel)
theorem dL_law_294 : decode cL_law 294 = .ok (.aload_n 0, 1) := dk_42 (by decide +kernel)
theorem dL_law_295 : decode cL_law 295 = .ok (.iload_n 3, 1) := dk_29 (by decide +kernel)
theorem dL_law_296 : decode cL_law 296 = .ok (.iconst 1, 1) := dk_4 (by decide +kernel)
theorem dL_law_297 : decode cL_law 297 = .ok (.iadd, 1) := dk_96 (by decide +kernel)
theorem dL_law_298 : decode cL_law 298 = .ok (.iaload, 1) := dk_46 (by decide +kernel)
theorem dL_law_299 : decode cL_law 299 = .ok (.aload_n 0, 1) := dk_42 (by decide +kernel)
theorem dL_law_300 : decode cL_law 300 = .ok (.iload_n 3, 1) := dk_29 (by decide +kernel)
theorem dL_law_301 : decode cL_law 301 = .ok (.iconst 2, 1) := dk_5 (by decide +kernel)
theorem dL_law_302 : decode cL_law 302 = .ok (.iadd, 1) := dk_96 (by decide +kernel)
theorem dL_law_303 : decode cL_law 303 = .ok (.iaload, 1) := dk_46 (by decide +kernel)
theorem dL_law_304 : decode cL_law 304 = .ok (.aload_n 0, 1) := dk_42 (by decide +kernel)
theorem dL_law_305 : decode cL_law 305 = .ok (.iload_n 3, 1) := dk_29 (by decide +kernel)
theorem dL_law_306 : decode cL_law 306 = .ok (.iconst 3, 1) := dk_6 (by decide +kernel)
theorem dL_law_307 : decode cL_law 307 = .ok (.iadd, 1) := dk_96 (by decide +kernel)
theorem dL_law_308 : decode cL_law 308 = .ok (.iaload, 1) := dk_46 (by decide +kernel)
theorem dL_law_309 : decode cL_law 309 = .ok (.aload_n 0, 1) := dk_42 (by decide +kernel)
theorem dL_law_310 : decode cL_law 310 = .ok (.iload_n 3, 1) := dk_29 (by decide +kernel)
theorem dL_law_311 : decode cL_law 311 = .ok (.iconst 4, 1) := dk_7 (by decide +kernel)
theorem dL_law_312 : decode cL_law 312 = .ok (.iadd, 1) := dk_96 (by decide +kernel)
theorem dL_law_313 : decode cL_law 313 = .ok (.iaload, 1) := dk_46 (by decide +kernel)
theorem dL_law_314 : decode cL_law 314 = .ok (.invokevirtual 27, 3) := dk_182 (by decide +kernel)
theorem dL_law_317 : decode cL_law 317 = .ok (.pop, 1) := dk_87 (by decide +kernel)
theorem dL_law_318 : decode cL_law 318 = .ok (.goto 1157, 3) := dk_167 (by decide +kernel)
theorem dL_law_321 : decode cL_law 321 = .ok (.aload_n 1, 1) := dk_43 (by decide +kernel)
theorem dL_law_322 : decode cL_law 322 = .ok (.aload_n 0, 1) := dk_42 (by decide +kernel)
theorem dL_law_323 : decode cL_law 323 = .ok (.iload_n 3, 1) := dk_29 (by decide +kernel)
theorem dL_law_324 : decode cL_law 324 = .ok (.iconst 1, 1) := dk_4 (by decide +kernel)
theorem dL_law_325 : decode cL_law 325 = .ok (.iadd, 1) := dk_96 (by decide +kernel)
theorem dL_law_326 : decode cL_law 326 = .ok (.iaload, 1) := dk_46 (by decide +kernel)
theorem dL_law_327 : decode cL_law 327 = .ok (.aload_n 0, 1) := dk_42 (by decide +kernel)
theorem dL_law_328 : decode cL_law 328 = .ok (.iload_n 3, 1) := dk_29 (by decide +kernel)
theorem dL_law_329 : decode cL_law 329 = .ok (.iconst 2, 1) := dk_5 (by decide +kernel)
theorem dL_law_330 : decode cL_law 330 = .ok (.iadd, 1) := dk_96 (by decide +kernel)
theorem dL_law_331 : decode cL_law 331 = .ok (.iaload, 1) := dk_46 (by decide +kernel)
theorem dL_law_332 : decode cL_law 332 = .ok (.invokevirtual 28, 3) := dk_182 (by decide +kernel)
theorem dL_law_335 : decode cL_law 335 = .ok (.pop, 1) := dk_87 (by decide +kernel)
theorem dL_law_336 : decode cL_law 336 = .ok (.aload_n 2, 1) := dk_44 (by decide +kernel)
theorem dL_law_337 : decode cL_law 337 = .ok (.aload_n 0, 1) := dk_42 (by decide +kernel)
theorem dL_law_338 : decode cL_law 338 = .ok (.iload_n 3, 1) := dk_29 (by decide +kernel)
theorem dL_law_339 : decode cL_law 339 = .ok (.iconst 1, 1) := dk_4 (by decide +kernel)
theorem dL_law_340 : decode cL_law 340 = .ok (.iadd, 1) := dk_96 (by decide +kernel)
theorem dL_law_341 : decode cL_law 341 = .ok (.iaload, 1) := dk_46 (by decide +kernel)
theorem dL_law_342 : decode cL_law 342 = .ok (.aload_n 0, 1) := dk_42 (by decide +kernel)
theorem dL_law_343 : decode cL_law 343 = .ok (.iload_n 3, 1) := dk_29 (by decide +kernel)
theorem dL_law_344 : decode cL_law 344 = .ok (.iconst 2, 1) := dk_5 (by decide +kernel)
theorem dL_law_345 : decode cL_law 345 = .ok (.iadd, 1) := dk_96 (by decide +kernel)
theorem dL_law_346 : decode cL_law 346 = .ok (.iaload, 1) := dk_46 (by decide +kernel)
theorem dL_law_347 : decode cL_law 347 = .ok (.invokevirtual 31, 3) := dk_182 (by decide +kernel)
theorem dL_law_350 : decode cL_law 350 = .ok (.pop, 1) := dk_87 (by decide +kernel)
theorem dL_law_351 : decode cL_law 351 = .ok (.goto 1124, 3) := dk_167 (by decide +kernel)
theorem dL_law_354 : decode cL_law 354 = .ok (.aload_n 1, 1) := dk_43 (by decide +kernel)
theorem dL_law_355 : decode cL_law 355 = .ok (.aload_n 0, 1) := dk_42 (by decide +kernel)
theorem dL_law_356 : decode cL_law 356 = .ok (.iload_n 3, 1) := dk_29 (by decide +kernel)
theorem dL_law_357 : decode cL_law 357 = .ok (.iconst 1, 1) := dk_4 (by decide +kernel)
theorem dL_law_358 : decode cL_law 358 = .ok (.iadd, 1) := dk_96 (by decide +kernel)
theorem dL_law_359 : decode cL_law 359 = .ok (.iaload, 1) := dk_46 (by decide +kernel)
theorem dL_law_360 : decode cL_law 360 = .ok (.aload_n 0, 1) := dk_42 (by decide +kernel)
theorem dL_law_361 : decode cL_law 361 = .ok (.iload_n 3, 1) := dk_29 (by decide +kernel)
theorem dL_law_362 : decode cL_law 362 = .ok (.iconst 2, 1) := dk_5 (by decide +kernel)
theorem dL_law_363 : decode cL_law 363 = .ok (.iadd, 1) := dk_96 (by decide +kernel)
theorem dL_law_364 : decode cL_law 364 = .ok (.iaload, 1) := dk_46 (by decide +kernel)
theorem dL_law_365 : decode cL_law 365 = .ok (.aload_n 0, 1) := dk_42 (by decide +kernel)
theorem dL_law_366 : decode cL_law 366 = .ok (.iload_n 3, 1) := dk_29 (by decide +kernel)
theorem dL_law_367 : decode cL_law 367 = .ok (.iconst 3, 1) := dk_6 (by decide +kernel)
theorem dL_law_368 : decode cL_law 368 = .ok (.iadd, 1) := dk_96 (by decide +kernel)
theorem dL_law_369 : decode cL_law 369 = .ok (.iaload, 1) := dk_46 (by decide +kernel)
theorem dL_law_370 : decode cL_law 370 = .ok (.invokevirtual 32, 3) := dk_182 (by decide +kernel)
theorem dL_law_373 : decode cL_law 373 = .ok (.pop, 1) := dk_87 (by decide +kernel)
theorem dL_law_374 : decode cL_law 374 = .ok (.aload_n 2, 1) := dk_44 (by decide +kernel)
theorem dL_law_375 : decode cL_law 375 = .ok (.aload_n 0, 1) := dk_42 (by decide +kernel)
theorem dL_law_376 : decode cL_law 376 = .ok (.iload_n 3, 1) := dk_29 (by decide +kernel)
theorem dL_law_377 : decode cL_law 377 = .ok (.iconst 1, 1) := dk_4 (by decide +kernel)
theorem dL_law_378 : decode cL_law 378 = .ok (.iadd, 1) := dk_96 (by decide +kernel)
theorem dL_law_379 : decode cL_law 379 = .ok (.iaload, 1) := dk_46 (by decide +kernel)
theorem dL_law_380 : decode cL_law 380 = .ok (.aload_n 0, 1) := dk_42 (by decide +kernel)
theorem dL_law_381 : decode cL_law 381 = .ok (.iload_n 3, 1) := dk_29 (by decide +kernel)
theorem dL_law_382 : decode cL_law 382 = .ok (.iconst 2, 1) := dk_5 (by decide +kernel)
theorem dL_law_383 : decode cL_law 383 = .ok (.iadd, 1) := dk_96 (by decide +kernel)
theorem dL_law_384 : decode cL_law 384 = .ok (.iaload, 1) := dk_46 (by decide +kernel)
theorem dL_law_385 : decode cL_law 385 = .ok (.aload_n 0, 1) := dk_42 (by decide +kernel)
theorem dL_law_386 : decode cL_law 386 = .ok (.iload_n 3, 1) := dk_29 (by decide +kernel)
theorem dL_law_387 : decode cL_law 387 = .ok (.iconst 3, 1) := dk_6 (by decide +kernel)
theorem dL_law_388 : decode cL_law 388 = .ok (.iadd, 1) := dk_96 (by decide +kernel)
theorem dL_law_389 : decode cL_law 389 = .ok (.iaload, 1) := dk_46 (by decide +kernel)
theorem dL_law_390 : decode cL_law 390 = .ok (.invokevirtual 36, 3) := dk_182 (by decide +kernel)
theorem dL_law_393 : decode cL_law 393 = .ok (.pop, 1) := dk_87 (by decide +kernel)
theorem dL_law_394 : decode cL_law 394 = .ok (.goto 1081, 3) := dk_167 (by decide +kernel)
theorem dL_law_397 : decode cL_law 397 = .ok (.aload_n 1, 1) := dk_43 (by decide +kernel)
theorem dL_law_398 : decode cL_law 398 = .ok (.aload_n 0, 1) := dk_42 (by decide +kernel)
theorem dL_law_399 : decode cL_law 399 = .ok (.iload_n 3, 1) := dk_29 (by decide +kernel)
theorem dL_law_400 : decode cL_law 400 = .ok (.iconst 1, 1) := dk_4 (by decide +kernel)
theorem dL_law_401 : decode cL_law 401 = .ok (.iadd, 1) := dk_96 (by decide +kernel)
theorem dL_law_402 : decode cL_law 402 = .ok (.iaload, 1) := dk_46 (by decide +kernel)
theorem dL_law_403 : decode cL_law 403 = .ok (.aload_n 0, 1) := dk_42 (by decide +kernel)
theorem dL_law_404 : decode cL_law 404 = .ok (.iload_n 3, 1) := dk_29 (by decide +kernel)
theorem dL_law_405 : decode cL_law 405 = .ok (.iconst 2, 1) := dk_5 (by decide +kernel)
theorem dL_law_406 : decode cL_law 406 = .ok (.iadd, 1) := dk_96 (by decide +kernel)
theorem dL_law_407 : decode cL_law 407 = .ok (.iaload, 1) := dk_46 (by decide +kernel)
theorem dL_law_408 : decode cL_law 408 = .ok (.invokevirtual 37, 3) := dk_182 (by decide +kernel)
theorem dL_law_411 : decode cL_law 411 = .ok (.pop, 1) := dk_87 (by decide +kernel)
theorem dL_law_412 : decode cL_law 412 = .ok (.aload_n 2, 1) := dk_44 (by decide +kernel)
theorem dL_law_413 : decode cL_law 413 = .ok (.aload_n 0, 1) := dk_42 (by decide +kernel)
theorem dL_law_414 : decode cL_law 414 = .ok (.iload_n 3, 1) := dk_29 (by decide +kernel)
theorem dL_law_415 : decode cL_law 415 = .ok (.iconst 1, 1) := dk_4 (by decide +kernel)
theorem dL_law_416 : decode cL_law 416 = .ok (.iadd, 1) := dk_96 (by decide +kernel)
theorem dL_law_417 : decode cL_law 417 = .ok (.iaload, 1) := dk_46 (by decide +kernel)
theorem dL_law_418 : decode cL_law 418 = .ok (.aload_n 0, 1) := dk_42 (by decide +kernel)
theorem dL_law_419 : decode cL_law 419 = .ok (.iload_n 3, 1) := dk_29 (by decide +kernel)
theorem dL_law_420 : decode cL_law 420 = .ok (.iconst 2, 1) := dk_5 (by decide +kernel)
theorem dL_law_421 : decode cL_law 421 = .ok (.iadd, 1) := dk_96 (by decide +kernel)
theorem dL_law_422 : decode cL_law 422 = .ok (.iaload, 1) := dk_46 (by decide +kernel)
theorem dL_law_423 : decode cL_law 423 = .ok (.invokevirtual 40, 3) := dk_182 (by decide +kernel)
theorem dL_law_426 : decode cL_law 426 = .ok (.pop, 1) := dk_87 (by decide +kernel)
theorem dL_law_427 : decode cL_law 427 = .ok (.goto 1048, 3) := dk_167 (by decide +kernel)
theorem dL_law_430 : decode cL_law 430 = .ok (.aload_n 1, 1) := dk_43 (by decide +kernel)
theorem dL_law_431 : decode cL_law 431 = .ok (.aload_n 0, 1) := dk_42 (by decide +kernel)
theorem dL_law_432 : decode cL_law 432 = .ok (.iload_n 3, 1) := dk_29 (by decide +kernel)
theorem dL_law_433 : decode cL_law 433 = .ok (.iconst 1, 1) := dk_4 (by decide +kernel)
theorem dL_law_434 : decode cL_law 434 = .ok (.iadd, 1) := dk_96 (by decide +kernel)
theorem dL_law_435 : decode cL_law 435 = .ok (.iaload, 1) := dk_46 (by decide +kernel)
theorem dL_law_436 : decode cL_law 436 = .ok (.aload_n 0, 1) := dk_42 (by decide +kernel)
theorem dL_law_437 : decode cL_law 437 = .ok (.iload_n 3, 1) := dk_29 (by decide +kernel)
theorem dL_law_438 : decode cL_law 438 = .ok (.iconst 2, 1) := dk_5 (by decide +kernel)
theorem dL_law_439 : decode cL_law 439 = .ok (.iadd, 1) := dk_96 (by decide +kernel)
theorem dL_law_440 : decode cL_law 440 = .ok (.iaload, 1) := dk_46 (by decide +kernel)
theorem dL_law_441 : decode cL_law 441 = .ok (.invokevirtual 41, 3) := dk_182 (by decide +kernel)
theorem dL_law_444 : decode cL_law 444 = .ok (.pop, 1) := dk_87 (by decide +kernel)
theorem dL_law_445 : decode cL_law 445 = .ok (.aload_n 2, 1) := dk_44 (by decide +kernel)
theorem dL_law_446 : decode cL_law 446 = .ok (.aload_n 0, 1) := dk_42 (by decide +kernel)
theorem dL_law_447 : decode cL_law 447 = .ok (.iload_n 3, 1) := dk_29 (by decide +kernel)
theorem dL_law_448 : decode cL_law 448 = .ok (.iconst 1, 1) := dk_4 (by decide +kernel)
theorem dL_law_449 : decode cL_law 449 = .ok (.iadd, 1) := dk_96 (by decide +kernel)
theorem dL_law_450 : decode cL_law 450 = .ok (.iaload, 1) := dk_46 (by decide +kernel)
theorem dL_law_451 : decode cL_law 451 = .ok (.aload_n 0, 1) := dk_42 (by decide +kernel)
theorem dL_law_452 : decode cL_law 452 = .ok (.iload_n 3, 1) := dk_29 (by decide +kernel)
theorem dL_law_453 : decode cL_law 453 = .ok (.iconst 2, 1) := dk_5 (by decide +kernel)
theorem dL_law_454 : decode cL_law 454 = .ok (.iadd, 1) := dk_96 (by decide +kernel)
theorem dL_law_455 : decode cL_law 455 = .ok (.iaload, 1) := dk_46 (by decide +kernel)
theorem dL_law_456 : decode cL_law 456 = .ok (.invokevirtual 44, 3) := dk_182 (by decide +kernel)
theorem dL_law_459 : decode cL_law 459 = .ok (.pop, 1) := dk_87 (by decide +kernel)
theorem dL_law_460 : decode cL_law 460 = .ok (.goto 1015, 3) := dk_167 (by decide +kernel)
theorem dL_law_463 : decode cL_law 463 = .ok (.aload_n 1, 1) := dk_43 (by decide +kernel)
theorem dL_law_464 : decode cL_law 464 = .ok (.aload_n 0, 1) := dk_42 (by decide +kernel)
theorem dL_law_465 : decode cL_law 465 = .ok (.iload_n 3, 1) := dk_29 (by decide +kernel)
theorem dL_law_466 : decode cL_law 466 = .ok (.iconst 1, 1) := dk_4 (by decide +kernel)
theorem dL_law_467 : decode cL_law 467 = .ok (.iadd, 1) := dk_96 (by decide +kernel)
theorem dL_law_468 : decode cL_law 468 = .ok (.iaload, 1) := dk_46 (by decide +kernel)
theorem dL_law_469 : decode cL_law 469 = .ok (.i2l, 1) := dk_133 (by decide +kernel)
theorem dL_law_470 : decode cL_law 470 = .ok (.bipush 32, 2) := dk_16 (by decide +kernel)
theorem dL_law_472 : decode cL_law 472 = .ok (.lshl, 1) := dk_121 (by decide +kernel)
theorem dL_law_473 : decode cL_law 473 = .ok (.aload_n 0, 1) := dk_42 (by decide +kernel)
theorem dL_law_474 : decode cL_law 474 = .ok (.iload_n 3, 1) := dk_29 (by decide +kernel)
theorem dL_law_475 : decode cL_law 475 = .ok (.iconst 2, 1) := dk_5 (by decide +kernel)
theorem dL_law_476 : decode cL_law 476 = .ok (.iadd, 1) := dk_96 (by decide +kernel)
theorem dL_law_477 : decode cL_law 477 = .ok (.iaload, 1) := dk_46 (by decide +kernel)
theorem dL_law_478 : decode cL_law 478 = .ok (.i2l, 1) := dk_133 (by decide +kernel)
theorem dL_law_479 : decode cL_law 479 = .ok (.ldc2_w 45, 3) := by decide +kernel
theorem dL_law_482 : decode cL_law 482 = .ok (.land, 1) := dk_127 (by decide +kernel)
theorem dL_law_483 : decode cL_law 483 = .ok (.lor, 1) := dk_129 (by decide +kernel)
theorem dL_law_484 : decode cL_law 484 = .ok (.aload_n 0, 1) := dk_42 (by decide +kernel)
theorem dL_law_485 : decode cL_law 485 = .ok (.iload_n 3, 1) := dk_29 (by decide +kernel)
theorem dL_law_486 : decode cL_law 486 = .ok (.iconst 3, 1) := dk_6 (by decide +kernel)
theorem dL_law_487 : decode cL_law 487 = .ok (.iadd, 1) := dk_96 (by decide +kernel)
theorem dL_law_488 : decode cL_law 488 = .ok (.iaload, 1) := dk_46 (by decide +kernel)
theorem dL_law_489 : decode cL_law 489 = .ok (.invokevirtual 47, 3) := dk_182 (by decide +kernel)
theorem dL_law_492 : decode cL_law 492 = .ok (.pop, 1) := dk_87 (by decide +kernel)
theorem dL_law_493 : decode cL_law 493 = .ok (.aload_n 2, 1) := dk_44 (by decide +kernel)
theorem dL_law_494 : decode cL_law 494 = .ok (.aload_n 0, 1) := dk_42 (by decide +kernel)
theorem dL_law_495 : decode cL_law 495 = .ok (.iload_n 3, 1) := dk_29 (by decide +kernel)
theorem dL_law_496 : decode cL_law 496 = .ok (.iconst 1, 1) := dk_4 (by decide +kernel)
theorem dL_law_497 : decode cL_law 497 = .ok (.iadd, 1) := dk_96 (by decide +kernel)
theorem dL_law_498 : decode cL_law 498 = .ok (.iaload, 1) := dk_46 (by decide +kernel)
theorem dL_law_499 : decode cL_law 499 = .ok (.i2l, 1) := dk_133 (by decide +kernel)
theorem dL_law_500 : decode cL_law 500 = .ok (.bipush 32, 2) := dk_16 (by decide +kernel)
theorem dL_law_502 : decode cL_law 502 = .ok (.lshl, 1) := dk_121 (by decide +kernel)
theorem dL_law_503 : decode cL_law 503 = .ok (.aload_n 0, 1) := dk_42 (by decide +kernel)
theorem dL_law_504 : decode cL_law 504 = .ok (.iload_n 3, 1) := dk_29 (by decide +kernel)
theorem dL_law_505 : decode cL_law 505 = .ok (.iconst 2, 1) := dk_5 (by decide +kernel)
theorem dL_law_506 : decode cL_law 506 = .ok (.iadd, 1) := dk_96 (by decide +kernel)
theorem dL_law_507 : decode cL_law 507 = .ok (.iaload, 1) := dk_46 (by decide +kernel)
theorem dL_law_508 : decode cL_law 508 = .ok (.i2l, 1) := dk_133 (by decide +kernel)
theorem dL_law_509 : decode cL_law 509 = .ok (.ldc2_w 45, 3) := by decide +kernel
theorem dL_law_512 : decode cL_law 512 = .ok (.land, 1) := dk_127 (by decide +kernel)
theorem dL_law_513 : decode cL_law 513 = .ok (.lor, 1) := dk_129 (by decide +kernel)
theorem dL_law_514 : decode cL_law 514 = .ok (.aload_n 0, 1) := dk_42 (by decide +kernel)
theorem dL_law_515 : decode cL_law 515 = .ok (.iload_n 3, 1) := dk_29 (by decide +kernel)
theorem dL_law_516 : decode cL_law 516 = .ok (.iconst 3, 1) := dk_6 (by decide +kernel)
theorem dL_law_517 : decode cL_law 517 = .ok (.iadd, 1) := dk_96 (by decide +kernel)
theorem dL_law_518 : decode cL_law 518 = .ok (.iaload, 1) := dk_46 (by decide +kernel)
theorem dL_law_519 : decode cL_law 519 = .ok (.invokevirtual 51, 3) := dk_182 (by decide +kernel)
theorem dL_law_522 : decode cL_law 522 = .ok (.pop, 1) := dk_87 (by decide +kernel)
theorem dL_law_523 : decode cL_law 523 = .ok (.goto 952, 3) := dk_167 (by decide +kernel)
theorem dL_law_526 : decode cL_law 526 = .ok (.aload_n 1, 1) := dk_43 (by decide +kernel)
theorem dL_law_527 : decode cL_law 527 = .ok (.aload_n 0, 1) := dk_42 (by decide +kernel)
theorem dL_law_528 : decode cL_law 528 = .ok (.iload_n 3, 1) := dk_29 (by decide +kernel)
theorem dL_law_529 : decode cL_law 529 = .ok (.iconst 1, 1) := dk_4 (by decide +kernel)
theorem dL_law_530 : decode cL_law 530 = .ok (.iadd, 1) := dk_96 (by decide +kernel)
theorem dL_law_531 : decode cL_law 531 = .ok (.iaload, 1) := dk_46 (by decide +kernel)
theorem dL_law_532 : decode cL_law 532 = .ok (.invokevirtual 52, 3) := dk_182 (by decide +kernel)
theorem dL_law_535 : decode cL_law 535 = .ok (.pop, 1) := dk_87 (by decide +kernel)
theorem dL_law_536 : decode cL_law 536 = .ok (.aload_n 2, 1) := dk_44 (by decide +kernel)
theorem dL_law_537 : decode cL_law 537 = .ok (.aload_n 0, 1) := dk_42 (by decide +kernel)
theorem dL_law_538 : decode cL_law 538 = .ok (.iload_n 3, 1) := dk_29 (by decide +kernel)
theorem dL_law_539 : decode cL_law 539 = .ok (.iconst 1, 1) := dk_4 (by decide +kernel)
theorem dL_law_540 : decode cL_law 540 = .ok (.iadd, 1) := dk_96 (by decide +kernel)
theorem dL_law_541 : decode cL_law 541 = .ok (.iaload, 1) := dk_46 (by decide +kernel)
theorem dL_law_542 : decode cL_law 542 = .ok (.invokevirtual 55, 3) := dk_182 (by decide +kernel)
theorem dL_law_545 : decode cL_law 545 = .ok (.pop, 1) := dk_87 (by decide +kernel)
theorem dL_law_546 : decode cL_law 546 = .ok (.goto 929, 3) := dk_167 (by decide +kernel)
theorem dL_law_549 : decode cL_law 549 = .ok (.aload_n 1, 1) := dk_43 (by decide +kernel)
theorem dL_law_550 : decode cL_law 550 = .ok (.aload_n 0, 1) := dk_42 (by decide +kernel)
theorem dL_law_551 : decode cL_law 551 = .ok (.iload_n 3, 1) := dk_29 (by decide +kernel)
theorem dL_law_552 : decode cL_law 552 = .ok (.iconst 1, 1) := dk_4 (by decide +kernel)
theorem dL_law_553 : decode cL_law 553 = .ok (.iadd, 1) := dk_96 (by decide +kernel)
theorem dL_law_554 : decode cL_law 554 = .ok (.iaload, 1) := dk_46 (by decide +kernel)
theorem dL_law_555 : decode cL_law 555 = .ok (.aload_n 0, 1) := dk_42 (by decide +kernel)
theorem dL_law_556 : decode cL_law 556 = .ok (.iload_n 3, 1) := dk_29 (by decide +kernel)
theorem dL_law_557 : decode cL_law 557 = .ok (.iconst 2, 1) := dk_5 (by decide +kernel)
theorem dL_law_558 : decode cL_law 558 = .ok (.iadd, 1) := dk_96 (by decide +kernel)
theorem dL_law_559 : decode cL_law 559 = .ok (.iaload, 1) := dk_46 (by decide +kernel)
theorem dL_law_560 : decode cL_law 560 = .ok (.aload_n 0, 1) := dk_42 (by decide +kernel)
theorem dL_law_561 : decode cL_law 561 = .ok (.iload_n 3, 1) := dk_29 (by decide +kernel)
theorem dL_law_562 : decode cL_law 562 = .ok (.iconst 3, 1) := dk_6 (by decide +kernel)
theorem dL_law_563 : decode cL_law 563 = .ok (.iadd, 1) := dk_96 (by decide +kernel)
theorem dL_law_564 : decode cL_law 564 = .ok (.iaload, 1) := dk_46 (by decide +kernel)
theorem dL_law_565 : decode cL_law 565 = .ok (.aload_n 0, 1) := dk_42 (by decide +kernel)
theorem dL_law_566 : decode cL_law 566 = .ok (.iload_n 3, 1) := dk_29 (by decide +kernel)
theorem dL_law_567 : decode cL_law 567 = .ok (.iconst 4, 1) := dk_7 (by decide +kernel)
theorem dL_law_568 : decode cL_law 568 = .ok (.iadd, 1) := dk_96 (by decide +kernel)
theorem dL_law_569 : decode cL_law 569 = .ok (.iaload, 1) := dk_46 (by decide +kernel)
theorem dL_law_570 : decode cL_law 570 = .ok (.invokevirtual 56, 3) := dk_182 (by decide +kernel)
theorem dL_law_573 : decode cL_law 573 = .ok (.pop, 1) := dk_87 (by decide +kernel)
theorem dL_law_574 : decode cL_law 574 = .ok (.aload_n 2, 1) := dk_44 (by decide +kernel)
theorem dL_law_575 : decode cL_law 575 = .ok (.aload_n 0, 1) := dk_42 (by decide +kernel)
theorem dL_law_576 : decode cL_law 576 = .ok (.iload_n 3, 1) := dk_29 (by decide +kernel)
theorem dL_law_577 : decode cL_law 577 = .ok (.iconst 1, 1) := dk_4 (by decide +kernel)
theorem dL_law_578 : decode cL_law 578 = .ok (.iadd, 1) := dk_96 (by decide +kernel)
theorem dL_law_579 : decode cL_law 579 = .ok (.iaload, 1) := dk_46 (by decide +kernel)
theorem dL_law_580 : decode cL_law 580 = .ok (.aload_n 0, 1) := dk_42 (by decide +kernel)
theorem dL_law_581 : decode cL_law 581 = .ok (.iload_n 3, 1) := dk_29 (by decide +kernel)
theorem dL_law_582 : decode cL_law 582 = .ok (.iconst 2, 1) := dk_5 (by decide +kernel)
theorem dL_law_583 : decode cL_law 583 = .ok (.iadd, 1) := dk_96 (by decide +kernel)
theorem dL_law_584 : decode cL_law 584 = .ok (.iaload, 1) := dk_46 (by decide +kernel)
theorem dL_law_585 : decode cL_law 585 = .ok (.aload_n 0, 1) := dk_42 (by decide +kernel)
theorem dL_law_586 : decode cL_law 586 = .ok (.iload_n 3, 1) := dk_29 (by decide +kernel)
theorem dL_law_587 : decode cL_law 587 = .ok (.iconst 3, 1) := dk_6 (by decide +kernel)
theorem dL_law_588 : decode cL_law 588 = .ok (.iadd, 1) := dk_96 (by decide +kernel)
theorem dL_law_589 : decode cL_law 589 = .ok (.iaload, 1) := dk_46 (by decide +kernel)
theorem dL_law_590 : decode cL_law 590 = .ok (.aload_n 0, 1) := dk_42 (by decide +kernel)
theorem dL_law_591 : decode cL_law 591 = .ok (.iload_n 3, 1) := dk_29 (by decide +kernel)
theorem dL_law_592 : decode cL_law 592 = .ok (.iconst 4, 1) := dk_7 (by decide +kernel)
theorem dL_law_593 : decode cL_law 593 = .ok (.iadd, 1) := dk_96 (by decide +kernel)
theorem dL_law_594 : decode cL_law 594 = .ok (.iaload, 1) := dk_46 (by decide +kernel)
theorem dL_law_595 : decode cL_law 595 = .ok (.invokevirtual 59, 3) := dk_182 (by decide +kernel)
theorem dL_law_598 : decode cL_law 598 = .ok (.pop, 1) := dk_87 (by decide +kernel)
theorem dL_law_599 : decode cL_law 599 = .ok (.goto 876, 3) := dk_167 (by decide +kernel)
theorem dL_law_602 : decode cL_law 602 = .ok (.aload_n 1, 1) := dk_43 (by decide +kernel)
theorem dL_law_603 : decode cL_law 603 = .ok (.aload_n 0, 1) := dk_42 (by decide +kernel)
theorem dL_law_604 : decode cL_law 604 = .ok (.iload_n 3, 1) := dk_29 (by decide +kernel)
theorem dL_law_605 : decode cL_law 605 = .ok (.iconst 1, 1) := dk_4 (by decide +kernel)
theorem dL_law_606 : decode cL_law 606 = .ok (.iadd, 1) := dk_96 (by decide +kernel)
theorem dL_law_607 : decode cL_law 607 = .ok (.iaload, 1) := dk_46 (by decide +kernel)
theorem dL_law_608 : decode cL_law 608 = .ok (.invokevirtual 60, 3) := dk_182 (by decide +kernel)
theorem dL_law_611 : decode cL_law 611 = .ok (.pop, 1) := dk_87 (by decide +kernel)
theorem dL_law_612 : decode cL_law 612 = .ok (.aload_n 2, 1) := dk_44 (by decide +kernel)
theorem dL_law_613 : decode cL_law 613 = .ok (.aload_n 0, 1) := dk_42 (by decide +kernel)
theorem dL_law_614 : decode cL_law 614 = .ok (.iload_n 3, 1) := dk_29 (by decide +kernel)
theorem dL_law_615 : decode cL_law 615 = .ok (.iconst 1, 1) := dk_4 (by decide +kernel)
theorem dL_law_616 : decode cL_law 616 = .ok (.iadd, 1) := dk_96 (by decide +kernel)
theorem dL_law_617 : decode cL_law 617 = .ok (.iaload, 1) := dk_46 (by decide +kernel)
theorem dL_law_618 : decode cL_law 618 = .ok (.invokevirtual 63, 3) := dk_182 (by decide +kernel)
theorem dL_law_621 : decode cL_law 621 = .ok (.pop, 1) := dk_87 (by decide +kernel)
theorem dL_law_622 : decode cL_law 622 = .ok (.goto 853, 3) := dk_167 (by decide +kernel)
theorem dL_law_625 : decode cL_law 625 = .ok (.aload_n 1, 1) := dk_43 (by decide +kernel)
theorem dL_law_626 : decode cL_law 626 = .ok (.aload_n 0, 1) := dk_42 (by decide +kernel)
theorem dL_law_627 : decode cL_law 627 = .ok (.iload_n 3, 1) := dk_29 (by decide +kernel)
theorem dL_law_628 : decode cL_law 628 = .ok (.iconst 1, 1) := dk_4 (by decide +kernel)
theorem dL_law_629 : decode cL_law 629 = .ok (.iadd, 1) := dk_96 (by decide +kernel)
theorem dL_law_630 : decode cL_law 630 = .ok (.iaload, 1) := dk_46 (by decide +kernel)
theorem dL_law_631 : decode cL_law 631 = .ok (.invokevirtual 64, 3) := dk_182 (by decide +kernel)
theorem dL_law_634 : decode cL_law 634 = .ok (.pop, 1) := dk_87 (by decide +kernel)
theorem dL_law_635 : decode cL_law 635 = .ok (.aload_n 2, 1) := dk_44 (by decide +kernel)
theorem dL_law_636 : decode cL_law 636 = .ok (.aload_n 0, 1) := dk_42 (by decide +kernel)
theorem dL_law_637 : decode cL_law 637 = .ok (.iload_n 3, 1) := dk_29 (by decide +kernel)
theorem dL_law_638 : decode cL_law 638 = .ok (.iconst 1, 1) := dk_4 (by decide +kernel)
theorem dL_law_639 : decode cL_law 639 = .ok (.iadd, 1) := dk_96 (by decide +kernel)
theorem dL_law_640 : decode cL_law 640 = .ok (.iaload, 1) := dk_46 (by decide +kernel)
theorem dL_law_641 : decode cL_law 641 = .ok (.invokevirtual 67, 3) := dk_182 (by decide +kernel)
theorem dL_law_644 : decode cL_law 644 = .ok (.pop, 1) := dk_87 (by decide +kernel)
theorem dL_law_645 : decode cL_law 645 = .ok (.goto 830, 3) := dk_167 (by decide +kernel)
theorem dL_law_648 : decode cL_law 648 = .ok (.aload_n 1, 1) := dk_43 (by decide +kernel)
theorem dL_law_649 : decode cL_law 649 = .ok (.aload_n 0, 1) := dk_42 (by decide +kernel)
theorem dL_law_650 : decode cL_law 650 = .ok (.iload_n 3, 1) := dk_29 (by decide +kernel)
theorem dL_law_651 : decode cL_law 651 = .ok (.iconst 1, 1) := dk_4 (by decide +kernel)
theorem dL_law_652 : decode cL_law 652 = .ok (.iadd, 1) := dk_96 (by decide +kernel)
theorem dL_law_653 : decode cL_law 653 = .ok (.iaload, 1) := dk_46 (by decide +kernel)
theorem dL_law_654 : decode cL_law 654 = .ok (.aload_n 0, 1) := dk_42 (by decide +kernel)
theorem dL_law_655 : decode cL_law 655 = .ok (.iload_n 3, 1) := dk_29 (by decide +kernel)
theorem dL_law_656 : decode cL_law 656 = .ok (.iconst 2, 1) := dk_5 (by decide +kernel)
theorem dL_law_657 : decode cL_law 657 = .ok (.iadd, 1) := dk_96 (by decide +kernel)
theorem dL_law_658 : decode cL_law 658 = .ok (.iaload, 1) := dk_46 (by decide +kernel)
theorem dL_law_659 : decode cL_law 659 = .ok (.aload_n 0, 1) := dk_42 (by decide +kernel)
theorem dL_law_660 : decode cL_law 660 = .ok (.iload_n 3, 1) := dk_29 (by decide +kernel)
theorem dL_law_661 : decode cL_law 661 = .ok (.iconst 3, 1) := dk_6 (by decide +kernel)
theorem dL_law_662 : decode cL_law 662 = .ok (.iadd, 1) := dk_96 (by decide +kernel)
theorem dL_law_663 : decode cL_law 663 = .ok (.iaload, 1) := dk_46 (by decide +kernel)
theorem dL_law_664 : decode cL_law 664 = .ok (.invokevirtual 68, 3) := dk_182 (by decide +kernel)
theorem dL_law_667 : decode cL_law 667 = .ok (.pop, 1) := dk_87 (by decide +kernel)
theorem dL_law_668 : decode cL_law 668 = .ok (.aload_n 2, 1) := dk_44 (by decide +kernel)
theorem dL_law_669 : decode cL_law 669 = .ok (.aload_n 0, 1) := dk_42 (by decide +kernel)
theorem dL_law_670 : decode cL_law 670 = .ok (.iload_n 3, 1) := dk_29 (by decide +kernel)
theorem dL_law_671 : decode cL_law 671 = .ok (.iconst 1, 1) := dk_4 (by decide +kernel)
theorem dL_law_672 : decode cL_law 672 = .ok (.iadd, 1) := dk_96 (by decide +kernel)
theorem dL_law_673 : decode cL_law 673 = .ok (.iaload, 1) := dk_46 (by decide +kernel)
theorem dL_law_674 : decode cL_law 674 = .ok (.aload_n 0, 1) := dk_42 (by decide +kernel)
theorem dL_law_675 : decode cL_law 675 = .ok (.iload_n 3, 1) := dk_29 (by decide +kernel)
theorem dL_law_676 : decode cL_law 676 = .ok (.iconst 2, 1) := dk_5 (by decide +kernel)
theorem dL_law_677 : decode cL_law 677 = .ok (.iadd, 1) := dk_96 (by decide +kernel)
theorem dL_law_678 : decode cL_law 678 = .ok (.iaload, 1) := dk_46 (by decide +kernel)
theorem dL_law_679 : decode cL_law 679 = .ok (.aload_n 0, 1) := dk_42 (by decide +kernel)
theorem dL_law_680 : decode cL_law 680 = .ok (.iload_n 3, 1) := dk_29 (by decide +kernel)
theorem dL_law_681 : decode cL_law 681 = .ok (.iconst 3, 1) := dk_6 (by decide +kernel)
theorem dL_law_682 : decode cL_law 682 = .ok (.iadd, 1) := dk_96 (by decide +kernel)
theorem dL_law_683 : decode cL_law 683 = .ok (.iaload, 1) := dk_46 (by decide +kernel)
theorem dL_law_684 : decode cL_law 684 = .ok (.invokevirtual 71, 3) := dk_182 (by decide +kernel)
theorem dL_law_687 : decode cL_law 687 = .ok (.pop, 1) := dk_87 (by decide +kernel)
theorem dL_law_688 : decode cL_law 688 = .ok (.goto 787, 3) := dk_167 (by decide +kernel)
theorem dL_law_691 : decode cL_law 691 = .ok (.aload_n 1, 1) := dk_43 (by decide +kernel)
theorem dL_law_692 : decode cL_law 692 = .ok (.aload_n 0, 1) := dk_42 (by decide +kernel)
theorem dL_law_693 : decode cL_law 693 = .ok (.iload_n 3, 1) := dk_29 (by decide +kernel)
theorem dL_law_694 : decode cL_law 694 = .ok (.iconst 1, 1) := dk_4 (by decide +kernel)
theorem dL_law_695 : decode cL_law 695 = .ok (.iadd, 1) := dk_96 (by decide +kernel)
theorem dL_law_696 : decode cL_law 696 = .ok (.iaload, 1) := dk_46 (by decide +kernel)
theorem dL_law_697 : decode cL_law 697 = .ok (.invokevirtual 72, 3) := dk_182 (by decide +kernel)
theorem dL_law_700 : decode cL_law 700 = .ok (.pop, 1) := dk_87 (by decide +kernel)
theorem dL_law_701 : decode cL_law 701 = .ok (.aload_n 2, 1) := dk_44 (by decide +kernel)
theorem dL_law_702 : decode cL_law 702 = .ok (.aload_n 0, 1) := dk_42 (by decide +kernel)
theorem dL_law_703 : decode cL_law 703 = .ok (.iload_n 3, 1) := dk_29 (by decide +kernel)
theorem dL_law_704 : decode cL_law 704 = .ok (.iconst 1, 1) := dk_4 (by decide +kernel)
theorem dL_law_705 : decode cL_law 705 = .ok (.iadd, 1) := dk_96 (by decide +kernel)
theorem dL_law_706 : decode cL_law 706 = .ok (.iaload, 1) := dk_46 (by decide +kernel)
theorem dL_law_707 : decode cL_law 707 = .ok (.invokevirtual 75, 3) := dk_182 (by decide +kernel)
theorem dL_law_710 : decode cL_law 710 = .ok (.pop, 1) := dk_87 (by decide +kernel)
theorem dL_law_711 : decode cL_law 711 = .ok (.goto 764, 3) := dk_167 (by decide +kernel)
theorem dL_law_714 : decode cL_law 714 = .ok (.aload_n 1, 1) := dk_43 (by decide +kernel)
theorem dL_law_715 : decode cL_law 715 = .ok (.aload_n 0, 1) := dk_42 (by decide +kernel)
theorem dL_law_716 : decode cL_law 716 = .ok (.iload_n 3, 1) := dk_29 (by decide +kernel)
theorem dL_law_717 : decode cL_law 717 = .ok (.iconst 1, 1) := dk_4 (by decide +kernel)
theorem dL_law_718 : decode cL_law 718 = .ok (.iadd, 1) := dk_96 (by decide +kernel)
theorem dL_law_719 : decode cL_law 719 = .ok (.iaload, 1) := dk_46 (by decide +kernel)
theorem dL_law_720 : decode cL_law 720 = .ok (.invokevirtual 76, 3) := dk_182 (by decide +kernel)
theorem dL_law_723 : decode cL_law 723 = .ok (.pop, 1) := dk_87 (by decide +kernel)
theorem dL_law_724 : decode cL_law 724 = .ok (.aload_n 2, 1) := dk_44 (by decide +kernel)
theorem dL_law_725 : decode cL_law 725 = .ok (.aload_n 0, 1) := dk_42 (by decide +kernel)
theorem dL_law_726 : decode cL_law 726 = .ok (.iload_n 3, 1) := dk_29 (by decide +kernel)
theorem dL_law_727 : decode cL_law 727 = .ok (.iconst 1, 1) := dk_4 (by decide +kernel)
theorem dL_law_728 : decode cL_law 728 = .ok (.iadd, 1) := dk_96 (by decide +kernel)
theorem dL_law_729 : decode cL_law 729 = .ok (.iaload, 1) := dk_46 (by decide +kernel)
theorem dL_law_730 : decode cL_law 730 = .ok (.invokevirtual 79, 3) := dk_182 (by decide +kernel)
theorem dL_law_733 : decode cL_law 733 = .ok (.pop, 1) := dk_87 (by decide +kernel)
theorem dL_law_734 : decode cL_law 734 = .ok (.goto 741, 3) := dk_167 (by decide +kernel)
theorem dL_law_737 : decode cL_law 737 = .ok (.aload_n 1, 1) := dk_43 (by decide +kernel)
theorem dL_law_738 : decode cL_law 738 = .ok (.aload_n 0, 1) := dk_42 (by decide +kernel)
theorem dL_law_739 : decode cL_law 739 = .ok (.iload_n 3, 1) := dk_29 (by decide +kernel)
theorem dL_law_740 : decode cL_law 740 = .ok (.iconst 1, 1) := dk_4 (by decide +kernel)
theorem dL_law_741 : decode cL_law 741 = .ok (.iadd, 1) := dk_96 (by decide +kernel)
theorem dL_law_742 : decode cL_law 742 = .ok (.iaload, 1) := dk_46 (by decide +kernel)
theorem dL_law_743 : decode cL_law 743 = .ok (.aload_n 0, 1) := dk_42 (by decide +kernel)
theorem dL_law_744 : decode cL_law 744 = .ok (.iload_n 3, 1) := dk_29 (by decide +kernel)
theorem dL_law_745 : decode cL_law 745 = .ok (.iconst 2, 1) := dk_5 (by decide +kernel)
theorem dL_law_746 : decode cL_law 746 = .ok (.iadd, 1) := dk_96 (by decide +kernel)
theorem dL_law_747 : decode cL_law 747 = .ok (.iaload, 1) := dk_46 (by decide +kernel)
theorem dL_law_748 : decode cL_law 748 = .ok (.invokevirtual 80, 3) := dk_182 (by decide +kernel)
theorem dL_law_751 : decode cL_law 751 = .ok (.pop, 1) := dk_87 (by decide +kernel)
theorem dL_law_752 : decode cL_law 752 = .ok (.aload_n 2, 1) := dk_44 (by decide +kernel)
theorem dL_law_753 : decode cL_law 753 = .ok (.aload_n 0, 1) := dk_42 (by decide +kernel)
theorem dL_law_754 : decode cL_law 754 = .ok (.iload_n 3, 1) := dk_29 (by decide +kernel)
theorem dL_law_755 : decode cL_law 755 = .ok (.iconst 1, 1) := dk_4 (by decide +kernel)
theorem dL_law_756 : decode cL_law 756 = .ok (.iadd, 1) := dk_96 (by decide +kernel)
theorem dL_law_757 : decode cL_law 757 = .ok (.iaload, 1) := dk_46 (by decide +kernel)
theorem dL_law_758 : decode cL_law 758 = .ok (.aload_n 0, 1) := dk_42 (by decide +kernel)
theorem dL_law_759 : decode cL_law 759 = .ok (.iload_n 3, 1) := dk_29 (by decide +kernel)
theorem dL_law_760 : decode cL_law 760 = .ok (.iconst 2, 1) := dk_5 (by decide +kernel)
theorem dL_law_761 : decode cL_law 761 = .ok (.iadd, 1) := dk_96 (by decide +kernel)
theorem dL_law_762 : decode cL_law 762 = .ok (.iaload, 1) := dk_46 (by decide +kernel)
theorem dL_law_763 : decode cL_law 763 = .ok (.invokevirtual 83, 3) := dk_182 (by decide +kernel)
theorem dL_law_766 : decode cL_law 766 = .ok (.pop, 1) := dk_87 (by decide +kernel)
theorem dL_law_767 : decode cL_law 767 = .ok (.goto 708, 3) := dk_167 (by decide +kernel)
theorem dL_law_770 : decode cL_law 770 = .ok (.aload_n 1, 1) := dk_43 (by decide +kernel)
theorem dL_law_771 : decode cL_law 771 = .ok (.aload_n 0, 1) := dk_42 (by decide +kernel)
theorem dL_law_772 : decode cL_law 772 = .ok (.iload_n 3, 1) := dk_29 (by decide +kernel)
theorem dL_law_773 : decode cL_law 773 = .ok (.iconst 1, 1) := dk_4 (by decide +kernel)
theorem dL_law_774 : decode cL_law 774 = .ok (.iadd, 1) := dk_96 (by decide +kernel)
theorem dL_law_775 : decode cL_law 775 = .ok (.iaload, 1) := dk_46 (by decide +kernel)
theorem dL_law_776 : decode cL_law 776 = .ok (.aload_n 0, 1) := dk_42 (by decide +kernel)
theorem dL_law_777 : decode cL_law 777 = .ok (.iload_n 3, 1) := dk_29 (by decide +kernel)
theorem dL_law_778 : decode cL_law 778 = .ok (.iconst 2, 1) := dk_5 (by decide +kernel)
theorem dL_law_779 : decode cL_law 779 = .ok (.iadd, 1) := dk_96 (by decide +kernel)
theorem dL_law_780 : decode cL_law 780 = .ok (.iaload, 1) := dk_46 (by decide +kernel)
theorem dL_law_781 : decode cL_law 781 = .ok (.invokevirtual 84, 3) := dk_182 (by decide +kernel)
theorem dL_law_784 : decode cL_law 784 = .ok (.pop, 1) := dk_87 (by decide +kernel)
theorem dL_law_785 : decode cL_law 785 = .ok (.aload_n 2, 1) := dk_44 (by decide +kernel)
theorem dL_law_786 : decode cL_law 786 = .ok (.aload_n 0, 1) := dk_42 (by decide +kernel)
theorem dL_law_787 : decode cL_law 787 = .ok (.iload_n 3, 1) := dk_29 (by decide +kernel)
theorem dL_law_788 : decode cL_law 788 = .ok (.iconst 1, 1) := dk_4 (by decide +kernel)
theorem dL_law_789 : decode cL_law 789 = .ok (.iadd, 1) := dk_96 (by decide +kernel)
theorem dL_law_790 : decode cL_law 790 = .ok (.iaload, 1) := dk_46 (by decide +kernel)
theorem dL_law_791 : decode cL_law 791 = .ok (.aload_n 0, 1) := dk_42 (by decide +kernel)
theorem dL_law_792 : decode cL_law 792 = .ok (.iload_n 3, 1) := dk_29 (by decide +kernel)
theorem dL_law_793 : decode cL_law 793 = .ok (.iconst 2, 1) := dk_5 (by decide +kernel)
theorem dL_law_794 : decode cL_law 794 = .ok (.iadd, 1) := dk_96 (by decide +kernel)
theorem dL_law_795 : decode cL_law 795 = .ok (.iaload, 1) := dk_46 (by decide +kernel)
theorem dL_law_796 : decode cL_law 796 = .ok (.invokevirtual 87, 3) := dk_182 (by decide +kernel)
theorem dL_law_799 : decode cL_law 799 = .ok (.pop, 1) := dk_87 (by decide +kernel)
theorem dL_law_800 : decode cL_law 800 = .ok (.goto 675, 3) := dk_167 (by decide +kernel)
theorem dL_law_803 : decode cL_law 803 = .ok (.aload_n 1, 1) := dk_43 (by decide +kernel)
theorem dL_law_804 : decode cL_law 804 = .ok (.aload_n 0, 1) := dk_42 (by decide +kernel)
theorem dL_law_805 : decode cL_law 805 = .ok (.iload_n 3, 1) := dk_29 (by decide +kernel)
theorem dL_law_806 : decode cL_law 806 = .ok (.iconst 1, 1) := dk_4 (by decide +kernel)
theorem dL_law_807 : decode cL_law 807 = .ok (.iadd, 1) := dk_96 (by decide +kernel)
theorem dL_law_808 : decode cL_law 808 = .ok (.iaload, 1) := dk_46 (by decide +kernel)
theorem dL_law_809 : decode cL_law 809 = .ok (.aload_n 0, 1) := dk_42 (by decide +kernel)
theorem dL_law_810 : decode cL_law 810 = .ok (.iload_n 3, 1) := dk_29 (by decide +kernel)
theorem dL_law_811 : decode cL_law 811 = .ok (.iconst 2, 1) := dk_5 (by decide +kernel)
theorem dL_law_812 : decode cL_law 812 = .ok (.iadd, 1) := dk_96 (by decide +kernel)
theorem dL_law_813 : decode cL_law 813 = .ok (.iaload, 1) := dk_46 (by decide +kernel)
theorem dL_law_814 : decode cL_law 814 = .ok (.invokevirtual 88, 3) := dk_182 (by decide +kernel)
theorem dL_law_817 : decode cL_law 817 = .ok (.pop, 1) := dk_87 (by decide +kernel)
theorem dL_law_818 : decode cL_law 818 = .ok (.aload_n 2, 1) := dk_44 (by decide +kernel)
theorem dL_law_819 : decode cL_law 819 = .ok (.aload_n 0, 1) := dk_42 (by decide +kernel)
theorem dL_law_820 : decode cL_law 820 = .ok (.iload_n 3, 1) := dk_29 (by decide +kernel)
theorem dL_law_821 : decode cL_law 821 = .ok (.iconst 1, 1) := dk_4 (by decide +kernel)
theorem dL_law_822 : decode cL_law 822 = .ok (.iadd, 1) := dk_96 (by decide +kernel)
theorem dL_law_823 : decode cL_law 823 = .ok (.iaload, 1) := dk_46 (by decide +kernel)
theorem dL_law_824 : decode cL_law 824 = .ok (.aload_n 0, 1) := dk_42 (by decide +kernel)
theorem dL_law_825 : decode cL_law 825 = .ok (.iload_n 3, 1) := dk_29 (by decide +kernel)
theorem dL_law_826 : decode cL_law 826 = .ok (.iconst 2, 1) := dk_5 (by decide +kernel)
theorem dL_law_827 : decode cL_law 827 = .ok (.iadd, 1) := dk_96 (by decide +kernel)
theorem dL_law_828 : decode cL_law 828 = .ok (.iaload, 1) := dk_46 (by decide +kernel)
theorem dL_law_829 : decode cL_law 829 = .ok (.invokevirtual 91, 3) := dk_182 (by decide +kernel)
theorem dL_law_832 : decode cL_law 832 = .ok (.pop, 1) := dk_87 (by decide +kernel)
theorem dL_law_833 : decode cL_law 833 = .ok (.goto 642, 3) := dk_167 (by decide +kernel)
theorem dL_law_836 : decode cL_law 836 = .ok (.aload_n 1, 1) := dk_43 (by decide +kernel)
theorem dL_law_837 : decode cL_law 837 = .ok (.aload_n 0, 1) := dk_42 (by decide +kernel)
theorem dL_law_838 : decode cL_law 838 = .ok (.iload_n 3, 1) := dk_29 (by decide +kernel)
theorem dL_law_839 : decode cL_law 839 = .ok (.iconst 1, 1) := dk_4 (by decide +kernel)
theorem dL_law_840 : decode cL_law 840 = .ok (.iadd, 1) := dk_96 (by decide +kernel)
theorem dL_law_841 : decode cL_law 841 = .ok (.iaload, 1) := dk_46 (by decide +kernel)
theorem dL_law_842 : decode cL_law 842 = .ok (.aload_n 0, 1) := dk_42 (by decide +kernel)
theorem dL_law_843 : decode cL_law 843 = .ok (.iload_n 3, 1) := dk_29 (by decide +kernel)
theorem dL_law_844 : decode cL_law 844 = .ok (.iconst 2, 1) := dk_5 (by decide +kernel)
theorem dL_law_845 : decode cL_law 845 = .ok (.iadd, 1) := dk_96 (by decide +kernel)
theorem dL_law_846 : decode cL_law 846 = .ok (.iaload, 1) := dk_46 (by decide +kernel)
theorem dL_law_847 : decode cL_law 847 = .ok (.invokevirtual 92, 3) := dk_182 (by decide +kernel)
theorem dL_law_850 : decode cL_law 850 = .ok (.pop, 1) := dk_87 (by decide +kernel)
theorem dL_law_851 : decode cL_law 851 = .ok (.aload_n 2, 1) := dk_44 (by decide +kernel)
theorem dL_law_852 : decode cL_law 852 = .ok (.aload_n 0, 1) := dk_42 (by decide +kernel)
theorem dL_law_853 : decode cL_law 853 = .ok (.iload_n 3, 1) := dk_29 (by decide +kernel)
theorem dL_law_854 : decode cL_law 854 = .ok (.iconst 1, 1) := dk_4 (by decide +kernel)
theorem dL_law_855 : decode cL_law 855 = .ok (.iadd, 1) := dk_96 (by decide +kernel)
theorem dL_law_856 : decode cL_law 856 = .ok (.iaload, 1) := dk_46 (by decide +kernel)
theorem dL_law_857 : decode cL_law 857 = .ok (.aload_n 0, 1) := dk_42 (by decide +kernel)
theorem dL_law_858 : decode cL_law 858 = .ok (.iload_n 3, 1) := dk_29 (by decide +kernel)
theorem dL_law_859 : decode cL_law 859 = .ok (.iconst 2, 1) := dk_5 (by decide +kernel)
theorem dL_law_860 : decode cL_law 860 = .ok (.iadd, 1) := dk_96 (by decide +kernel)
theorem dL_law_861 : decode cL_law 861 = .ok (.iaload, 1) := dk_46 (by decide +kernel)
theorem dL_law_862 : decode cL_law 862 = .ok (.invokevirtual 95, 3) := dk_182 (by decide +kernel)
theorem dL_law_865 : decode cL_law 865 = .ok (.pop, 1) := dk_87 (by decide +kernel)
theorem dL_law_866 : decode cL_law 866 = .ok (.goto 609, 3) := dk_167 (by decide +kernel)
theorem dL_law_869 : decode cL_law 869 = .ok (.aload_n 1, 1) := dk_43 (by decide +kernel)
theorem dL_law_870 : decode cL_law 870 = .ok (.aload_n 0, 1) := dk_42 (by decide +kernel)
theorem dL_law_871 : decode cL_law 871 = .ok (.iload_n 3, 1) := dk_29 (by decide +kernel)
theorem dL_law_872 : decode cL_law 872 = .ok (.iconst 1, 1) := dk_4 (by decide +kernel)
theorem dL_law_873 : decode cL_law 873 = .ok (.iadd, 1) := dk_96 (by decide +kernel)
theorem dL_law_874 : decode cL_law 874 = .ok (.iaload, 1) := dk_46 (by decide +kernel)
theorem dL_law_875 : decode cL_law 875 = .ok (.aload_n 0, 1) := dk_42 (by decide +kernel)
theorem dL_law_876 : decode cL_law 876 = .ok (.iload_n 3, 1) := dk_29 (by decide +kernel)
theorem dL_law_877 : decode cL_law 877 = .ok (.iconst 2, 1) := dk_5 (by decide +kernel)
theorem dL_law_878 : decode cL_law 878 = .ok (.iadd, 1) := dk_96 (by decide +kernel)
theorem dL_law_879 : decode cL_law 879 = .ok (.iaload, 1) := dk_46 (by decide +kernel)
theorem dL_law_880 : decode cL_law 880 = .ok (.invokevirtual 96, 3) := dk_182 (by decide +kernel)
theorem dL_law_883 : decode cL_law 883 = .ok (.pop, 1) := dk_87 (by decide +kernel)
theorem dL_law_884 : decode cL_law 884 = .ok (.aload_n 2, 1) := dk_44 (by decide +kernel)
theorem dL_law_885 : decode cL_law 885 = .ok (.aload_n 0, 1) := dk_42 (by decide +kernel)
theorem dL_law_886 : decode cL_law 886 = .ok (.iload_n 3, 1) := dk_29 (by decide +kernel)
theorem dL_law_887 : decode cL_law 887 = .ok (.iconst 1, 1) := dk_4 (by decide +kernel)
theorem dL_law_888 : decode cL_law 888 = .ok (.iadd, 1) := dk_96 (by decide +kernel)
theorem dL_law_889 : decode cL_law 889 = .ok (.iaload, 1) := dk_46 (by decide +kernel)
theorem dL_law_890 : decode cL_law 890 = .ok (.aload_n 0, 1) := dk_42 (by decide +kernel)
theorem dL_law_891 : decode cL_law 891 = .ok (.iload_n 3, 1) := dk_29 (by decide +kernel)
theorem dL_law_892 : decode cL_law 892 = .ok (.iconst 2, 1) := dk_5 (by decide +kernel)
theorem dL_law_893 : decode cL_law 893 = .ok (.iadd, 1) := dk_96 (by decide +kernel)
theorem dL_law_894 : decode cL_law 894 = .ok (.iaload, 1) := dk_46 (by decide +kernel)
theorem dL_law_895 : decode cL_law 895 = .ok (.invokevirtual 99, 3) := dk_182 (by decide +kernel)
theorem dL_law_898 : decode cL_law 898 = .ok (.pop, 1) := dk_87 (by decide +kernel)
theorem dL_law_899 : decode cL_law 899 = .ok (.goto 576, 3) := dk_167 (by decide +kernel)
theorem dL_law_902 : decode cL_law 902 = .ok (.aload_n 1, 1) := dk_43 (by decide +kernel)
theorem dL_law_903 : decode cL_law 903 = .ok (.aload_n 0, 1) := dk_42 (by decide +kernel)
theorem dL_law_904 : decode cL_law 904 = .ok (.iload_n 3, 1) := dk_29 (by decide +kernel)
theorem dL_law_905 : decode cL_law 905 = .ok (.iconst 1, 1) := dk_4 (by decide +kernel)
theorem dL_law_906 : decode cL_law 906 = .ok (.iadd, 1) := dk_96 (by decide +kernel)
theorem dL_law_907 : decode cL_law 907 = .ok (.iaload, 1) := dk_46 (by decide +kernel)
theorem dL_law_908 : decode cL_law 908 = .ok (.invokevirtual 100, 3) := dk_182 (by decide +kernel)
theorem dL_law_911 : decode cL_law 911 = .ok (.pop, 1) := dk_87 (by decide +kernel)
theorem dL_law_912 : decode cL_law 912 = .ok (.aload_n 2, 1) := dk_44 (by decide +kernel)
theorem dL_law_913 : decode cL_law 913 = .ok (.aload_n 0, 1) := dk_42 (by decide +kernel)
theorem dL_law_914 : decode cL_law 914 = .ok (.iload_n 3, 1) := dk_29 (by decide +kernel)
theorem dL_law_915 : decode cL_law 915 = .ok (.iconst 1, 1) := dk_4 (by decide +kernel)
theorem dL_law_916 : decode cL_law 916 = .ok (.iadd, 1) := dk_96 (by decide +kernel)
theorem dL_law_917 : decode cL_law 917 = .ok (.iaload, 1) := dk_46 (by decide +kernel)
theorem dL_law_918 : decode cL_law 918 = .ok (.invokevirtual 103, 3) := dk_182 (by decide +kernel)
theorem dL_law_921 : decode cL_law 921 = .ok (.pop, 1) := dk_87 (by decide +kernel)
theorem dL_law_922 : decode cL_law 922 = .ok (.goto 553, 3) := dk_167 (by decide +kernel)
theorem dL_law_925 : decode cL_law 925 = .ok (.aload_n 1, 1) := dk_43 (by decide +kernel)
theorem dL_law_926 : decode cL_law 926 = .ok (.aload_n 0, 1) := dk_42 (by decide +kernel)
theorem dL_law_927 : decode cL_law 927 = .ok (.iload_n 3, 1) := dk_29 (by decide +kernel)
theorem dL_law_928 : decode cL_law 928 = .ok (.iconst 1, 1) := dk_4 (by decide +kernel)
theorem dL_law_929 : decode cL_law 929 = .ok (.iadd, 1) := dk_96 (by decide +kernel)
theorem dL_law_930 : decode cL_law 930 = .ok (.iaload, 1) := dk_46 (by decide +kernel)
theorem dL_law_931 : decode cL_law 931 = .ok (.aload_n 0, 1) := dk_42 (by decide +kernel)
theorem dL_law_932 : decode cL_law 932 = .ok (.iload_n 3, 1) := dk_29 (by decide +kernel)
theorem dL_law_933 : decode cL_law 933 = .ok (.iconst 2, 1) := dk_5 (by decide +kernel)
theorem dL_law_934 : decode cL_law 934 = .ok (.iadd, 1) := dk_96 (by decide +kernel)
theorem dL_law_935 : decode cL_law 935 = .ok (.iaload, 1) := dk_46 (by decide +kernel)
theorem dL_law_936 : decode cL_law 936 = .ok (.invokevirtual 104, 3) := dk_182 (by decide +kernel)
theorem dL_law_939 : decode cL_law 939 = .ok (.pop, 1) := dk_87 (by decide +kernel)
theorem dL_law_940 : decode cL_law 940 = .ok (.aload_n 2, 1) := dk_44 (by decide +kernel)
theorem dL_law_941 : decode cL_law 941 = .ok (.aload_n 0, 1) := dk_42 (by decide +kernel)
theorem dL_law_942 : decode cL_law 942 = .ok (.iload_n 3, 1) := dk_29 (by decide +kernel)
theorem dL_law_943 : decode cL_law 943 = .ok (.iconst 1, 1) := dk_4 (by decide +kernel)
theorem dL_law_944 : decode cL_law 944 = .ok (.iadd, 1) := dk_96 (by decide +kernel)
theorem dL_law_945 : decode cL_law 945 = .ok (.iaload, 1) := dk_46 (by decide +kernel)
theorem dL_law_946 : decode cL_law 946 = .ok (.aload_n 0, 1) := dk_42 (by decide +kernel)
theorem dL_law_947 : decode cL_law 947 = .ok (.iload_n 3, 1) := dk_29 (by decide +kernel)
theorem dL_law_948 : decode cL_law 948 = .ok (.iconst 2, 1) := dk_5 (by decide +kernel)
theorem dL_law_949 : decode cL_law 949 = .ok (.iadd, 1) := dk_96 (by decide +kernel)
theorem dL_law_950 : decode cL_law 950 = .ok (.iaload, 1) := dk_46 (by decide +kernel)
theorem dL_law_951 : decode cL_law 951 = .ok (.invokevirtual 107, 3) := dk_182 (by decide +kernel)
theorem dL_law_954 : decode cL_law 954 = .ok (.pop, 1) := dk_87 (by decide +kernel)
theorem dL_law_955 : decode cL_law 955 = .ok (.goto 520, 3) := dk_167 (by decide +kernel)
theorem dL_law_958 : decode cL_law 958 = .ok (.aload_n 1, 1) := dk_43 (by decide +kernel)
theorem dL_law_959 : decode cL_law 959 = .ok (.aload_n 0, 1) := dk_42 (by decide +kernel)
theorem dL_law_960 : decode cL_law 960 = .ok (.iload_n 3, 1) := dk_29 (by decide +kernel)
theorem dL_law_961 : decode cL_law 961 = .ok (.iconst 1, 1) := dk_4 (by decide +kernel)
theorem dL_law_962 : decode cL_law 962 = .ok (.iadd, 1) := dk_96 (by decide +kernel)
theorem dL_law_963 : decode cL_law 963 = .ok (.iaload, 1) := dk_46 (by decide +kernel)
theorem dL_law_964 : decode cL_law 964 = .ok (.invokevirtual 108, 3) := dk_182 (by decide +kernel)
theorem dL_law_967 : decode cL_law 967 = .ok (.pop, 1) := dk_87 (by decide +kernel)
theorem dL_law_968 : decode cL_law 968 = .ok (.aload_n 2, 1) := dk_44 (by decide +kernel)
theorem dL_law_969 : decode cL_law 969 = .ok (.aload_n 0, 1) := dk_42 (by decide +kernel)
theorem dL_law_970 : decode cL_law 970 = .ok (.iload_n 3, 1) := dk_29 (by decide +kernel)
theorem dL_law_971 : decode cL_law 971 = .ok (.iconst 1, 1) := dk_4 (by decide +kernel)
theorem dL_law_972 : decode cL_law 972 = .ok (.iadd, 1) := dk_96 (by decide +kernel)
theorem dL_law_973 : decode cL_law 973 = .ok (.iaload, 1) := dk_46 (by decide +kernel)
theorem dL_law_974 : decode cL_law 974 = .ok (.invokevirtual 111, 3) := dk_182 (by decide +kernel)
theorem dL_law_977 : decode cL_law 977 = .ok (.pop, 1) := dk_87 (by decide +kernel)
theorem dL_law_978 : decode cL_law 978 = .ok (.goto 497, 3) := dk_167 (by decide +kernel)
theorem dL_law_981 : decode cL_law 981 = .ok (.aload_n 1, 1) := dk_43 (by decide +kernel)
theorem dL_law_982 : decode cL_law 982 = .ok (.aload_n 0, 1) := dk_42 (by decide +kernel)
theorem dL_law_983 : decode cL_law 983 = .ok (.iload_n 3, 1) := dk_29 (by decide +kernel)
theorem dL_law_984 : decode cL_law 984 = .ok (.iconst 1, 1) := dk_4 (by decide +kernel)
theorem dL_law_985 : decode cL_law 985 = .ok (.iadd, 1) := dk_96 (by decide +kernel)
theorem dL_law_986 : decode cL_law 986 = .ok (.iaload, 1) := dk_46 (by decide +kernel)
theorem dL_law_987 : decode cL_law 987 = .ok (.invokevirtual 112, 3) := dk_182 (by decide +kernel)
theorem dL_law_990 : decode cL_law 990 = .ok (.pop, 1) := dk_87 (by decide +kernel)
theorem dL_law_991 : decode cL_law 991 = .ok (.aload_n 2, 1) := dk_44 (by decide +kernel)
theorem dL_law_992 : decode cL_law 992 = .ok (.aload_n 0, 1) := dk_42 (by decide +kernel)
theorem dL_law_993 : decode cL_law 993 = .ok (.iload_n 3, 1) := dk_29 (by decide +kernel)
theorem dL_law_994 : decode cL_law 994 = .ok (.iconst 1, 1) := dk_4 (by decide +kernel)
theorem dL_law_995 : decode cL_law 995 = .ok (.iadd, 1) := dk_96 (by decide +kernel)
theorem dL_law_996 : decode cL_law 996 = .ok (.iaload, 1) := dk_46 (by decide +kernel)
theorem dL_law_997 : decode cL_law 997 = .ok (.invokevirtual 115, 3) := dk_182 (by decide +kernel)
theorem dL_law_1000 : decode cL_law 1000 = .ok (.pop, 1) := dk_87 (by decide +kernel)
theorem dL_law_1001 : decode cL_law 1001 = .ok (.goto 474, 3) := dk_167 (by decide +kernel)
theorem dL_law_1004 : decode cL_law 1004 = .ok (.aload_n 1, 1) := dk_43 (by decide +kernel)
theorem dL_law_1005 : decode cL_law 1005 = .ok (.aload_n 0, 1) := dk_42 (by decide +kernel)
theorem dL_law_1006 : decode cL_law 1006 = .ok (.iload_n 3, 1) := dk_29 (by decide +kernel)
theorem dL_law_1007 : decode cL_law 1007 = .ok (.iconst 1, 1) := dk_4 (by decide +kernel)
theorem dL_law_1008 : decode cL_law 1008 = .ok (.iadd, 1) := dk_96 (by decide +kernel)
theorem dL_law_1009 : decode cL_law 1009 = .ok (.iaload, 1) := dk_46 (by decide +kernel)
theorem dL_law_1010 : decode cL_law 1010 = .ok (.invokevirtual 116, 3) := dk_182 (by decide +kernel)
theorem dL_law_1013 : decode cL_law 1013 = .ok (.pop, 1) := dk_87 (by decide +kernel)
theorem dL_law_1014 : decode cL_law 1014 = .ok (.aload_n 2, 1) := dk_44 (by decide +kernel)
theorem dL_law_1015 : decode cL_law 1015 = .ok (.aload_n 0, 1) := dk_42 (by decide +kernel)
theorem dL_law_1016 : decode cL_law 1016 = .ok (.iload_n 3, 1) := dk_29 (by decide +kernel)
theorem dL_law_1017 : decode cL_law 1017 = .ok (.iconst 1, 1) := dk_4 (by decide +kernel)
theorem dL_law_1018 : decode cL_law 1018 = .ok (.iadd, 1) := dk_96 (by decide +kernel)
theorem dL_law_1019 : decode cL_law 1019 = .ok (.iaload, 1) := dk_46 (by decide +kernel)
theorem dL_law_1020 : decode cL_law 1020 = .ok (.invokevirtual 119, 3) := dk_182 (by decide +kernel)
theorem dL_law_1023 : decode cL_law 1023 = .ok (.pop, 1) := dk_87 (by decide +kernel)
theorem dL_law_1024 : decode cL_law 1024 = .ok (.goto 451, 3) := dk_167 (by decide +kernel)
theorem dL_law_1027 : decode cL_law 1027 = .ok (.aload_n 1, 1) := dk_43 (by decide +kernel)
theorem dL_law_1028 : decode cL_law 1028 = .ok (.invokevirtual 120, 3) := dk_182 (by decide +kernel)
theorem dL_law_1031 : decode cL_law 1031 = .ok (.pop, 1) := dk_87 (by decide +kernel)
theorem dL_law_1032 : decode cL_law 1032 = .ok (.aload_n 2, 1) := dk_44 (by decide +kernel)
theorem dL_law_1033 : decode cL_law 1033 = .ok (.invokevirtual 124, 3) := dk_182 (by decide +kernel)
theorem dL_law_1036 : decode cL_law 1036 = .ok (.pop, 1) := dk_87 (by decide +kernel)
theorem dL_law_1037 : decode cL_law 1037 = .ok (.goto 438, 3) := dk_167 (by decide +kernel)
theorem dL_law_1040 : decode cL_law 1040 = .ok (.aload_n 1, 1) := dk_43 (by decide +kernel)
theorem dL_law_1041 : decode cL_law 1041 = .ok (.aload_n 0, 1) := dk_42 (by decide +kernel)
theorem dL_law_1042 : decode cL_law 1042 = .ok (.iload_n 3, 1) := dk_29 (by decide +kernel)
theorem dL_law_1043 : decode cL_law 1043 = .ok (.iconst 1, 1) := dk_4 (by decide +kernel)
theorem dL_law_1044 : decode cL_law 1044 = .ok (.iadd, 1) := dk_96 (by decide +kernel)
theorem dL_law_1045 : decode cL_law 1045 = .ok (.iaload, 1) := dk_46 (by decide +kernel)
theorem dL_law_1046 : decode cL_law 1046 = .ok (.aload_n 0, 1) := dk_42 (by decide +kernel)
theorem dL_law_1047 : decode cL_law 1047 = .ok (.iload_n 3, 1) := dk_29 (by decide +kernel)
theorem dL_law_1048 : decode cL_law 1048 = .ok (.iconst 2, 1) := dk_5 (by decide +kernel)
theorem dL_law_1049 : decode cL_law 1049 = .ok (.iadd, 1) := dk_96 (by decide +kernel)
theorem dL_law_1050 : decode cL_law 1050 = .ok (.iaload, 1) := dk_46 (by decide +kernel)
theorem dL_law_1051 : decode cL_law 1051 = .ok (.aload_n 0, 1) := dk_42 (by decide +kernel)
theorem dL_law_1052 : decode cL_law 1052 = .ok (.iload_n 3, 1) := dk_29 (by decide +kernel)
theorem dL_law_1053 : decode cL_law 1053 = .ok (.iconst 3, 1) := dk_6 (by decide +kernel)
theorem dL_law_1054 : decode cL_law 1054 = .ok (.iadd, 1) := dk_96 (by decide +kernel)
theorem dL_law_1055 : decode cL_law 1055 = .ok (.iaload, 1) := dk_46 (by decide +kernel)
theorem dL_law_1056 : decode cL_law 1056 = .ok (.invokevirtual 125, 3) := dk_182 (by decide +kernel)
theorem dL_law_1059 : decode cL_law 1059 = .ok (.pop, 1) := dk_87 (by decide +kernel)
theorem dL_law_1060 : decode cL_law 1060 = .ok (.aload_n 2, 1) := dk_44 (by decide +kernel)
theorem dL_law_1061 : decode cL_law 1061 = .ok (.aload_n 0, 1) := dk_42 (by decide +kernel)
theorem dL_law_1062 : decode cL_law 1062 = .ok (.iload_n 3, 1) := dk_29 (by decide +kernel)
theorem dL_law_1063 : decode cL_law 1063 = .ok (.iconst 1, 1) := dk_4 (by decide +kernel)
theorem dL_law_1064 : decode cL_law 1064 = .ok (.iadd, 1) := dk_96 (by decide +kernel)
theorem dL_law_1065 : decode cL_law 1065 = .ok (.iaload, 1) := dk_46 (by decide +kernel)
theorem dL_law_1066 : decode cL_law 1066 = .ok (.aload_n 0, 1) := dk_42 (by decide +kernel)
theorem dL_law_1067 : decode cL_law 1067 = .ok (.iload_n 3, 1) := dk_29 (by decide +kernel)
theorem dL_law_1068 : decode cL_law 1068 = .ok (.iconst 2, 1) := dk_5 (by decide +kernel)
theorem dL_law_1069 : decode cL_law 1069 = .ok (.iadd, 1) := dk_96 (by decide +kernel)
theorem dL_law_1070 : decode cL_law 1070 = .ok (.iaload, 1) := dk_46 (by decide +kernel)
theorem dL_law_1071 : decode cL_law 1071 = .ok (.aload_n 0, 1) := dk_42 (by decide +kernel)
theorem dL_law_1072 : decode cL_law 1072 = .ok (.iload_n 3, 1) := dk_29 (by decide +kernel)
theorem dL_law_1073 : decode cL_law 1073 = .ok (.iconst 3, 1) := dk_6 (by decide +kernel)
theorem dL_law_1074 : decode cL_law 1074 = .ok (.iadd, 1) := dk_96 (by decide +kernel)
theorem dL_law_1075 : decode cL_law 1075 = .ok (.iaload, 1) := dk_46 (by decide +kernel)
theorem dL_law_1076 : decode cL_law 1076 = .ok (.invokevirtual 128, 3) := dk_182 (by decide +kernel)
theorem dL_law_1079 : decode cL_law 1079 = .ok (.pop, 1) := dk_87 (by decide +kernel)
theorem dL_law_1080 : decode cL_law 1080 = .ok (.goto 395, 3) := dk_167 (by decide +kernel)
theorem dL_law_1083 : decode cL_law 1083 = .ok (.aload_n 1, 1) := dk_43 (by decide +kernel)
theorem dL_law_1084 : decode cL_law 1084 = .ok (.aload_n 0, 1) := dk_42 (by decide +kernel)
theorem dL_law_1085 : decode cL_law 1085 = .ok (.iload_n 3, 1) := dk_29 (by decide +kernel)
theorem dL_law_1086 : decode cL_law 1086 = .ok (.iconst 1, 1) := dk_4 (by decide +kernel)
theorem dL_law_1087 : decode cL_law 1087 = .ok (.iadd, 1) := dk_96 (by decide +kernel)
theorem dL_law_1088 : decode cL_law 1088 = .ok (.iaload, 1) := dk_46 (by decide +kernel)
theorem dL_law_1089 : decode cL_law 1089 = .ok (.invokevirtual 129, 3) := dk_182 (by decide +kernel)
theorem dL_law_1092 : decode cL_law 1092 = .ok (.pop, 1) := dk_87 (by decide +kernel)
theorem dL_law_1093 : decode cL_law 1093 = .ok (.aload_n 2, 1) := dk_44 (by decide +kernel)
theorem dL_law_1094 : decode cL_law 1094 = .ok (.aload_n 0, 1) := dk_42 (by decide +kernel)
theorem dL_law_1095 : decode cL_law 1095 = .ok (.iload_n 3, 1) := dk_29 (by decide +kernel)
theorem dL_law_1096 : decode cL_law 1096 = .ok (.iconst 1, 1) := dk_4 (by decide +kernel)
theorem dL_law_1097 : decode cL_law 1097 = .ok (.iadd, 1) := dk_96 (by decide +kernel)
theorem dL_law_1098 : decode cL_law 1098 = .ok (.iaload, 1) := dk_46 (by decide +kernel)
theorem dL_law_1099 : decode cL_law 1099 = .ok (.invokevirtual 132, 3) := dk_182 (by decide +kernel)
theorem dL_law_1102 : decode cL_law 1102 = .ok (.pop, 1) := dk_87 (by decide +kernel)
theorem dL_law_1103 : decode cL_law 1103 = .ok (.goto 372, 3) := dk_167 (by decide +kernel)
theorem dL_law_1106 : decode cL_law 1106 = .ok (.aload_n 1, 1) := dk_43 (by decide +kernel)
theorem dL_law_1107 : decode cL_law 1107 = .ok (.aload_n 0, 1) := dk_42 (by decide +kernel)
theorem dL_law_1108 : decode cL_law 1108 = .ok (.iload_n 3, 1) := dk_29 (by decide +kernel)
theorem dL_law_1109 : decode cL_law 1109 = .ok (.iconst 1, 1) := dk_4 (by decide +kernel)
theorem dL_law_1110 : decode cL_law 1110 = .ok (.iadd, 1) := dk_96 (by decide +kernel)
theorem dL_law_1111 : decode cL_law 1111 = .ok (.iaload, 1) := dk_46 (by decide +kernel)
theorem dL_law_1112 : decode cL_law 1112 = .ok (.aload_n 0, 1) := dk_42 (by decide +kernel)
theorem dL_law_1113 : decode cL_law 1113 = .ok (.iload_n 3, 1) := dk_29 (by decide +kernel)
theorem dL_law_1114 : decode cL_law 1114 = .ok (.iconst 2, 1) := dk_5 (by decide +kernel)
theorem dL_law_1115 : decode cL_law 1115 = .ok (.iadd, 1) := dk_96 (by decide +kernel)
theorem dL_law_1116 : decode cL_law 1116 = .ok (.iaload, 1) := dk_46 (by decide +kernel)
theorem dL_law_1117 : decode cL_law 1117 = .ok (.aload_n 0, 1) := dk_42 (by decide +kernel)
theorem dL_law_1118 : decode cL_law 1118 = .ok (.iload_n 3, 1) := dk_29 (by decide +kernel)
theorem dL_law_1119 : decode cL_law 1119 = .ok (.iconst 3, 1) := dk_6 (by decide +kernel)
theorem dL_law_1120 : decode cL_law 1120 = .ok (.iadd, 1) := dk_96 (by decide +kernel)
theorem dL_law_1121 : decode cL_law 1121 = .ok (.iaload, 1) := dk_46 (by decide +kernel)
theorem dL_law_1122 : decode cL_law 1122 = .ok (.invokevirtual 133, 3) := dk_182 (by decide +kernel)
theorem dL_law_1125 : decode cL_law 1125 = .ok (.pop, 1) := dk_87 (by decide +kernel)
theorem dL_law_1126 : decode cL_law 1126 = .ok (.aload_n 2, 1) := dk_44 (by decide +kernel)
theorem dL_law_1127 : decode cL_law 1127 = .ok (.aload_n 0, 1) := dk_42 (by decide +kernel)
theorem dL_law_1128 : decode cL_law 1128 = .ok (.iload_n 3, 1) := dk_29 (by decide +kernel)
theorem dL_law_1129 : decode cL_law 1129 = .ok (.iconst 1, 1) := dk_4 (by decide +kernel)
theorem dL_law_1130 : decode cL_law 1130 = .ok (.iadd, 1) := dk_96 (by decide +kernel)
theorem dL_law_1131 : decode cL_law 1131 = .ok (.iaload, 1) := dk_46 (by decide +kernel)
theorem dL_law_1132 : decode cL_law 1132 = .ok (.aload_n 0, 1) := dk_42 (by decide +kernel)
theorem dL_law_1133 : decode cL_law 1133 = .ok (.iload_n 3, 1) := dk_29 (by decide +kernel)
theorem dL_law_1134 : decode cL_law 1134 = .ok (.iconst 2, 1) := dk_5 (by decide +kernel)
theorem dL_law_1135 : decode cL_law 1135 = .ok (.iadd, 1) := dk_96 (by decide +kernel)
theorem dL_law_1136 : decode cL_law 1136 = .ok (.iaload, 1) := dk_46 (by decide +kernel)
theorem dL_law_1137 : decode cL_law 1137 = .ok (.aload_n 0, 1) := dk_42 (by decide +kernel)
theorem dL_law_1138 : decode cL_law 1138 = .ok (.iload_n 3, 1) := dk_29 (by decide +kernel)
theorem dL_law_1139 : decode cL_law 1139 = .ok (.iconst 3, 1) := dk_6 (by decide +kernel)
theorem dL_law_1140 : decode cL_law 1140 = .ok (.iadd, 1) := dk_96 (by decide +kernel)
theorem dL_law_1141 : decode cL_law 1141 = .ok (.iaload, 1) := dk_46 (by decide +kernel)
theorem dL_law_1142 : decode cL_law 1142 = .ok (.invokevirtual 136, 3) := dk_182 (by decide +kernel)
theorem dL_law_1145 : decode cL_law 1145 = .ok (.pop, 1) := dk_87 (by decide +kernel)
theorem dL_law_1146 : decode cL_law 1146 = .ok (.goto 329, 3) := dk_167 (by decide +kernel)
theorem dL_law_1149 : decode cL_law 1149 = .ok (.aload_n 1, 1) := dk_43 (by decide +kernel)
theorem dL_law_1150 : decode cL_law 1150 = .ok (.aload_n 0, 1) := dk_42 (by decide +kernel)
theorem dL_law_1151 : decode cL_law 1151 = .ok (.iload_n 3, 1) := dk_29 (by decide +kernel)
theorem dL_law_1152 : decode cL_law 1152 = .ok (.iconst 1, 1) := dk_4 (by decide +kernel)
theorem dL_law_1153 : decode cL_law 1153 = .ok (.iadd, 1) := dk_96 (by decide +kernel)
theorem dL_law_1154 : decode cL_law 1154 = .ok (.iaload, 1) := dk_46 (by decide +kernel)
theorem dL_law_1155 : decode cL_law 1155 = .ok (.invokevirtual 137, 3) := dk_182 (by decide +kernel)
theorem dL_law_1158 : decode cL_law 1158 = .ok (.pop, 1) := dk_87 (by decide +kernel)
theorem dL_law_1159 : decode cL_law 1159 = .ok (.aload_n 2, 1) := dk_44 (by decide +kernel)
theorem dL_law_1160 : decode cL_law 1160 = .ok (.aload_n 0, 1) := dk_42 (by decide +kernel)
theorem dL_law_1161 : decode cL_law 1161 = .ok (.iload_n 3, 1) := dk_29 (by decide +kernel)
theorem dL_law_1162 : decode cL_law 1162 = .ok (.iconst 1, 1) := dk_4 (by decide +kernel)
theorem dL_law_1163 : decode cL_law 1163 = .ok (.iadd, 1) := dk_96 (by decide +kernel)
theorem dL_law_1164 : decode cL_law 1164 = .ok (.iaload, 1) := dk_46 (by decide +kernel)
theorem dL_law_1165 : decode cL_law 1165 = .ok (.invokevirtual 140, 3) := dk_182 (by decide +kernel)
theorem dL_law_1168 : decode cL_law 1168 = .ok (.pop, 1) := dk_87 (by decide +kernel)
theorem dL_law_1169 : decode cL_law 1169 = .ok (.goto 306, 3) := dk_167 (by decide +kernel)
theorem dL_law_1172 : decode cL_law 1172 = .ok (.aload_n 1, 1) := dk_43 (by decide +kernel)
theorem dL_law_1173 : decode cL_law 1173 = .ok (.aload_n 0, 1) := dk_42 (by decide +kernel)
theorem dL_law_1174 : decode cL_law 1174 = .ok (.iload_n 3, 1) := dk_29 (by decide +kernel)
theorem dL_law_1175 : decode cL_law 1175 = .ok (.iconst 1, 1) := dk_4 (by decide +kernel)
theorem dL_law_1176 : decode cL_law 1176 = .ok (.iadd, 1) := dk_96 (by decide +kernel)
theorem dL_law_1177 : decode cL_law 1177 = .ok (.iaload, 1) := dk_46 (by decide +kernel)
theorem dL_law_1178 : decode cL_law 1178 = .ok (.aload_n 0, 1) := dk_42 (by decide +kernel)
theorem dL_law_1179 : decode cL_law 1179 = .ok (.iload_n 3, 1) := dk_29 (by decide +kernel)
theorem dL_law_1180 : decode cL_law 1180 = .ok (.iconst 2, 1) := dk_5 (by decide +kernel)
theorem dL_law_1181 : decode cL_law 1181 = .ok (.iadd, 1) := dk_96 (by decide +kernel)
theorem dL_law_1182 : decode cL_law 1182 = .ok (.iaload, 1) := dk_46 (by decide +kernel)
theorem dL_law_1183 : decode cL_law 1183 = .ok (.aload_n 0, 1) := dk_42 (by decide +kernel)
theorem dL_law_1184 : decode cL_law 1184 = .ok (.iload_n 3, 1) := dk_29 (by decide +kernel)
theorem dL_law_1185 : decode cL_law 1185 = .ok (.iconst 3, 1) := dk_6 (by decide +kernel)
theorem dL_law_1186 : decode cL_law 1186 = .ok (.iadd, 1) := dk_96 (by decide +kernel)
theorem dL_law_1187 : decode cL_law 1187 = .ok (.iaload, 1) := dk_46 (by decide +kernel)
theorem dL_law_1188 : decode cL_law 1188 = .ok (.invokevirtual 141, 3) := dk_182 (by decide +kernel)
theorem dL_law_1191 : decode cL_law 1191 = .ok (.pop, 1) := dk_87 (by decide +kernel)
theorem dL_law_1192 : decode cL_law 1192 = .ok (.aload_n 2, 1) := dk_44 (by decide +kernel)
theorem dL_law_1193 : decode cL_law 1193 = .ok (.aload_n 0, 1) := dk_42 (by decide +kernel)
theorem dL_law_1194 : decode cL_law 1194 = .ok (.iload_n 3, 1) := dk_29 (by decide +kernel)
theorem dL_law_1195 : decode cL_law 1195 = .ok (.iconst 1, 1) := dk_4 (by decide +kernel)
theorem dL_law_1196 : decode cL_law 1196 = .ok (.iadd, 1) := dk_96 (by decide +kernel)
theorem dL_law_1197 : decode cL_law 1197 = .ok (.iaload, 1) := dk_46 (by decide +kernel)
theorem dL_law_1198 : decode cL_law 1198 = .ok (.aload_n 0, 1) := dk_42 (by decide +kernel)
theorem dL_law_1199 : decode cL_law 1199 = .ok (.iload_n 3, 1) := dk_29 (by decide +kernel)
theorem dL_law_1200 : decode cL_law 1200 = .ok (.iconst 2, 1) := dk_5 (by decide +kernel)
theorem dL_law_1201 : decode cL_law 1201 = .ok (.iadd, 1) := dk_96 (by decide +kernel)
theorem dL_law_1202 : decode cL_law 1202 = .ok (.iaload, 1) := dk_46 (by decide +kernel)
theorem dL_law_1203 : decode cL_law 1203 = .ok (.aload_n 0, 1) := dk_42 (by decide +kernel)
theorem dL_law_1204 : decode cL_law 1204 = .ok (.iload_n 3, 1) := dk_29 (by decide +kernel)
theorem dL_law_1205 : decode cL_law 1205 = .ok (.iconst 3, 1) := dk_6 (by decide +kernel)
theorem dL_law_1206 : decode cL_law 1206 = .ok (.iadd, 1) := dk_96 (by decide +kernel)
theorem dL_law_1207 : decode cL_law 1207 = .ok (.iaload, 1) := dk_46 (by decide +kernel)
theorem dL_law_1208 : decode cL_law 1208 = .ok (.invokevirtual 144, 3) := dk_182 (by decide +kernel)
theorem dL_law_1211 : decode cL_law 1211 = .ok (.pop, 1) := dk_87 (by decide +kernel)
theorem dL_law_1212 : decode cL_law 1212 = .ok (.goto 263, 3) := dk_167 (by decide +kernel)
theorem dL_law_1215 : decode cL_law 1215 = .ok (.aload_n 1, 1) := dk_43 (by decide +kernel)
theorem dL_law_1216 : decode cL_law 1216 = .ok (.aload_n 0, 1) := dk_42 (by decide +kernel)
theorem dL_law_1217 : decode cL_law 1217 = .ok (.iload_n 3, 1) := dk_29 (by decide +kernel)
theorem dL_law_1218 : decode cL_law 1218 = .ok (.iconst 1, 1) := dk_4 (by decide +kernel)
theorem dL_law_1219 : decode cL_law 1219 = .ok (.iadd, 1) := dk_96 (by decide +kernel)
theorem dL_law_1220 : decode cL_law 1220 = .ok (.iaload, 1) := dk_46 (by decide +kernel)
theorem dL_law_1221 : decode cL_law 1221 = .ok (.aload_n 0, 1) := dk_42 (by decide +kernel)
theorem dL_law_1222 : decode cL_law 1222 = .ok (.iload_n 3, 1) := dk_29 (by decide +kernel)
theorem dL_law_1223 : decode cL_law 1223 = .ok (.iconst 2, 1) := dk_5 (by decide +kernel)
theorem dL_law_1224 : decode cL_law 1224 = .ok (.iadd, 1) := dk_96 (by decide +kernel)
theorem dL_law_1225 : decode cL_law 1225 = .ok (.iaload, 1) := dk_46 (by decide +kernel)
theorem dL_law_1226 : decode cL_law 1226 = .ok (.aload_n 0, 1) := dk_42 (by decide +kernel)
theorem dL_law_1227 : decode cL_law 1227 = .ok (.iload_n 3, 1) := dk_29 (by decide +kernel)
theorem dL_law_1228 : decode cL_law 1228 = .ok (.iconst 3, 1) := dk_6 (by decide +kernel)
theorem dL_law_1229 : decode cL_law 1229 = .ok (.iadd, 1) := dk_96 (by decide +kernel)
theorem dL_law_1230 : decode cL_law 1230 = .ok (.iaload, 1) := dk_46 (by decide +kernel)
theorem dL_law_1231 : decode cL_law 1231 = .ok (.invokevirtual 145, 3) := dk_182 (by decide +kernel)
theorem dL_law_1234 : decode cL_law 1234 = .ok (.pop, 1) := dk_87 (by decide +kernel)
theorem dL_law_1235 : decode cL_law 1235 = .ok (.aload_n 2, 1) := dk_44 (by decide +kernel)
theorem dL_law_1236 : decode cL_law 1236 = .ok (.aload_n 0, 1) := dk_42 (by decide +kernel)
theorem dL_law_1237 : decode cL_law 1237 = .ok (.iload_n 3, 1) := dk_29 (by decide +kernel)
theorem dL_law_1238 : decode cL_law 1238 = .ok (.iconst 1, 1) := dk_4 (by decide +kernel)
theorem dL_law_1239 : decode cL_law 1239 = .ok (.iadd, 1) := dk_96 (by decide +kernel)
theorem dL_law_1240 : decode cL_law 1240 = .ok (.iaload, 1) := dk_46 (by decide +kernel)
theorem dL_law_1241 : decode cL_law 1241 = .ok (.aload_n 0, 1) := dk_42 (by decide +kernel)
theorem dL_law_1242 : decode cL_law 1242 = .ok (.iload_n 3, 1) := dk_29 (by decide +kernel)
theorem dL_law_1243 : decode cL_law 1243 = .ok (.iconst 2, 1) := dk_5 (by decide +kernel)
theorem dL_law_1244 : decode cL_law 1244 = .ok (.iadd, 1) := dk_96 (by decide +kernel)
theorem dL_law_1245 : decode cL_law 1245 = .ok (.iaload, 1) := dk_46 (by decide +kernel)
theorem dL_law_1246 : decode cL_law 1246 = .ok (.aload_n 0, 1) := dk_42 (by decide +kernel)
theorem dL_law_1247 : decode cL_law 1247 = .ok (.iload_n 3, 1) := dk_29 (by decide +kernel)
theorem dL_law_1248 : decode cL_law 1248 = .ok (.iconst 3, 1) := dk_6 (by decide +kernel)
theorem dL_law_1249 : decode cL_law 1249 = .ok (.iadd, 1) := dk_96 (by decide +kernel)
theorem dL_law_1250 : decode cL_law 1250 = .ok (.iaload, 1) := dk_46 (by decide +kernel)
theorem dL_law_1251 : decode cL_law 1251 = .ok (.invokevirtual 148, 3) := dk_182 (by decide +kernel)
theorem dL_law_1254 : decode cL_law 1254 = .ok (.pop, 1) := dk_87 (by decide +kernel)
theorem dL_law_1255 : decode cL_law 1255 = .ok (.goto 220, 3) := dk_167 (by decide +kernel)
theorem dL_law_1258 : decode cL_law 1258 = .ok (.aload_n 1, 1) := dk_43 (by decide +kernel)
theorem dL_law_1259 : decode cL_law 1259 = .ok (.aload_n 0, 1) := dk_42 (by decide +kernel)
theorem dL_law_1260 : decode cL_law 1260 = .ok (.iload_n 3, 1) := dk_29 (by decide +kernel)
theorem dL_law_1261 : decode cL_law 1261 = .ok (.iconst 1, 1) := dk_4 (by decide +kernel)
theorem dL_law_1262 : decode cL_law 1262 = .ok (.iadd, 1) := dk_96 (by decide +kernel)
theorem dL_law_1263 : decode cL_law 1263 = .ok (.iaload, 1) := dk_46 (by decide +kernel)
theorem dL_law_1264 : decode cL_law 1264 = .ok (.aload_n 0, 1) := dk_42 (by decide +kernel)
theorem dL_law_1265 : decode cL_law 1265 = .ok (.iload_n 3, 1) := dk_29 (by decide +kernel)
theorem dL_law_1266 : decode cL_law 1266 = .ok (.iconst 2, 1) := dk_5 (by decide +kernel)
theorem dL_law_1267 : decode cL_law 1267 = .ok (.iadd, 1) := dk_96 (by decide +kernel)
theorem dL_law_1268 : decode cL_law 1268 = .ok (.iaload, 1) := dk_46 (by decide +kernel)
theorem dL_law_1269 : decode cL_law 1269 = .ok (.aload_n 0, 1) := dk_42 (by decide +kernel)
theorem dL_law_1270 : decode cL_law 1270 = .ok (.iload_n 3, 1) := dk_29 (by decide +kernel)
theorem dL_law_1271 : decode cL_law 1271 = .ok (.iconst 3, 1) := dk_6 (by decide +kernel)
theorem dL_law_1272 : decode cL_law 1272 = .ok (.iadd, 1) := dk_96 (by decide +kernel)
theorem dL_law_1273 : decode cL_law 1273 = .ok (.iaload, 1) := dk_46 (by decide +kernel)
theorem dL_law_1274 : decode cL_law 1274 = .ok (.aload_n 0, 1) := dk_42 (by decide +kernel)
theorem dL_law_1275 : decode cL_law 1275 = .ok (.iload_n 3, 1) := dk_29 (by decide +kernel)
theorem dL_law_1276 : decode cL_law 1276 = .ok (.iconst 4, 1) := dk_7 (by decide +kernel)
theorem dL_law_1277 : decode cL_law 1277 = .ok (.iadd, 1) := dk_96 (by decide +kernel)
theorem dL_law_1278 : decode cL_law 1278 = .ok (.iaload, 1) := dk_46 (by decide +kernel)
theorem dL_law_1279 : decode cL_law 1279 = .ok (.aload_n 0, 1) := dk_42 (by decide +kernel)
theorem dL_law_1280 : decode cL_law 1280 = .ok (.iload_n 3, 1) := dk_29 (by decide +kernel)
theorem dL_law_1281 : decode cL_law 1281 = .ok (.iconst 5, 1) := dk_8 (by decide +kernel)
theorem dL_law_1282 : decode cL_law 1282 = .ok (.iadd, 1) := dk_96 (by decide +kernel)
theorem dL_law_1283 : decode cL_law 1283 = .ok (.iaload, 1) := dk_46 (by decide +kernel)
theorem dL_law_1284 : decode cL_law 1284 = .ok (.invokevirtual 149, 3) := dk_182 (by decide +kernel)
theorem dL_law_1287 : decode cL_law 1287 = .ok (.pop, 1) := dk_87 (by decide +kernel)
theorem dL_law_1288 : decode cL_law 1288 = .ok (.aload_n 2, 1) := dk_44 (by decide +kernel)
theorem dL_law_1289 : decode cL_law 1289 = .ok (.aload_n 0, 1) := dk_42 (by decide +kernel)
theorem dL_law_1290 : decode cL_law 1290 = .ok (.iload_n 3, 1) := dk_29 (by decide +kernel)
theorem dL_law_1291 : decode cL_law 1291 = .ok (.iconst 1, 1) := dk_4 (by decide +kernel)
theorem dL_law_1292 : decode cL_law 1292 = .ok (.iadd, 1) := dk_96 (by decide +kernel)
theorem dL_law_1293 : decode cL_law 1293 = .ok (.iaload, 1) := dk_46 (by decide +kernel)
theorem dL_law_1294 : decode cL_law 1294 = .ok (.aload_n 0, 1) := dk_42 (by decide +kernel)
theorem dL_law_1295 : decode cL_law 1295 = .ok (.iload_n 3, 1) := dk_29 (by decide +kernel)
theorem dL_law_1296 : decode cL_law 1296 = .ok (.iconst 2, 1) := dk_5 (by decide +kernel)
theorem dL_law_1297 : decode cL_law 1297 = .ok (.iadd, 1) := dk_96 (by decide +kernel)
theorem dL_law_1298 : decode cL_law 1298 = .ok (.iaload, 1) := dk_46 (by decide +kernel)
theorem dL_law_1299 : decode cL_law 1299 = .ok (.aload_n 0, 1) := dk_42 (by decide +kernel)
theorem dL_law_1300 : decode cL_law 1300 = .ok (.iload_n 3, 1) := dk_29 (by decide +kernel)
theorem dL_law_1301 : decode cL_law 1301 = .ok (.iconst 3, 1) := dk_6 (by decide +kernel)
theorem dL_law_1302 : decode cL_law 1302 = .ok (.iadd, 1) := dk_96 (by decide +kernel)
theorem dL_law_1303 : decode cL_law 1303 = .ok (.iaload, 1) := dk_46 (by decide +kernel)
theorem dL_law_1304 : decode cL_law 1304 = .ok (.aload_n 0, 1) := dk_42 (by decide +kernel)
theorem dL_law_1305 : decode cL_law 1305 = .ok (.iload_n 3, 1) := dk_29 (by decide +kernel)
theorem dL_law_1306 : decode cL_law 1306 = .ok (.iconst 4, 1) := dk_7 (by decide +kernel)
theorem dL_law_1307 : decode cL_law 1307 = .ok (.iadd, 1) := dk_96 (by decide +kernel)
theorem dL_law_1308 : decode cL_law 1308 = .ok (.iaload, 1) := dk_46 (by decide +kernel)
theorem dL_law_1309 : decode cL_law 1309 = .ok (.aload_n 0, 1) := dk_42 (by decide +kernel)
theorem dL_law_1310 : decode cL_law 1310 = .ok (.iload_n 3, 1) := dk_29 (by decide +kernel)
theorem dL_law_1311 : decode cL_law 1311 = .ok (.iconst 5, 1) := dk_8 (by decide +kernel)
theorem dL_law_1312 : decode cL_law 1312 = .ok (.iadd, 1) := dk_96 (by decide +kernel)
theorem dL_law_1313 : decode cL_law 1313 = .ok (.iaload, 1) := dk_46 (by decide +kernel)
theorem dL_law_1314 : decode cL_law 1314 = .ok (.invokevirtual 153, 3) := dk_182 (by decide +kernel)
theorem dL_law_1317 : decode cL_law 1317 = .ok (.pop, 1) := dk_87 (by decide +kernel)
theorem dL_law_1318 : decode cL_law 1318 = .ok (.goto 157, 3) := dk_167 (by decide +kernel)
theorem dL_law_1321 : decode cL_law 1321 = .ok (.aload_n 1, 1) := dk_43 (by decide +kernel)
theorem dL_law_1322 : decode cL_law 1322 = .ok (.aload_n 0, 1) := dk_42 (by decide +kernel)
theorem dL_law_1323 : decode cL_law 1323 = .ok (.iload_n 3, 1) := dk_29 (by decide +kernel)
theorem dL_law_1324 : decode cL_law 1324 = .ok (.iconst 1, 1) := dk_4 (by decide +kernel)
theorem dL_law_1325 : decode cL_law 1325 = .ok (.iadd, 1) := dk_96 (by decide +kernel)
theorem dL_law_1326 : decode cL_law 1326 = .ok (.iaload, 1) := dk_46 (by decide +kernel)
theorem dL_law_1327 : decode cL_law 1327 = .ok (.invokevirtual 154, 3) := dk_182 (by decide +kernel)
theorem dL_law_1330 : decode cL_law 1330 = .ok (.pop, 1) := dk_87 (by decide +kernel)
theorem dL_law_1331 : decode cL_law 1331 = .ok (.aload_n 2, 1) := dk_44 (by decide +kernel)
theorem dL_law_1332 : decode cL_law 1332 = .ok (.aload_n 0, 1) := dk_42 (by decide +kernel)
theorem dL_law_1333 : decode cL_law 1333 = .ok (.iload_n 3, 1) := dk_29 (by decide +kernel)
theorem dL_law_1334 : decode cL_law 1334 = .ok (.iconst 1, 1) := dk_4 (by decide +kernel)
theorem dL_law_1335 : decode cL_law 1335 = .ok (.iadd, 1) := dk_96 (by decide +kernel)
theorem dL_law_1336 : decode cL_law 1336 = .ok (.iaload, 1) := dk_46 (by decide +kernel)
theorem dL_law_1337 : decode cL_law 1337 = .ok (.invokevirtual 157, 3) := dk_182 (by decide +kernel)
theorem dL_law_1340 : decode cL_law 1340 = .ok (.pop, 1) := dk_87 (by decide +kernel)
theorem dL_law_1341 : decode cL_law 1341 = .ok (.goto 134, 3) := dk_167 (by decide +kernel)
theorem dL_law_1344 : decode cL_law 1344 = .ok (.aload_n 1, 1) := dk_43 (by decide +kernel)
theorem dL_law_1345 : decode cL_law 1345 = .ok (.aload_n 0, 1) := dk_42 (by decide +kernel)
theorem dL_law_1346 : decode cL_law 1346 = .ok (.iload_n 3, 1) := dk_29 (by decide +kernel)
theorem dL_law_1347 : decode cL_law 1347 = .ok (.iconst 1, 1) := dk_4 (by decide +kernel)
theorem dL_law_1348 : decode cL_law 1348 = .ok (.iadd, 1) := dk_96 (by decide +kernel)
theorem dL_law_1349 : decode cL_law 1349 = .ok (.iaload, 1) := dk_46 (by decide +kernel)
theorem dL_law_1350 : decode cL_law 1350 = .ok (.invokevirtual 158, 3) := dk_182 (by decide +kernel)
theorem dL_law_1353 : decode cL_law 1353 = .ok (.pop, 1) := dk_87 (by decide +kernel)
theorem dL_law_1354 : decode cL_law 1354 = .ok (.aload_n 2, 1) := dk_44 (by decide +kernel)
theorem dL_law_1355 : decode cL_law 1355 = .ok (.aload_n 0, 1) := dk_42 (by decide +kernel)
theorem dL_law_1356 : decode cL_law 1356 = .ok (.iload_n 3, 1) := dk_29 (by decide +kernel)
theorem dL_law_1357 : decode cL_law 1357 = .ok (.iconst 1, 1) := dk_4 (by decide +kernel)
theorem dL_law_1358 : decode cL_law 1358 = .ok (.iadd, 1) := dk_96 (by decide +kernel)
theorem dL_law_1359 : decode cL_law 1359 = .ok (.iaload, 1) := dk_46 (by decide +kernel)
theorem dL_law_1360 : decode cL_law 1360 = .ok (.invokevirtual 161, 3) := dk_182 (by decide +kernel)
theorem dL_law_1363 : decode cL_law 1363 = .ok (.pop, 1) := dk_87 (by decide +kernel)
theorem dL_law_1364 : decode cL_law 1364 = .ok (.goto 111, 3) := dk_167 (by decide +kernel)
theorem dL_law_1367 : decode cL_law 1367 = .ok (.aload_n 1, 1) := dk_43 (by decide +kernel)
theorem dL_law_1368 : decode cL_law 1368 = .ok (.invokevirtual 162, 3) := dk_182 (by decide +kernel)
theorem dL_law_1371 : decode cL_law 1371 = .ok (.pop, 1) := dk_87 (by decide +kernel)
theorem dL_law_1372 : decode cL_law 1372 = .ok (.aload_n 2, 1) := dk_44 (by decide +kernel)
theorem dL_law_1373 : decode cL_law 1373 = .ok (.invokevirtual 165, 3) := dk_182 (by decide +kernel)
theorem dL_law_1376 : decode cL_law 1376 = .ok (.pop, 1) := dk_87 (by decide +kernel)
theorem dL_law_1377 : decode cL_law 1377 = .ok (.goto 98, 3) := dk_167 (by decide +kernel)
theorem dL_law_1380 : decode cL_law 1380 = .ok (.aload_n 1, 1) := dk_43 (by decide +kernel)
theorem dL_law_1381 : decode cL_law 1381 = .ok (.invokevirtual 166, 3) := dk_182 (by decide +kernel)
theorem dL_law_1384 : decode cL_law 1384 = .ok (.pop, 1) := dk_87 (by decide +kernel)
theorem dL_law_1385 : decode cL_law 1385 = .ok (.aload_n 2, 1) := dk_44 (by decide +kernel)
theorem dL_law_1386 : decode cL_law 1386 = .ok (.invokevirtual 169, 3) := dk_182 (by decide +kernel)
theorem dL_law_1389 : decode cL_law 1389 = .ok (.pop, 1) := dk_87 (by decide +kernel)
theorem dL_law_1390 : decode cL_law 1390 = .ok (.goto 85, 3) := dk_167 (by decide +kernel)
theorem dL_law_1393 : decode cL_law 1393 = .ok (.aload_n 1, 1) := dk_43 (by decide +kernel)
theorem dL_law_1394 : decode cL_law 1394 = .ok (.aload_n 0, 1) := dk_42 (by decide +kernel)
theorem dL_law_1395 : decode cL_law 1395 = .ok (.iload_n 3, 1) := dk_29 (by decide +kernel)
theorem dL_law_1396 : decode cL_law 1396 = .ok (.iconst 1, 1) := dk_4 (by decide +kernel)
theorem dL_law_1397 : decode cL_law 1397 = .ok (.iadd, 1) := dk_96 (by decide +kernel)
theorem dL_law_1398 : decode cL_law 1398 = .ok (.iaload, 1) := dk_46 (by decide +kernel)
theorem dL_law_1399 : decode cL_law 1399 = .ok (.invokevirtual 170, 3) := dk_182 (by decide +kernel)
theorem dL_law_1402 : decode cL_law 1402 = .ok (.pop, 1) := dk_87 (by decide +kernel)
theorem dL_law_1403 : decode cL_law 1403 = .ok (.aload_n 2, 1) := dk_44 (by decide +kernel)
theorem dL_law_1404 : decode cL_law 1404 = .ok (.aload_n 0, 1) := dk_42 (by decide +kernel)
theorem dL_law_1405 : decode cL_law 1405 = .ok (.iload_n 3, 1) := dk_29 (by decide +kernel)
theorem dL_law_1406 : decode cL_law 1406 = .ok (.iconst 1, 1) := dk_4 (by decide +kernel)
theorem dL_law_1407 : decode cL_law 1407 = .ok (.iadd, 1) := dk_96 (by decide +kernel)
theorem dL_law_1408 : decode cL_law 1408 = .ok (.iaload, 1) := dk_46 (by decide +kernel)
theorem dL_law_1409 : decode cL_law 1409 = .ok (.invokevirtual 173, 3) := dk_182 (by decide +kernel)
theorem dL_law_1412 : decode cL_law 1412 = .ok (.pop, 1) := dk_87 (by decide +kernel)
theorem dL_law_1413 : decode cL_law 1413 = .ok (.goto 62, 3) := dk_167 (by decide +kernel)
theorem dL_law_1416 : decode cL_law 1416 = .ok (.aload_n 1, 1) := dk_43 (by decide +kernel)
theorem dL_law_1417 : decode cL_law 1417 = .ok (.invokevirtual 174, 3) := dk_182 (by decide +kernel)
theorem dL_law_1420 : decode cL_law 1420 = .ok (.pop, 1) := dk_87 (by decide +kernel)
theorem dL_law_1421 : decode cL_law 1421 = .ok (.aload_n 2, 1) := dk_44 (by decide +kernel)
theorem dL_law_1422 : decode cL_law 1422 = .ok (.invokevirtual 177, 3) := dk_182 (by decide +kernel)
theorem dL_law_1425 : decode cL_law 1425 = .ok (.pop, 1) := dk_87 (by decide +kernel)
theorem dL_law_1426 : decode cL_law 1426 = .ok (.goto 49, 3) := dk_167 (by decide +kernel)
theorem dL_law_1429 : decode cL_law 1429 = .ok (.aload_n 1, 1) := dk_43 (by decide +kernel)
theorem dL_law_1430 : decode cL_law 1430 = .ok (.aload_n 0, 1) := dk_42 (by decide +kernel)
theorem dL_law_1431 : decode cL_law 1431 = .ok (.iload_n 3, 1) := dk_29 (by decide +kernel)
theorem dL_law_1432 : decode cL_law 1432 = .ok (.iconst 1, 1) := dk_4 (by decide +kernel)
theorem dL_law_1433 : decode cL_law 1433 = .ok (.iadd, 1) := dk_96 (by decide +kernel)
theorem dL_law_1434 : decode cL_law 1434 = .ok (.iaload, 1) := dk_46 (by decide +kernel)
theorem dL_law_1435 : decode cL_law 1435 = .ok (.invokevirtual 178, 3) := dk_182 (by decide +kernel)
theorem dL_law_1438 : decode cL_law 1438 = .ok (.aload_n 2, 1) := dk_44 (by decide +kernel)
theorem dL_law_1439 : decode cL_law 1439 = .ok (.aload_n 0, 1) := dk_42 (by decide +kernel)
theorem dL_law_1440 : decode cL_law 1440 = .ok (.iload_n 3, 1) := dk_29 (by decide +kernel)
theorem dL_law_1441 : decode cL_law 1441 = .ok (.iconst 1, 1) := dk_4 (by decide +kernel)
theorem dL_law_1442 : decode cL_law 1442 = .ok (.iadd, 1) := dk_96 (by decide +kernel)
theorem dL_law_1443 : decode cL_law 1443 = .ok (.iaload, 1) := dk_46 (by decide +kernel)
theorem dL_law_1444 : decode cL_law 1444 = .ok (.invokevirtual 181, 3) := dk_182 (by decide +kernel)
theorem dL_law_1447 : decode cL_law 1447 = .ok (.if_icmp .eq 28, 3) := dk_159 (by decide +kernel)
theorem dL_law_1452 : decode cL_law 1452 = .ok (.aload_n 1, 1) := dk_43 (by decide +kernel)
theorem dL_law_1453 : decode cL_law 1453 = .ok (.aload_n 0, 1) := dk_42 (by decide +kernel)
theorem dL_law_1454 : decode cL_law 1454 = .ok (.iload_n 3, 1) := dk_29 (by decide +kernel)
theorem dL_law_1455 : decode cL_law 1455 = .ok (.iconst 1, 1) := dk_4 (by decide +kernel)
theorem dL_law_1456 : decode cL_law 1456 = .ok (.iadd, 1) := dk_96 (by decide +kernel)
theorem dL_law_1457 : decode cL_law 1457 = .ok (.iaload, 1) := dk_46 (by decide +kernel)
theorem dL_law_1458 : decode cL_law 1458 = .ok (.invokevirtual 182, 3) := dk_182 (by decide +kernel)
theorem dL_law_1461 : decode cL_law 1461 = .ok (.pop, 1) := dk_87 (by decide +kernel)
theorem dL_law_1462 : decode cL_law 1462 = .ok (.aload_n 2, 1) := dk_44 (by decide +kernel)
theorem dL_law_1463 : decode cL_law 1463 = .ok (.aload_n 0, 1) := dk_42 (by decide +kernel)
theorem dL_law_1464 : decode cL_law 1464 = .ok (.iload_n 3, 1) := dk_29 (by decide +kernel)
theorem dL_law_1465 : decode cL_law 1465 = .ok (.iconst 1, 1) := dk_4 (by decide +kernel)
theorem dL_law_1466 : decode cL_law 1466 = .ok (.iadd, 1) := dk_96 (by decide +kernel)
theorem dL_law_1467 : decode cL_law 1467 = .ok (.iaload, 1) := dk_46 (by decide +kernel)
theorem dL_law_1468 : decode cL_law 1468 = .ok (.invokevirtual 185, 3) := dk_182 (by decide +kernel)
theorem dL_law_1471 : decode cL_law 1471 = .ok (.pop, 1) := dk_87 (by decide +kernel)
theorem dL_law_1472 : decode cL_law 1472 = .ok (.goto 3, 3) := dk_167 (by decide +kernel)
theorem dL_law_1481 : decode cL_law 1481 = .ok (.iconst 1, 1) := dk_4 (by decide +kernel)
theorem dL_law_1482 : decode cL_law 1482 = .ok (.ireturn, 1) := dk_172 (by decide +kernel)
theorem dL_law_18 : decode cL_law 18 = .ok (.iload_n 3, 1) := dk_29 (by decide +kernel)
theorem dL_law_19 : decode cL_law 19 = .ok (.aload_n 0, 1) := dk_42 (by decide +kernel)
theorem dL_law_20 : decode cL_law 20 = .ok (.arraylength, 1) := by decide +kernel
theorem dL_law_21 : decode cL_law 21 = .ok (.bipush 6, 2) := dk_16 (by decide +kernel)
theorem dL_law_23 : decode cL_law 23 = .ok (.isub, 1) := dk_100 (by decide +kernel)
theorem dL_law_24 : decode cL_law 24 = .ok (.if_icmp .gt 1457, 3) := dk_163 (by decide +kernel)
theorem dL_law_27 : decode cL_law 27 = .ok (.aload_n 0, 1) := dk_42 (by decide +kernel)
theorem dL_law_28 : decode cL_law 28 = .ok (.iload_n 3, 1) := dk_29 (by decide +kernel)
theorem dL_law_29 : decode cL_law 29 = .ok (.iaload, 1) := dk_46 (by decide +kernel)
theorem dL_law_30 : decode cL_law 30 = .ok (.bipush 63, 2) := dk_16 (by decide +kernel)
theorem dL_law_32 : decode cL_law 32 = .ok (.iand, 1) := dk_126 (by decide +kernel)
theorem dL_law_1475 : decode cL_law 1475 = .ok (.iinc 3 6, 3) := dk_132 (by decide +kernel)
theorem dL_law_1478 : decode cL_law 1478 = .ok (.goto (-1460), 3) := dk_167 (by decide +kernel)
theorem dL_law_33 : decode cL_law 33 = .ok (.tableswitch 1442 0 40 #[179, 212, 235, 288, 321, 364, 397, 430, 493, 516, 569, 592, 615, 658, 681, 704, 737, 770, 803, 836, 869, 892, 925, 948, 971, 994, 1007, 1050, 1073, 1116, 1139, 1182, 1225, 1288, 1311, 1334, 1347, 1360, 1383, 1396, 1419], 179) := by decide +kernel
set_option maxRecDepth 100000 in
set_option maxHeartbeats 40000000 in
theorem law_case_0 {p : Program} {l : Launch} {e : Env} {s : State} {m : MethodId} {below : List Frame} {meth : Method} {c : Code} {D : va_G} {y : wY} {ad : Nat → Nat} {M : Mem} {b L kc ks k : Nat} {xs : Nat → Int32} (hL : L ≤ 3072) (hk : 6 * k + 6 ≤ L) (C0 : lw_At p s m meth c b L xs) (X : Amb p m c cL_law 4 s #[Value.ref b] lw_tbl RL D y ad (fun q : Nat => s.heap.size ≤ q)) (hI : Inv2 k M) (hN : ∀ M1, Inv2 (k + 1) M1 → J p l e room_1 s m #[Value.ref b] below meth c kc ks (lw_Z below #[Value.ref b] s) D y ad (fun q : Nat => s.heap.size ≤ q) 4 M1 1475 [(3, .int (nI (6 * k))), (2, .ref (ad 79)), (0, .ref b), (1, .ref (ad 0))] []) (hkc : kc = 92) (hks : ks = 2832) : J p l e room_1 s m #[Value.ref b] below meth c kc ks (lw_Z below #[Value.ref b] s) D y ad (fun q : Nat => s.heap.size ≤ q) 4 M 212 [(3, .int (nI (6 * k))), (2, .ref (ad 79)), (0, .ref b), (1, .ref (ad 0))] [] := by
  subst hkc; subst hks
  obtain ⟨hx, hb, hr, hml, hown, hts, hX, hbl, hlocks, hgv⟩ := id C0
  have hbA : ¬ (fun q : Nat => s.heap.size ≤ q) b := Nat.not_le.mpr hbl
  refine j_aload_n X 3 rfl rfl dL_law_212 ?_
  refine j_rd X hX hbl hbA hL hk 1 (v := 1) (by decide) (by decide) (by decide) rfl rfl dL_law_213 dL_law_214 dL_law_215 dL_law_216 dL_law_217 ?_
  refine j_rd X hX hbl hbA hL hk 2 (v := 2) (by decide) (by decide) (by decide) rfl rfl dL_law_218 dL_law_219 dL_law_220 dL_law_221 dL_law_222 ?_
  refine j_callVI X (nn := 2) (As := [.int (xs (6 * k + 1)), .int (xs (6 * k + 2))]) (st := []) (ci := 7) cl_0.1 (wE_7 _ cl_0.2) rfl aw_105 aw_106 (x_X7_set l D y ad ((xs (6 * k + 1))) ((xs (6 * k + 2))) M _ (z2_set hI)) aw_104 aw_107 aw_2 (by decide +kernel) ⟨Nat.le_of_ble_eq_true rfl, Nat.le_of_ble_eq_true rfl⟩ rfl (Nat.le_of_ble_eq_true rfl) ⟨by decide, by decide⟩ dL_law_223 ?_
  intro r1 M1 h1
  refine j_pop X rfl dL_law_226 ?_
  refine j_aload_n X 1 rfl rfl dL_law_227 ?_
  refine j_rd X hX hbl hbA hL hk 1 (v := 1) (by decide) (by decide) (by decide) rfl rfl dL_law_228 dL_law_229 dL_law_230 dL_law_231 dL_law_232 ?_
  refine j_rd X hX hbl hbA hL hk 2 (v := 2) (by decide) (by decide) (by decide) rfl rfl dL_law_233 dL_law_234 dL_law_235 dL_law_236 dL_law_237 ?_
  refine j_callVI X (nn := 2) (As := [.int (xs (6 * k + 1)), .int (xs (6 * k + 2))]) (st := []) (ci := 8) cl_79.1 (wE_8 _ cl_79.2) rfl aw_128 aw_129 (x_X8_set l D y ad ((xs (6 * k + 1))) ((xs (6 * k + 2))) M1 _ h1) aw_127 aw_130 aw_5 (by decide +kernel) ⟨Nat.le_of_ble_eq_true rfl, Nat.le_of_ble_eq_true rfl⟩ rfl (Nat.le_of_ble_eq_true rfl) ⟨by decide, by decide⟩ dL_law_238 ?_
  intro r2 M2 h2
  refine j_pop X rfl dL_law_241 ?_
  refine j_goto X 1475 (by decide) dL_law_242 ?_
  exact hN M2 h2.2
set_option maxRecDepth 100000 in
set_option maxHeartbeats 40000000 in
theorem law_case_1 {p : Program} {l : Launch} {e : Env} {s : State} {m : MethodId} {below : List Frame} {meth : Method} {c : Code} {D : va_G} {y : wY} {ad : Nat → Nat} {M : Mem} {b L kc ks k : Nat} {xs : Nat → Int32} (hL : L ≤ 3072) (hk : 6 * k + 6 ≤ L) (C0 : lw_At p s m meth c b L xs) (X : Amb p m c cL_law 4 s #[Value.ref b] lw_tbl RL D y ad (fun q : Nat => s.heap.size ≤ q)) (hI : Inv2 k M) (hN : ∀ M1, Inv2 (k + 1) M1 → J p l e room_1 s m #[Value.ref b] below meth c kc ks (lw_Z below #[Value.ref b] s) D y ad (fun q : Nat => s.heap.size ≤ q) 4 M1 1475 [(3, .int (nI (6 * k))), (2, .ref (ad 79)), (0, .ref b), (1, .ref (ad 0))] []) (hkc : kc = 92) (hks : ks = 2832) : J p l e room_1 s m #[Value.ref b] below meth c kc ks (lw_Z below #[Value.ref b] s) D y ad (fun q : Nat => s.heap.size ≤ q) 4 M 245 [(3, .int (nI (6 * k))), (2, .ref (ad 79)), (0, .ref b), (1, .ref (ad 0))] [] := by
  subst hkc; subst hks
  obtain ⟨hx, hb, hr, hml, hown, hts, hX, hbl, hlocks, hgv⟩ := id C0
  have hbA : ¬ (fun q : Nat => s.heap.size ≤ q) b := Nat.not_le.mpr hbl
  refine j_aload_n X 3 rfl rfl dL_law_245 ?_
  refine j_rd X hX hbl hbA hL hk 1 (v := 1) (by decide) (by decide) (by decide) rfl rfl dL_law_246 dL_law_247 dL_law_248 dL_law_249 dL_law_250 ?_
  refine j_callVI X (nn := 1) (As := [.int (xs (6 * k + 1))]) (st := []) (ci := 7) cl_0.1 (wE_7 _ cl_0.2) rfl aw_149 aw_150 (x_X7_inArea l D y ad ((xs (6 * k + 1))) M _ (z2_inArea hI)) aw_148 aw_151 aw_2 (by decide +kernel) ⟨Nat.le_of_ble_eq_true rfl, Nat.le_of_ble_eq_true rfl⟩ rfl (Nat.le_of_ble_eq_true rfl) ⟨by decide, by decide⟩ dL_law_251 ?_
  intro r1 M1 h1
  refine j_pop X rfl dL_law_254 ?_
  refine j_aload_n X 1 rfl rfl dL_law_255 ?_
  refine j_rd X hX hbl hbA hL hk 1 (v := 1) (by decide) (by decide) (by decide) rfl rfl dL_law_256 dL_law_257 dL_law_258 dL_law_259 dL_law_260 ?_
  refine j_callVI X (nn := 1) (As := [.int (xs (6 * k + 1))]) (st := []) (ci := 8) cl_79.1 (wE_8 _ cl_79.2) rfl aw_157 aw_158 (x_X8_inArea l D y ad ((xs (6 * k + 1))) M1 _ h1) aw_156 aw_159 aw_5 (by decide +kernel) ⟨Nat.le_of_ble_eq_true rfl, Nat.le_of_ble_eq_true rfl⟩ rfl (Nat.le_of_ble_eq_true rfl) ⟨by decide, by decide⟩ dL_law_261 ?_
  intro r2 M2 h2
  refine j_pop X rfl dL_law_264 ?_
  refine j_goto X 1475 (by decide) dL_law_265 ?_
  exact hN M2 h2.2
set_option maxRecDepth 100000 in
set_option maxHeartbeats 40000000 in
theorem law_case_2 {p : Program} {l : Launch} {e : Env} {s : State} {m : MethodId} {below : List Frame} {meth : Method} {c : Code} {D : va_G} {y : wY} {ad : Nat → Nat} {M : Mem} {b L kc ks k : Nat} {xs : Nat → Int32} (hL : L ≤ 3072) (hk : 6 * k + 6 ≤ L) (C0 : lw_At p s m meth c b L xs) (X : Amb p m c cL_law 4 s #[Value.ref b] lw_tbl RL D y ad (fun q : Nat => s.heap.size ≤ q)) (hI : Inv2 k M) (hN : ∀ M1, Inv2 (k + 1) M1 → J p l e room_1 s m #[Value.ref b] below meth c kc ks (lw_Z below #[Value.ref b] s) D y ad (fun q : Nat => s.heap.size ≤ q) 4 M1 1475 [(3, .int (nI (6 * k))), (2, .ref (ad 79)), (0, .ref b), (1, .ref (ad 0))] []) (hkc : kc = 92) (hks : ks = 2832) : J p l e room_1 s m #[Value.ref b] below meth c kc ks (lw_Z below #[Value.ref b] s) D y ad (fun q : Nat => s.heap.size ≤ q) 4 M 268 [(3, .int (nI (6 * k))), (2, .ref (ad 79)), (0, .ref b), (1, .ref (ad 0))] [] := by
  subst hkc; subst hks
  obtain ⟨hx, hb, hr, hml, hown, hts, hX, hbl, hlocks, hgv⟩ := id C0
  have hbA : ¬ (fun q : Nat => s.heap.size ≤ q) b := Nat.not_le.mpr hbl
  refine j_aload_n X 3 rfl rfl dL_law_268 ?_
  refine j_rd X hX hbl hbA hL hk 1 (v := 1) (by decide) (by decide) (by decide) rfl rfl dL_law_269 dL_law_270 dL_law_271 dL_law_272 dL_law_273 ?_
  refine j_rd X hX hbl hbA hL hk 2 (v := 2) (by decide) (by decide) (by decide) rfl rfl dL_law_274 dL_law_275 dL_law_276 dL_law_277 dL_law_278 ?_
  refine j_rd X hX hbl hbA hL hk 3 (v := 3) (by decide) (by decide) (by decide) rfl rfl dL_law_279 dL_law_280 dL_law_281 dL_law_282 dL_law_283 ?_
  refine j_rd X hX hbl hbA hL hk 4 (v := 4) (by decide) (by decide) (by decide) rfl rfl dL_law_284 dL_law_285 dL_law_286 dL_law_287 dL_law_288 ?_
  refine j_callVI X (nn := 4) (As := [.int (xs (6 * k + 1)), .int (xs (6 * k + 2)), .int (xs (6 * k + 3)), .int (xs (6 * k + 4))]) (st := []) (ci := 7) cl_0.1 (wE_7 _ cl_0.2) rfl aw_165 aw_166 (x_X7_quarrel l D y ad ((xs (6 * k + 1))) ((xs (6 * k + 2))) ((xs (6 * k + 3))) ((xs (6 * k + 4))) M _ (z2_quarrel hI)) aw_164 aw_167 aw_2 (by decide +kernel) ⟨Nat.le_of_ble_eq_true rfl, Nat.le_of_ble_eq_true rfl⟩ rfl (Nat.le_of_ble_eq_true rfl) ⟨by decide, by decide⟩ dL_law_289 ?_
  intro r1 M1 h1
  refine j_pop X rfl dL_law_292 ?_
  refine j_aload_n X 1 rfl rfl dL_law_293 ?_
  refine j_rd X hX hbl hbA hL hk 1 (v := 1) (by decide) (by decide) (by decide) rfl rfl dL_law_294 dL_law_295 dL_law_296 dL_law_297 dL_law_298 ?_
  refine j_rd X hX hbl hbA hL hk 2 (v := 2) (by decide) (by decide) (by decide) rfl rfl dL_law_299 dL_law_300 dL_law_301 dL_law_302 dL_law_303 ?_
  refine j_rd X hX hbl hbA hL hk 3 (v := 3) (by decide) (by decide) (by decide) rfl rfl dL_law_304 dL_law_305 dL_law_306 dL_law_307 dL_law_308 ?_
  refine j_rd X hX hbl hbA hL hk 4 (v := 4) (by decide) (by decide) (by decide) rfl rfl dL_law_309 dL_law_310 dL_law_311 dL_law_312 dL_law_313 ?_
  refine j_callVI X (nn := 4) (As := [.int (xs (6 * k + 1)), .int (xs (6 * k + 2)), .int (xs (6 * k + 3)), .int (xs (6 * k + 4))]) (st := []) (ci := 8) cl_79.1 (wE_8 _ cl_79.2) rfl aw_178 aw_179 (x_X8_quarrel l D y ad ((xs (6 * k + 1))) ((xs (6 * k + 2))) ((xs (6 * k + 3))) ((xs (6 * k + 4))) M1 _ h1) aw_177 aw_180 aw_5 (by decide +kernel) ⟨Nat.le_of_ble_eq_true rfl, Nat.le_of_ble_eq_true rfl⟩ rfl (Nat.le_of_ble_eq_true rfl) ⟨by decide, by decide⟩ dL_law_314 ?_
  intro r2 M2 h2
  refine j_pop X rfl dL_law_317 ?_
  refine j_goto X 1475 (by decide) dL_law_318 ?_
  exact hN M2 h2.2
set_option maxRecDepth 100000 in
set_option maxHeartbeats 40000000 in
theorem law_case_3 {p : Program} {l : Launch} {e : Env} {s : State} {m : MethodId} {below : List Frame} {meth : Method} {c : Code} {D : va_G} {y : wY} {ad : Nat → Nat} {M : Mem} {b L kc ks k : Nat} {xs : Nat → Int32} (hL : L ≤ 3072) (hk : 6 * k + 6 ≤ L) (C0 : lw_At p s m meth c b L xs) (X : Amb p m c cL_law 4 s #[Value.ref b] lw_tbl RL D y ad (fun q : Nat => s.heap.size ≤ q)) (hI : Inv2 k M) (hN : ∀ M1, Inv2 (k + 1) M1 → J p l e room_1 s m #[Value.ref b] below meth c kc ks (lw_Z below #[Value.ref b] s) D y ad (fun q : Nat => s.heap.size ≤ q) 4 M1 1475 [(3, .int (nI (6 * k))), (2, .ref (ad 79)), (0, .ref b), (1, .ref (ad 0))] []) (hkc : kc = 92) (hks : ks = 2832) : J p l e room_1 s m #[Value.ref b] below meth c kc ks (lw_Z below #[Value.ref b] s) D y ad (fun q : Nat => s.heap.size ≤ q) 4 M 321 [(3, .int (nI (6 * k))), (2, .ref (ad 79)), (0, .ref b), (1, .ref (ad 0))] [] := by
  subst hkc; subst hks
  obtain ⟨hx, hb, hr, hml, hown, hts, hX, hbl, hlocks, hgv⟩ := id C0
  have hbA : ¬ (fun q : Nat => s.heap.size ≤ q) b := Nat.not_le.mpr hbl
  refine j_aload_n X 3 rfl rfl dL_law_321 ?_
  refine j_rd X hX hbl hbA hL hk 1 (v := 1) (by decide) (by decide) (by decide) rfl rfl dL_law_322 dL_law_323 dL_law_324 dL_law_325 dL_law_326 ?_
  refine j_rd X hX hbl hbA hL hk 2 (v := 2) (by decide) (by decide) (by decide) rfl rfl dL_law_327 dL_law_328 dL_law_329 dL_law_330 dL_law_331 ?_
  refine j_callVI X (nn := 2) (As := [.int (xs (6 * k + 1)), .int (xs (6 * k + 2))]) (st := []) (ci := 7) cl_0.1 (wE_7 _ cl_0.2) rfl aw_187 aw_188 (x_X7_ofQuarrel l D y ad ((xs (6 * k + 1))) ((xs (6 * k + 2))) M _ (z3_ofQuarrel hI)) aw_186 aw_189 aw_2 (by decide +kernel) ⟨Nat.le_of_ble_eq_true rfl, Nat.le_of_ble_eq_true rfl⟩ rfl (Nat.le_of_ble_eq_true rfl) ⟨by decide, by decide⟩ dL_law_332 ?_
  intro r1 M1 h1
  refine j_pop X rfl dL_law_335 ?_
  refine j_aload_n X 1 rfl rfl dL_law_336 ?_
  refine j_rd X hX hbl hbA hL hk 1 (v := 1) (by decide) (by decide) (by decide) rfl rfl dL_law_337 dL_law_338 dL_law_339 dL_law_340 dL_law_341 ?_
  refine j_rd X hX hbl hbA hL hk 2 (v := 2) (by decide) (by decide) (by decide) rfl rfl dL_law_342 dL_law_343 dL_law_344 dL_law_345 dL_law_346 ?_
  refine j_callVI X (nn := 2) (As := [.int (xs (6 * k + 1)), .int (xs (6 * k + 2))]) (st := []) (ci := 8) cl_79.1 (wE_8 _ cl_79.2) rfl aw_227 aw_228 (x_X8_ofQuarrel l D y ad ((xs (6 * k + 1))) ((xs (6 * k + 2))) M1 _ h1) aw_226 aw_229 aw_5 (by decide +kernel) ⟨Nat.le_of_ble_eq_true rfl, Nat.le_of_ble_eq_true rfl⟩ rfl (Nat.le_of_ble_eq_true rfl) ⟨by decide, by decide⟩ dL_law_347 ?_
  intro r2 M2 h2
  refine j_pop X rfl dL_law_350 ?_
  refine j_goto X 1475 (by decide) dL_law_351 ?_
  exact hN M2 h2.2
set_option maxRecDepth 100000 in
set_option maxHeartbeats 40000000 in
theorem law_case_4 {p : Program} {l : Launch} {e : Env} {s : State} {m : MethodId} {below : List Frame} {meth : Method} {c : Code} {D : va_G} {y : wY} {ad : Nat → Nat} {M : Mem} {b L kc ks k : Nat} {xs : Nat → Int32} (hL : L ≤ 3072) (hk : 6 * k + 6 ≤ L) (C0 : lw_At p s m meth c b L xs) (X : Amb p m c cL_law 4 s #[Value.ref b] lw_tbl RL D y ad (fun q : Nat => s.heap.size ≤ q)) (hI : Inv2 k M) (hN : ∀ M1, Inv2 (k + 1) M1 → J p l e room_1 s m #[Value.ref b] below meth c kc ks (lw_Z below #[Value.ref b] s) D y ad (fun q : Nat => s.heap.size ≤ q) 4 M1 1475 [(3, .int (nI (6 * k))), (2, .ref (ad 79)), (0, .ref b), (1, .ref (ad 0))] []) (hkc : kc = 92) (hks : ks = 2832) : J p l e room_1 s m #[Value.ref b] below meth c kc ks (lw_Z below #[Value.ref b] s) D y ad (fun q : Nat => s.heap.size ≤ q) 4 M 354 [(3, .int (nI (6 * k))), (2, .ref (ad 79)), (0, .ref b), (1, .ref (ad 0))] [] := by
  subst hkc; subst hks
  obtain ⟨hx, hb, hr, hml, hown, hts, hX, hbl, hlocks, hgv⟩ := id C0
  have hbA : ¬ (fun q : Nat => s.heap.size ≤ q) b := Nat.not_le.mpr hbl
  refine j_aload_n X 3 rfl rfl dL_law_354 ?_
  refine j_rd X hX hbl hbA hL hk 1 (v := 1) (by decide) (by decide) (by decide) rfl rfl dL_law_355 dL_law_356 dL_law_357 dL_law_358 dL_law_359 ?_
  refine j_rd X hX hbl hbA hL hk 2 (v := 2) (by decide) (by decide) (by decide) rfl rfl dL_law_360 dL_law_361 dL_law_362 dL_law_363 dL_law_364 ?_
  refine j_rd X hX hbl hbA hL hk 3 (v := 3) (by decide) (by decide) (by decide) rfl rfl dL_law_365 dL_law_366 dL_law_367 dL_law_368 dL_law_369 ?_
  refine j_callVI X (nn := 3) (As := [.int (xs (6 * k + 1)), .int (xs (6 * k + 2)), .int (xs (6 * k + 3))]) (st := []) (ci := 7) cl_0.1 (wE_7 _ cl_0.2) rfl aw_261 aw_262 (x_X7_change l D y ad ((xs (6 * k + 1))) ((xs (6 * k + 2))) ((xs (6 * k + 3))) M _ (z2_change hI)) aw_260 aw_263 aw_2 (by decide +kernel) ⟨Nat.le_of_ble_eq_true rfl, Nat.le_of_ble_eq_true rfl⟩ rfl (Nat.le_of_ble_eq_true rfl) ⟨by decide, by decide⟩ dL_law_370 ?_
  intro r1 M1 h1
  refine j_pop X rfl dL_law_373 ?_
  refine j_aload_n X 1 rfl rfl dL_law_374 ?_
  refine j_rd X hX hbl hbA hL hk 1 (v := 1) (by decide) (by decide) (by decide) rfl rfl dL_law_375 dL_law_376 dL_law_377 dL_law_378 dL_law_379 ?_
  refine j_rd X hX hbl hbA hL hk 2 (v := 2) (by decide) (by decide) (by decide) rfl rfl dL_law_380 dL_law_381 dL_law_382 dL_law_383 dL_law_384 ?_
  refine j_rd X hX hbl hbA hL hk 3 (v := 3) (by decide) (by decide) (by decide) rfl rfl dL_law_385 dL_law_386 dL_law_387 dL_law_388 dL_law_389 ?_
  refine j_callVI X (nn := 3) (As := [.int (xs (6 * k + 1)), .int (xs (6 * k + 2)), .int (xs (6 * k + 3))]) (st := []) (ci := 8) cl_79.1 (wE_8 _ cl_79.2) rfl aw_274 aw_275 (x_X8_change l D y ad ((xs (6 * k + 1))) ((xs (6 * k + 2))) ((xs (6 * k + 3))) M1 _ h1) aw_273 aw_276 aw_5 (by decide +kernel) ⟨Nat.le_of_ble_eq_true rfl, Nat.le_of_ble_eq_true rfl⟩ rfl (Nat.le_of_ble_eq_true rfl) ⟨by decide, by decide⟩ dL_law_390 ?_
  intro r2 M2 h2
  refine j_pop X rfl dL_law_393 ?_
  refine j_goto X 1475 (by decide) dL_law_394 ?_
  exact hN M2 h2.2
set_option maxRecDepth 100000 in
set_option maxHeartbeats 40000000 in
theorem law_case_5 {p : Program} {l : Launch} {e : Env} {s : State} {m : MethodId} {below : List Frame} {meth : Method} {c : Code} {D : va_G} {y : wY} {ad : Nat → Nat} {M : Mem} {b L kc ks k : Nat} {xs : Nat → Int32} (hL : L ≤ 3072) (hk : 6 * k + 6 ≤ L) (C0 : lw_At p s m meth c b L xs) (X : Amb p m c cL_law 4 s #[Value.ref b] lw_tbl RL D y ad (fun q : Nat => s.heap.size ≤ q)) (hI : Inv2 k M) (hN : ∀ M1, Inv2 (k + 1) M1 → J p l e room_1 s m #[Value.ref b] below meth c kc ks (lw_Z below #[Value.ref b] s) D y ad (fun q : Nat => s.heap.size ≤ q) 4 M1 1475 [(3, .int (nI (6 * k))), (2, .ref (ad 79)), (0, .ref b), (1, .ref (ad 0))] []) (hkc : kc = 92) (hks : ks = 2832) : J p l e room_1 s m #[Value.ref b] below meth c kc ks (lw_Z below #[Value.ref b] s) D y ad (fun q : Nat => s.heap.size ≤ q) 4 M 397 [(3, .int (nI (6 * k))), (2, .ref (ad 79)), (0, .ref b), (1, .ref (ad 0))] [] := by
  subst hkc; subst hks
  obtain ⟨hx, hb, hr, hml, hown, hts, hX, hbl, hlocks, hgv⟩ := id C0
  have hbA : ¬ (fun q : Nat => s.heap.size ≤ q) b := Nat.not_le.mpr hbl
  refine j_aload_n X 3 rfl rfl dL_law_397 ?_
  refine j_rd X hX hbl hbA hL hk 1 (v := 1) (by decide) (by decide) (by decide) rfl rfl dL_law_398 dL_law_399 dL_law_400 dL_law_401 dL_law_402 ?_
  refine j_rd X hX hbl hbA hL hk 2 (v := 2) (by decide) (by decide) (by decide) rfl rfl dL_law_403 dL_law_404 dL_law_405 dL_law_406 dL_law_407 ?_
  refine j_callVI X (nn := 2) (As := [.int (xs (6 * k + 1)), .int (xs (6 * k + 2))]) (st := []) (ci := 7) cl_0.1 (wE_7 _ cl_0.2) rfl aw_278 aw_279 (x_X7_become l D y ad ((xs (6 * k + 1))) ((xs (6 * k + 2))) M _ (z2_become hI)) aw_277 aw_280 aw_2 (by decide +kernel) ⟨Nat.le_of_ble_eq_true rfl, Nat.le_of_ble_eq_true rfl⟩ rfl (Nat.le_of_ble_eq_true rfl) ⟨by decide, by decide⟩ dL_law_408 ?_
  intro r1 M1 h1
  refine j_pop X rfl dL_law_411 ?_
  refine j_aload_n X 1 rfl rfl dL_law_412 ?_
  refine j_rd X hX hbl hbA hL hk 1 (v := 1) (by decide) (by decide) (by decide) rfl rfl dL_law_413 dL_law_414 dL_law_415 dL_law_416 dL_law_417 ?_
  refine j_rd X hX hbl hbA hL hk 2 (v := 2) (by decide) (by decide) (by decide) rfl rfl dL_law_418 dL_law_419 dL_law_420 dL_law_421 dL_law_422 ?_
  refine j_callVI X (nn := 2) (As := [.int (xs (6 * k + 1)), .int (xs (6 * k + 2))]) (st := []) (ci := 8) cl_79.1 (wE_8 _ cl_79.2) rfl aw_282 aw_283 (x_X8_become l D y ad ((xs (6 * k + 1))) ((xs (6 * k + 2))) M1 _ h1) aw_281 aw_284 aw_5 (by decide +kernel) ⟨Nat.le_of_ble_eq_true rfl, Nat.le_of_ble_eq_true rfl⟩ rfl (Nat.le_of_ble_eq_true rfl) ⟨by decide, by decide⟩ dL_law_423 ?_
  intro r2 M2 h2
  refine j_pop X rfl dL_law_426 ?_
  refine j_goto X 1475 (by decide) dL_law_427 ?_
  exact hN M2 h2.2
set_option maxRecDepth 100000 in
set_option maxHeartbeats 40000000 in
theorem law_case_6 {p : Program} {l : Launch} {e : Env} {s : State} {m : MethodId} {below : List Frame} {meth : Method} {c : Code} {D : va_G} {y : wY} {ad : Nat → Nat} {M : Mem} {b L kc ks k : Nat} {xs : Nat → Int32} (hL : L ≤ 3072) (hk : 6 * k + 6 ≤ L) (C0 : lw_At p s m meth c b L xs) (X : Amb p m c cL_law 4 s #[Value.ref b] lw_tbl RL D y ad (fun q : Nat => s.heap.size ≤ q)) (hI : Inv2 k M) (hN : ∀ M1, Inv2 (k + 1) M1 → J p l e room_1 s m #[Value.ref b] below meth c kc ks (lw_Z below #[Value.ref b] s) D y ad (fun q : Nat => s.heap.size ≤ q) 4 M1 1475 [(3, .int (nI (6 * k))), (2, .ref (ad 79)), (0, .ref b), (1, .ref (ad 0))] []) (hkc : kc = 92) (hks : ks = 2832) : J p l e room_1 s m #[Value.ref b] below meth c kc ks (lw_Z below #[Value.ref b] s) D y ad (fun q : Nat => s.heap.size ≤ q) 4 M 430 [(3, .int (nI (6 * k))), (2, .ref (ad 79)), (0, .ref b), (1, .ref (ad 0))] [] := by
  subst hkc; subst hks
  obtain ⟨hx, hb, hr, hml, hown, hts, hX, hbl, hlocks, hgv⟩ := id C0
  have hbA : ¬ (fun q : Nat => s.heap.size ≤ q) b := Nat.not_le.mpr hbl
  refine j_aload_n X 3 rfl rfl dL_law_430 ?_
  refine j_rd X hX hbl hbA hL hk 1 (v := 1) (by decide) (by decide) (by decide) rfl rfl dL_law_431 dL_law_432 dL_law_433 dL_law_434 dL_law_435 ?_
  refine j_rd X hX hbl hbA hL hk 2 (v := 2) (by decide) (by decide) (by decide) rfl rfl dL_law_436 dL_law_437 dL_law_438 dL_law_439 dL_law_440 ?_
  refine j_callVI X (nn := 2) (As := [.int (xs (6 * k + 1)), .int (xs (6 * k + 2))]) (st := []) (ci := 7) cl_0.1 (wE_7 _ cl_0.2) rfl aw_286 aw_287 (x_X7_as l D y ad ((xs (6 * k + 1))) ((xs (6 * k + 2))) M _ (z2_as hI)) aw_285 aw_288 aw_2 (by decide +kernel) ⟨Nat.le_of_ble_eq_true rfl, Nat.le_of_ble_eq_true rfl⟩ rfl (Nat.le_of_ble_eq_true rfl) ⟨by decide, by decide⟩ dL_law_441 ?_
  intro r1 M1 h1
  refine j_pop X rfl dL_law_444 ?_
  refine j_aload_n X 1 rfl rfl dL_law_445 ?_
  refine j_rd X hX hbl hbA hL hk 1 (v := 1) (by decide) (by decide) (by decide) rfl rfl dL_law_446 dL_law_447 dL_law_448 dL_law_449 dL_law_450 ?_
  refine j_rd X hX hbl hbA hL hk 2 (v := 2) (by decide) (by decide) (by decide) rfl rfl dL_law_451 dL_law_452 dL_law_453 dL_law_454 dL_law_455 ?_
  refine j_callVI X (nn := 2) (As := [.int (xs (6 * k + 1)), .int (xs (6 * k + 2))]) (st := []) (ci := 8) cl_79.1 (wE_8 _ cl_79.2) rfl aw_294 aw_295 (x_X8_as l D y ad ((xs (6 * k + 1))) ((xs (6 * k + 2))) M1 _ h1) aw_293 aw_296 aw_5 (by decide +kernel) ⟨Nat.le_of_ble_eq_true rfl, Nat.le_of_ble_eq_true rfl⟩ rfl (Nat.le_of_ble_eq_true rfl) ⟨by decide, by decide⟩ dL_law_456 ?_
  intro r2 M2 h2
  refine j_pop X rfl dL_law_459 ?_
  refine j_goto X 1475 (by decide) dL_law_460 ?_
  exact hN M2 h2.2
set_option maxRecDepth 100000 in
set_option maxHeartbeats 40000000 in
theorem law_case_7 {p : Program} {l : Launch} {e : Env} {s : State} {m : MethodId} {below : List Frame} {meth : Method} {c : Code} {D : va_G} {y : wY} {ad : Nat → Nat} {M : Mem} {b L kc ks k : Nat} {xs : Nat → Int32} (hL : L ≤ 3072) (hk : 6 * k + 6 ≤ L) (C0 : lw_At p s m meth c b L xs) (X : Amb p m c cL_law 4 s #[Value.ref b] lw_tbl RL D y ad (fun q : Nat => s.heap.size ≤ q)) (hI : Inv2 k M) (hN : ∀ M1, Inv2 (k + 1) M1 → J p l e room_1 s m #[Value.ref b] below meth c kc ks (lw_Z below #[Value.ref b] s) D y ad (fun q : Nat => s.heap.size ≤ q) 4 M1 1475 [(3, .int (nI (6 * k))), (2, .ref (ad 79)), (0, .ref b), (1, .ref (ad 0))] []) (hkc : kc = 92) (hks : ks = 2832) : J p l e room_1 s m #[Value.ref b] below meth c kc ks (lw_Z below #[Value.ref b] s) D y ad (fun q : Nat => s.heap.size ≤ q) 4 M 463 [(3, .int (nI (6 * k))), (2, .ref (ad 79)), (0, .ref b), (1, .ref (ad 0))] [] := by
  subst hkc; subst hks
  obtain ⟨hx, hb, hr, hml, hown, hts, hX, hbl, hlocks, hgv⟩ := id C0
  have hbA : ¬ (fun q : Nat => s.heap.size ≤ q) b := Nat.not_le.mpr hbl
  refine j_aload_n X 3 rfl rfl dL_law_463 ?_
  refine j_rd X hX hbl hbA hL hk 1 (v := 1) (by decide) (by decide) (by decide) rfl rfl dL_law_464 dL_law_465 dL_law_466 dL_law_467 dL_law_468 ?_
  refine j_i2l X dL_law_469 ?_
  refine j_bipush X (v := 32) (by decide) dL_law_470 ?_
  refine j_lshl X dL_law_472 ?_
  refine j_rd X hX hbl hbA hL hk 2 (v := 2) (by decide) (by decide) (by decide) rfl rfl dL_law_473 dL_law_474 dL_law_475 dL_law_476 dL_law_477 ?_
  refine j_i2l X dL_law_478 ?_
  refine j_ldc2 X (v := 4294967295) aw_6 dL_law_479 ?_
  refine j_land X dL_law_482 ?_
  refine j_lor X dL_law_483 ?_
  refine j_rd X hX hbl hbA hL hk 3 (v := 3) (by decide) (by decide) (by decide) rfl rfl dL_law_484 dL_law_485 dL_law_486 dL_law_487 dL_law_488 ?_
  refine j_callVI X (nn := 2) (As := [.long ((((xs (6 * k + 1)).toInt64) <<< ((32 : Int32).toInt64 &&& 63)) ||| (((xs (6 * k + 2)).toInt64) &&& 4294967295)), .int (xs (6 * k + 3))]) (st := []) (ci := 7) cl_0.1 (wE_7 _ cl_0.2) rfl aw_302 aw_303 (x_X7_feed l D y ad (((((xs (6 * k + 1)).toInt64) <<< ((32 : Int32).toInt64 &&& 63)) ||| (((xs (6 * k + 2)).toInt64) &&& 4294967295))) ((xs (6 * k + 3))) M _ (z2_feed hI)) aw_301 aw_304 aw_2 (by decide +kernel) ⟨Nat.le_of_ble_eq_true rfl, Nat.le_of_ble_eq_true rfl⟩ rfl (Nat.le_of_ble_eq_true rfl) ⟨by decide, by decide⟩ dL_law_489 ?_
  intro r1 M1 h1
  refine j_pop X rfl dL_law_492 ?_
  refine j_aload_n X 1 rfl rfl dL_law_493 ?_
  refine j_rd X hX hbl hbA hL hk 1 (v := 1) (by decide) (by decide) (by decide) rfl rfl dL_law_494 dL_law_495 dL_law_496 dL_law_497 dL_law_498 ?_
  refine j_i2l X dL_law_499 ?_
  refine j_bipush X (v := 32) (by decide) dL_law_500 ?_
  refine j_lshl X dL_law_502 ?_
  refine j_rd X hX hbl hbA hL hk 2 (v := 2) (by decide) (by decide) (by decide) rfl rfl dL_law_503 dL_law_504 dL_law_505 dL_law_506 dL_law_507 ?_
  refine j_i2l X dL_law_508 ?_
  refine j_ldc2 X (v := 4294967295) aw_6 dL_law_509 ?_
  refine j_land X dL_law_512 ?_
  refine j_lor X dL_law_513 ?_
  refine j_rd X hX hbl hbA hL hk 3 (v := 3) (by decide) (by decide) (by decide) rfl rfl dL_law_514 dL_law_515 dL_law_516 dL_law_517 dL_law_518 ?_
  refine j_callVI X (nn := 2) (As := [.long ((((xs (6 * k + 1)).toInt64) <<< ((32 : Int32).toInt64 &&& 63)) ||| (((xs (6 * k + 2)).toInt64) &&& 4294967295)), .int (xs (6 * k + 3))]) (st := []) (ci := 8) cl_79.1 (wE_8 _ cl_79.2) rfl aw_306 aw_307 (x_X8_feed l D y ad (((((xs (6 * k + 1)).toInt64) <<< ((32 : Int32).toInt64 &&& 63)) ||| (((xs (6 * k + 2)).toInt64) &&& 4294967295))) ((xs (6 * k + 3))) M1 _ h1) aw_305 aw_308 aw_5 (by decide +kernel) ⟨Nat.le_of_ble_eq_true rfl, Nat.le_of_ble_eq_true rfl⟩ rfl (Nat.le_of_ble_eq_true rfl) ⟨by decide, by decide⟩ dL_law_519 ?_
  intro r2 M2 h2
  refine j_pop X rfl dL_law_522 ?_
  refine j_goto X 1475 (by decide) dL_law_523 ?_
  exact hN M2 h2.2
set_option maxRecDepth 100000 in
set_option maxHeartbeats 40000000 in
theorem law_case_8 {p : Program} {l : Launch} {e : Env} {s : State} {m : MethodId} {below : List Frame} {meth : Method} {c : Code} {D : va_G} {y : wY} {ad : Nat → Nat} {M : Mem} {b L kc ks k : Nat} {xs : Nat → Int32} (hL : L ≤ 3072) (hk : 6 * k + 6 ≤ L) (C0 : lw_At p s m meth c b L xs) (X : Amb p m c cL_law 4 s #[Value.ref b] lw_tbl RL D y ad (fun q : Nat => s.heap.size ≤ q)) (hI : Inv2 k M) (hN : ∀ M1, Inv2 (k + 1) M1 → J p l e room_1 s m #[Value.ref b] below meth c kc ks (lw_Z below #[Value.ref b] s) D y ad (fun q : Nat => s.heap.size ≤ q) 4 M1 1475 [(3, .int (nI (6 * k))), (2, .ref (ad 79)), (0, .ref b), (1, .ref (ad 0))] []) (hkc : kc = 92) (hks : ks = 2832) : J p l e room_1 s m #[Value.ref b] below meth c kc ks (lw_Z below #[Value.ref b] s) D y ad (fun q : Nat => s.heap.size ≤ q) 4 M 526 [(3, .int (nI (6 * k))), (2, .ref (ad 79)), (0, .ref b), (1, .ref (ad 0))] [] := by
  subst hkc; subst hks
  obtain ⟨hx, hb, hr, hml, hown, hts, hX, hbl, hlocks, hgv⟩ := id C0
  have hbA : ¬ (fun q : Nat => s.heap.size ≤ q) b := Nat.not_le.mpr hbl
  refine j_aload_n X 3 rfl rfl dL_law_526 ?_
  refine j_rd X hX hbl hbA hL hk 1 (v := 1) (by decide) (by decide) (by decide) rfl rfl dL_law_527 dL_law_528 dL_law_529 dL_law_530 dL_law_531 ?_
  refine j_callVI X (nn := 1) (As := [.int (xs (6 * k + 1))]) (st := []) (ci := 7) cl_0.1 (wE_7 _ cl_0.2) rfl aw_311 aw_312 (x_X7_text l D y ad ((xs (6 * k + 1))) M _ (z2_text hI)) aw_310 aw_313 aw_2 (by decide +kernel) ⟨Nat.le_of_ble_eq_true rfl, Nat.le_of_ble_eq_true rfl⟩ rfl (Nat.le_of_ble_eq_true rfl) ⟨by decide, by decide⟩ dL_law_532 ?_
  intro r1 M1 h1
  refine j_pop X rfl dL_law_535 ?_
  refine j_aload_n X 1 rfl rfl dL_law_536 ?_
  refine j_rd X hX hbl hbA hL hk 1 (v := 1) (by decide) (by decide) (by decide) rfl rfl dL_law_537 dL_law_538 dL_law_539 dL_law_540 dL_law_541 ?_
  refine j_callVI X (nn := 1) (As := [.int (xs (6 * k + 1))]) (st := []) (ci := 8) cl_79.1 (wE_8 _ cl_79.2) rfl aw_374 aw_375 (x_X8_text l D y ad ((xs (6 * k + 1))) M1 _ h1) aw_373 aw_376 aw_5 (by decide +kernel) ⟨Nat.le_of_ble_eq_true rfl, Nat.le_of_ble_eq_true rfl⟩ rfl (Nat.le_of_ble_eq_true rfl) ⟨by decide, by decide⟩ dL_law_542 ?_
  intro r2 M2 h2
  refine j_pop X rfl dL_law_545 ?_
  refine j_goto X 1475 (by decide) dL_law_546 ?_
  exact hN M2 h2.2
set_option maxRecDepth 100000 in
set_option maxHeartbeats 40000000 in
theorem law_case_9 {p : Program} {l : Launch} {e : Env} {s : State} {m : MethodId} {below : List Frame} {meth : Method} {c : Code} {D : va_G} {y : wY} {ad : Nat → Nat} {M : Mem} {b L kc ks k : Nat} {xs : Nat → Int32} (hL : L ≤ 3072) (hk : 6 * k + 6 ≤ L) (C0 : lw_At p s m meth c b L xs) (X : Amb p m c cL_law 4 s #[Value.ref b] lw_tbl RL D y ad (fun q : Nat => s.heap.size ≤ q)) (hI : Inv2 k M) (hN : ∀ M1, Inv2 (k + 1) M1 → J p l e room_1 s m #[Value.ref b] below meth c kc ks (lw_Z below #[Value.ref b] s) D y ad (fun q : Nat => s.heap.size ≤ q) 4 M1 1475 [(3, .int (nI (6 * k))), (2, .ref (ad 79)), (0, .ref b), (1, .ref (ad 0))] []) (hkc : kc = 92) (hks : ks = 2832) : J p l e room_1 s m #[Value.ref b] below meth c kc ks (lw_Z below #[Value.ref b] s) D y ad (fun q : Nat => s.heap.size ≤ q) 4 M 549 [(3, .int (nI (6 * k))), (2, .ref (ad 79)), (0, .ref b), (1, .ref (ad 0))] [] := by
  subst hkc; subst hks
  obtain ⟨hx, hb, hr, hml, hown, hts, hX, hbl, hlocks, hgv⟩ := id C0
  have hbA : ¬ (fun q : Nat => s.heap.size ≤ q) b := Nat.not_le.mpr hbl
  refine j_aload_n X 3 rfl rfl dL_law_549 ?_
  refine j_rd X hX hbl hbA hL hk 1 (v := 1) (by decide) (by decide) (by decide) rfl rfl dL_law_550 dL_law_551 dL_law_552 dL_law_553 dL_law_554 ?_
  refine j_rd X hX hbl hbA hL hk 2 (v := 2) (by decide) (by decide) (by decide) rfl rfl dL_law_555 dL_law_556 dL_law_557 dL_law_558 dL_law_559 ?_
  refine j_rd X hX hbl hbA hL hk 3 (v := 3) (by decide) (by decide) (by decide) rfl rfl dL_law_560 dL_law_561 dL_law_562 dL_law_563 dL_law_564 ?_
  refine j_rd X hX hbl hbA hL hk 4 (v := 4) (by decide) (by decide) (by decide) rfl rfl dL_law_565 dL_law_566 dL_law_567 dL_law_568 dL_law_569 ?_
  refine j_callVI X (nn := 4) (As := [.int (xs (6 * k + 1)), .int (xs (6 * k + 2)), .int (xs (6 * k + 3)), .int (xs (6 * k + 4))]) (st := []) (ci := 7) cl_0.1 (wE_7 _ cl_0.2) rfl aw_427 aw_428 (x_X7_law l D y ad ((xs (6 * k + 1))) ((xs (6 * k + 2))) ((xs (6 * k + 3))) ((xs (6 * k + 4))) M _ (z2_law hI)) aw_426 aw_429 aw_2 (by decide +kernel) ⟨Nat.le_of_ble_eq_true rfl, Nat.le_of_ble_eq_true rfl⟩ rfl (Nat.le_of_ble_eq_true rfl) ⟨by decide, by decide⟩ dL_law_570 ?_
  intro r1 M1 h1
  refine j_pop X rfl dL_law_573 ?_
  refine j_aload_n X 1 rfl rfl dL_law_574 ?_
  refine j_rd X hX hbl hbA hL hk 1 (v := 1) (by decide) (by decide) (by decide) rfl rfl dL_law_575 dL_law_576 dL_law_577 dL_law_578 dL_law_579 ?_
  refine j_rd X hX hbl hbA hL hk 2 (v := 2) (by decide) (by decide) (by decide) rfl rfl dL_law_580 dL_law_581 dL_law_582 dL_law_583 dL_law_584 ?_
  refine j_rd X hX hbl hbA hL hk 3 (v := 3) (by decide) (by decide) (by decide) rfl rfl dL_law_585 dL_law_586 dL_law_587 dL_law_588 dL_law_589 ?_
  refine j_rd X hX hbl hbA hL hk 4 (v := 4) (by decide) (by decide) (by decide) rfl rfl dL_law_590 dL_law_591 dL_law_592 dL_law_593 dL_law_594 ?_
  refine j_callVI X (nn := 4) (As := [.int (xs (6 * k + 1)), .int (xs (6 * k + 2)), .int (xs (6 * k + 3)), .int (xs (6 * k + 4))]) (st := []) (ci := 8) cl_79.1 (wE_8 _ cl_79.2) rfl aw_431 aw_432 (x_X8_law l D y ad ((xs (6 * k + 1))) ((xs (6 * k + 2))) ((xs (6 * k + 3))) ((xs (6 * k + 4))) M1 _ h1) aw_430 aw_433 aw_5 (by decide +kernel) ⟨Nat.le_of_ble_eq_true rfl, Nat.le_of_ble_eq_true rfl⟩ rfl (Nat.le_of_ble_eq_true rfl) ⟨by decide, by decide⟩ dL_law_595 ?_
  intro r2 M2 h2
  refine j_pop X rfl dL_law_598 ?_
  refine j_goto X 1475 (by decide) dL_law_599 ?_
  exact hN M2 h2.2
set_option maxRecDepth 100000 in
set_option maxHeartbeats 40000000 in
theorem law_case_10 {p : Program} {l : Launch} {e : Env} {s : State} {m : MethodId} {below : List Frame} {meth : Method} {c : Code} {D : va_G} {y : wY} {ad : Nat → Nat} {M : Mem} {b L kc ks k : Nat} {xs : Nat → Int32} (hL : L ≤ 3072) (hk : 6 * k + 6 ≤ L) (C0 : lw_At p s m meth c b L xs) (X : Amb p m c cL_law 4 s #[Value.ref b] lw_tbl RL D y ad (fun q : Nat => s.heap.size ≤ q)) (hI : Inv2 k M) (hN : ∀ M1, Inv2 (k + 1) M1 → J p l e room_1 s m #[Value.ref b] below meth c kc ks (lw_Z below #[Value.ref b] s) D y ad (fun q : Nat => s.heap.size ≤ q) 4 M1 1475 [(3, .int (nI (6 * k))), (2, .ref (ad 79)), (0, .ref b), (1, .ref (ad 0))] []) (hkc : kc = 92) (hks : ks = 2832) : J p l e room_1 s m #[Value.ref b] below meth c kc ks (lw_Z below #[Value.ref b] s) D y ad (fun q : Nat => s.heap.size ≤ q) 4 M 602 [(3, .int (nI (6 * k))), (2, .ref (ad 79)), (0, .ref b), (1, .ref (ad 0))] [] := by
  subst hkc; subst hks
  obtain ⟨hx, hb, hr, hml, hown, hts, hX, hbl, hlocks, hgv⟩ := id C0
  have hbA : ¬ (fun q : Nat => s.heap.size ≤ q) b := Nat.not_le.mpr hbl
  refine j_aload_n X 3 rfl rfl dL_law_602 ?_
  refine j_rd X hX hbl hbA hL hk 1 (v := 1) (by decide) (by decide) (by decide) rfl rfl dL_law_603 dL_law_604 dL_law_605 dL_law_606 dL_law_607 ?_
  refine j_callVI X (nn := 1) (As := [.int (xs (6 * k + 1))]) (st := []) (ci := 7) cl_0.1 (wE_7 _ cl_0.2) rfl aw_435 aw_436 (x_X7_days l D y ad ((xs (6 * k + 1))) M _ (z2_days hI)) aw_434 aw_437 aw_2 (by decide +kernel) ⟨Nat.le_of_ble_eq_true rfl, Nat.le_of_ble_eq_true rfl⟩ rfl (Nat.le_of_ble_eq_true rfl) ⟨by decide, by decide⟩ dL_law_608 ?_
  intro r1 M1 h1
  refine j_pop X rfl dL_law_611 ?_
  refine j_aload_n X 1 rfl rfl dL_law_612 ?_
  refine j_rd X hX hbl hbA hL hk 1 (v := 1) (by decide) (by decide) (by decide) rfl rfl dL_law_613 dL_law_614 dL_law_615 dL_law_616 dL_law_617 ?_
  refine j_callVI X (nn := 1) (As := [.int (xs (6 * k + 1))]) (st := []) (ci := 8) cl_79.1 (wE_8 _ cl_79.2) rfl aw_477 aw_478 (x_X8_days l D y ad ((xs (6 * k + 1))) M1 _ h1) aw_476 aw_479 aw_5 (by decide +kernel) ⟨Nat.le_of_ble_eq_true rfl, Nat.le_of_ble_eq_true rfl⟩ rfl (Nat.le_of_ble_eq_true rfl) ⟨by decide, by decide⟩ dL_law_618 ?_
  intro r2 M2 h2
  refine j_pop X rfl dL_law_621 ?_
  refine j_goto X 1475 (by decide) dL_law_622 ?_
  exact hN M2 h2.2
set_option maxRecDepth 100000 in
set_option maxHeartbeats 40000000 in
theorem law_case_11 {p : Program} {l : Launch} {e : Env} {s : State} {m : MethodId} {below : List Frame} {meth : Method} {c : Code} {D : va_G} {y : wY} {ad : Nat → Nat} {M : Mem} {b L kc ks k : Nat} {xs : Nat → Int32} (hL : L ≤ 3072) (hk : 6 * k + 6 ≤ L) (C0 : lw_At p s m meth c b L xs) (X : Amb p m c cL_law 4 s #[Value.ref b] lw_tbl RL D y ad (fun q : Nat => s.heap.size ≤ q)) (hI : Inv2 k M) (hN : ∀ M1, Inv2 (k + 1) M1 → J p l e room_1 s m #[Value.ref b] below meth c kc ks (lw_Z below #[Value.ref b] s) D y ad (fun q : Nat => s.heap.size ≤ q) 4 M1 1475 [(3, .int (nI (6 * k))), (2, .ref (ad 79)), (0, .ref b), (1, .ref (ad 0))] []) (hkc : kc = 92) (hks : ks = 2832) : J p l e room_1 s m #[Value.ref b] below meth c kc ks (lw_Z below #[Value.ref b] s) D y ad (fun q : Nat => s.heap.size ≤ q) 4 M 625 [(3, .int (nI (6 * k))), (2, .ref (ad 79)), (0, .ref b), (1, .ref (ad 0))] [] := by
  subst hkc; subst hks
  obtain ⟨hx, hb, hr, hml, hown, hts, hX, hbl, hlocks, hgv⟩ := id C0
  have hbA : ¬ (fun q : Nat => s.heap.size ≤ q) b := Nat.not_le.mpr hbl
  refine j_aload_n X 3 rfl rfl dL_law_625 ?_
  refine j_rd X hX hbl hbA hL hk 1 (v := 1) (by decide) (by decide) (by decide) rfl rfl dL_law_626 dL_law_627 dL_law_628 dL_law_629 dL_law_630 ?_
  refine j_callVI X (nn := 1) (As := [.int (xs (6 * k + 1))]) (st := []) (ci := 7) cl_0.1 (wE_7 _ cl_0.2) rfl aw_513 aw_514 (x_X7_loose l D y ad ((xs (6 * k + 1))) M _ (z2_loose hI)) aw_512 aw_515 aw_2 (by decide +kernel) ⟨Nat.le_of_ble_eq_true rfl, Nat.le_of_ble_eq_true rfl⟩ rfl (Nat.le_of_ble_eq_true rfl) ⟨by decide, by decide⟩ dL_law_631 ?_
  intro r1 M1 h1
  refine j_pop X rfl dL_law_634 ?_
  refine j_aload_n X 1 rfl rfl dL_law_635 ?_
  refine j_rd X hX hbl hbA hL hk 1 (v := 1) (by decide) (by decide) (by decide) rfl rfl dL_law_636 dL_law_637 dL_law_638 dL_law_639 dL_law_640 ?_
  refine j_callVI X (nn := 1) (As := [.int (xs (6 * k + 1))]) (st := []) (ci := 8) cl_79.1 (wE_8 _ cl_79.2) rfl aw_521 aw_522 (x_X8_loose l D y ad ((xs (6 * k + 1))) M1 _ h1) aw_520 aw_523 aw_5 (by decide +kernel) ⟨Nat.le_of_ble_eq_true rfl, Nat.le_of_ble_eq_true rfl⟩ rfl (Nat.le_of_ble_eq_true rfl) ⟨by decide, by decide⟩ dL_law_641 ?_
  intro r2 M2 h2
  refine j_pop X rfl dL_law_644 ?_
  refine j_goto X 1475 (by decide) dL_law_645 ?_
  exact hN M2 h2.2
set_option maxRecDepth 100000 in
set_option maxHeartbeats 40000000 in
theorem law_case_12 {p : Program} {l : Launch} {e : Env} {s : State} {m : MethodId} {below : List Frame} {meth : Method} {c : Code} {D : va_G} {y : wY} {ad : Nat → Nat} {M : Mem} {b L kc ks k : Nat} {xs : Nat → Int32} (hL : L ≤ 3072) (hk : 6 * k + 6 ≤ L) (C0 : lw_At p s m meth c b L xs) (X : Amb p m c cL_law 4 s #[Value.ref b] lw_tbl RL D y ad (fun q : Nat => s.heap.size ≤ q)) (hI : Inv2 k M) (hN : ∀ M1, Inv2 (k + 1) M1 → J p l e room_1 s m #[Value.ref b] below meth c kc ks (lw_Z below #[Value.ref b] s) D y ad (fun q : Nat => s.heap.size ≤ q) 4 M1 1475 [(3, .int (nI (6 * k))), (2, .ref (ad 79)), (0, .ref b), (1, .ref (ad 0))] []) (hkc : kc = 92) (hks : ks = 2832) : J p l e room_1 s m #[Value.ref b] below meth c kc ks (lw_Z below #[Value.ref b] s) D y ad (fun q : Nat => s.heap.size ≤ q) 4 M 648 [(3, .int (nI (6 * k))), (2, .ref (ad 79)), (0, .ref b), (1, .ref (ad 0))] [] := by
  subst hkc; subst hks
  obtain ⟨hx, hb, hr, hml, hown, hts, hX, hbl, hlocks, hgv⟩ := id C0
  have hbA : ¬ (fun q : Nat => s.heap.size ≤ q) b := Nat.not_le.mpr hbl
  refine j_aload_n X 3 rfl rfl dL_law_648 ?_
  refine j_rd X hX hbl hbA hL hk 1 (v := 1) (by decide) (by decide) (by decide) rfl rfl dL_law_649 dL_law_650 dL_law_651 dL_law_652 dL_law_653 ?_
  refine j_rd X hX hbl hbA hL hk 2 (v := 2) (by decide) (by decide) (by decide) rfl rfl dL_law_654 dL_law_655 dL_law_656 dL_law_657 dL_law_658 ?_
  refine j_rd X hX hbl hbA hL hk 3 (v := 3) (by decide) (by decide) (by decide) rfl rfl dL_law_659 dL_law_660 dL_law_661 dL_law_662 dL_law_663 ?_
  refine j_callVI X (nn := 3) (As := [.int (xs (6 * k + 1)), .int (xs (6 * k + 2)), .int (xs (6 * k + 3))]) (st := []) (ci := 7) cl_0.1 (wE_7 _ cl_0.2) rfl aw_530 aw_531 (x_X7_then l D y ad ((xs (6 * k + 1))) ((xs (6 * k + 2))) ((xs (6 * k + 3))) M _ (z3_then hI)) aw_529 aw_532 aw_2 (by decide +kernel) ⟨Nat.le_of_ble_eq_true rfl, Nat.le_of_ble_eq_true rfl⟩ rfl (Nat.le_of_ble_eq_true rfl) ⟨by decide, by decide⟩ dL_law_664 ?_
  intro r1 M1 h1
  refine j_pop X rfl dL_law_667 ?_
  refine j_aload_n X 1 rfl rfl dL_law_668 ?_
  refine j_rd X hX hbl hbA hL hk 1 (v := 1) (by decide) (by decide) (by decide) rfl rfl dL_law_669 dL_law_670 dL_law_671 dL_law_672 dL_law_673 ?_
  refine j_rd X hX hbl hbA hL hk 2 (v := 2) (by decide) (by decide) (by decide) rfl rfl dL_law_674 dL_law_675 dL_law_676 dL_law_677 dL_law_678 ?_
  refine j_rd X hX hbl hbA hL hk 3 (v := 3) (by decide) (by decide) (by decide) rfl rfl dL_law_679 dL_law_680 dL_law_681 dL_law_682 dL_law_683 ?_
  refine j_callVI X (nn := 3) (As := [.int (xs (6 * k + 1)), .int (xs (6 * k + 2)), .int (xs (6 * k + 3))]) (st := []) (ci := 8) cl_79.1 (wE_8 _ cl_79.2) rfl aw_549 aw_550 (x_X8_then l D y ad ((xs (6 * k + 1))) ((xs (6 * k + 2))) ((xs (6 * k + 3))) M1 _ h1) aw_548 aw_551 aw_5 (by decide +kernel) ⟨Nat.le_of_ble_eq_true rfl, Nat.le_of_ble_eq_true rfl⟩ rfl (Nat.le_of_ble_eq_true rfl) ⟨by decide, by decide⟩ dL_law_684 ?_
  intro r2 M2 h2
  refine j_pop X rfl dL_law_687 ?_
  refine j_goto X 1475 (by decide) dL_law_688 ?_
  exact hN M2 h2.2
set_option maxRecDepth 100000 in
set_option maxHeartbeats 40000000 in
theorem law_case_13 {p : Program} {l : Launch} {e : Env} {s : State} {m : MethodId} {below : List Frame} {meth : Method} {c : Code} {D : va_G} {y : wY} {ad : Nat → Nat} {M : Mem} {b L kc ks k : Nat} {xs : Nat → Int32} (hL : L ≤ 3072) (hk : 6 * k + 6 ≤ L) (C0 : lw_At p s m meth c b L xs) (X : Amb p m c cL_law 4 s #[Value.ref b] lw_tbl RL D y ad (fun q : Nat => s.heap.size ≤ q)) (hI : Inv2 k M) (hN : ∀ M1, Inv2 (k + 1) M1 → J p l e room_1 s m #[Value.ref b] below meth c kc ks (lw_Z below #[Value.ref b] s) D y ad (fun q : Nat => s.heap.size ≤ q) 4 M1 1475 [(3, .int (nI (6 * k))), (2, .ref (ad 79)), (0, .ref b), (1, .ref (ad 0))] []) (hkc : kc = 92) (hks : ks = 2832) : J p l e room_1 s m #[Value.ref b] below meth c kc ks (lw_Z below #[Value.ref b] s) D y ad (fun q : Nat => s.heap.size ≤ q) 4 M 691 [(3, .int (nI (6 * k))), (2, .ref (ad 79)), (0, .ref b), (1, .ref (ad 0))] [] := by
  subst hkc; subst hks
  obtain ⟨hx, hb, hr, hml, hown, hts, hX, hbl, hlocks, hgv⟩ := id C0
  have hbA : ¬ (fun q : Nat => s.heap.size ≤ q) b := Nat.not_le.mpr hbl
  refine j_aload_n X 3 rfl rfl dL_law_691 ?_
  refine j_rd X hX hbl hbA hL hk 1 (v := 1) (by decide) (by decide) (by decide) rfl rfl dL_law_692 dL_law_693 dL_law_694 dL_law_695 dL_law_696 ?_
  refine j_callVI X (nn := 1) (As := [.int (xs (6 * k + 1))]) (st := []) (ci := 7) cl_0.1 (wE_7 _ cl_0.2) rfl aw_557 aw_558 (x_X7_when l D y ad ((xs (6 * k + 1))) M _ (z3_when hI)) aw_556 aw_559 aw_2 (by decide +kernel) ⟨Nat.le_of_ble_eq_true rfl, Nat.le_of_ble_eq_true rfl⟩ rfl (Nat.le_of_ble_eq_true rfl) ⟨by decide, by decide⟩ dL_law_697 ?_
  intro r1 M1 h1
  refine j_pop X rfl dL_law_700 ?_
  refine j_aload_n X 1 rfl rfl dL_law_701 ?_
  refine j_rd X hX hbl hbA hL hk 1 (v := 1) (by decide) (by decide) (by decide) rfl rfl dL_law_702 dL_law_703 dL_law_704 dL_law_705 dL_law_706 ?_
  refine j_callVI X (nn := 1) (As := [.int (xs (6 * k + 1))]) (st := []) (ci := 8) cl_79.1 (wE_8 _ cl_79.2) rfl aw_562 aw_563 (x_X8_when l D y ad ((xs (6 * k + 1))) M1 _ h1) aw_561 aw_564 aw_5 (by decide +kernel) ⟨Nat.le_of_ble_eq_true rfl, Nat.le_of_ble_eq_true rfl⟩ rfl (Nat.le_of_ble_eq_true rfl) ⟨by decide, by decide⟩ dL_law_707 ?_
  intro r2 M2 h2
  refine j_pop X rfl dL_law_710 ?_
  refine j_goto X 1475 (by decide) dL_law_711 ?_
  exact hN M2 h2.2
set_option maxRecDepth 100000 in
set_option maxHeartbeats 40000000 in
theorem law_case_14 {p : Program} {l : Launch} {e : Env} {s : State} {m : MethodId} {below : List Frame} {meth : Method} {c : Code} {D : va_G} {y : wY} {ad : Nat → Nat} {M : Mem} {b L kc ks k : Nat} {xs : Nat → Int32} (hL : L ≤ 3072) (hk : 6 * k + 6 ≤ L) (C0 : lw_At p s m meth c b L xs) (X : Amb p m c cL_law 4 s #[Value.ref b] lw_tbl RL D y ad (fun q : Nat => s.heap.size ≤ q)) (hI : Inv2 k M) (hN : ∀ M1, Inv2 (k + 1) M1 → J p l e room_1 s m #[Value.ref b] below meth c kc ks (lw_Z below #[Value.ref b] s) D y ad (fun q : Nat => s.heap.size ≤ q) 4 M1 1475 [(3, .int (nI (6 * k))), (2, .ref (ad 79)), (0, .ref b), (1, .ref (ad 0))] []) (hkc : kc = 92) (hks : ks = 2832) : J p l e room_1 s m #[Value.ref b] below meth c kc ks (lw_Z below #[Value.ref b] s) D y ad (fun q : Nat => s.heap.size ≤ q) 4 M 714 [(3, .int (nI (6 * k))), (2, .ref (ad 79)), (0, .ref b), (1, .ref (ad 0))] [] := by
  subst hkc; subst hks
  obtain ⟨hx, hb, hr, hml, hown, hts, hX, hbl, hlocks, hgv⟩ := id C0
  have hbA : ¬ (fun q : Nat => s.heap.size ≤ q) b := Nat.not_le.mpr hbl
  refine j_aload_n X 3 rfl rfl dL_law_714 ?_
  refine j_rd X hX hbl hbA hL hk 1 (v := 1) (by decide) (by decide) (by decide) rfl rfl dL_law_715 dL_law_716 dL_law_717 dL_law_718 dL_law_719 ?_
  refine j_callVI X (nn := 1) (As := [.int (xs (6 * k + 1))]) (st := []) (ci := 7) cl_0.1 (wE_7 _ cl_0.2) rfl aw_567 aw_568 (x_X7_ended l D y ad ((xs (6 * k + 1))) M _ (z3_ended hI)) aw_566 aw_569 aw_2 (by decide +kernel) ⟨Nat.le_of_ble_eq_true rfl, Nat.le_of_ble_eq_true rfl⟩ rfl (Nat.le_of_ble_eq_true rfl) ⟨by decide, by decide⟩ dL_law_720 ?_
  intro r1 M1 h1
  refine j_pop X rfl dL_law_723 ?_
  refine j_aload_n X 1 rfl rfl dL_law_724 ?_
  refine j_rd X hX hbl hbA hL hk 1 (v := 1) (by decide) (by decide) (by decide) rfl rfl dL_law_725 dL_law_726 dL_law_727 dL_law_728 dL_law_729 ?_
  refine j_callVI X (nn := 1) (As := [.int (xs (6 * k + 1))]) (st := []) (ci := 8) cl_79.1 (wE_8 _ cl_79.2) rfl aw_571 aw_572 (x_X8_ended l D y ad ((xs (6 * k + 1))) M1 _ h1) aw_570 aw_573 aw_5 (by decide +kernel) ⟨Nat.le_of_ble_eq_true rfl, Nat.le_of_ble_eq_true rfl⟩ rfl (Nat.le_of_ble_eq_true rfl) ⟨by decide, by decide⟩ dL_law_730 ?_
  intro r2 M2 h2
  refine j_pop X rfl dL_law_733 ?_
  refine j_goto X 1475 (by decide) dL_law_734 ?_
  exact hN M2 h2.2
set_option maxRecDepth 100000 in
set_option maxHeartbeats 40000000 in
theorem law_case_15 {p : Program} {l : Launch} {e : Env} {s : State} {m : MethodId} {below : List Frame} {meth : Method} {c : Code} {D : va_G} {y : wY} {ad : Nat → Nat} {M : Mem} {b L kc ks k : Nat} {xs : Nat → Int32} (hL : L ≤ 3072) (hk : 6 * k + 6 ≤ L) (C0 : lw_At p s m meth c b L xs) (X : Amb p m c cL_law 4 s #[Value.ref b] lw_tbl RL D y ad (fun q : Nat => s.heap.size ≤ q)) (hI : Inv2 k M) (hN : ∀ M1, Inv2 (k + 1) M1 → J p l e room_1 s m #[Value.ref b] below meth c kc ks (lw_Z below #[Value.ref b] s) D y ad (fun q : Nat => s.heap.size ≤ q) 4 M1 1475 [(3, .int (nI (6 * k))), (2, .ref (ad 79)), (0, .ref b), (1, .ref (ad 0))] []) (hkc : kc = 92) (hks : ks = 2832) : J p l e room_1 s m #[Value.ref b] below meth c kc ks (lw_Z below #[Value.ref b] s) D y ad (fun q : Nat => s.heap.size ≤ q) 4 M 737 [(3, .int (nI (6 * k))), (2, .ref (ad 79)), (0, .ref b), (1, .ref (ad 0))] [] := by
  subst hkc; subst hks
  obtain ⟨hx, hb, hr, hml, hown, hts, hX, hbl, hlocks, hgv⟩ := id C0
  have hbA : ¬ (fun q : Nat => s.heap.size ≤ q) b := Nat.not_le.mpr hbl
  refine j_aload_n X 3 rfl rfl dL_law_737 ?_
  refine j_rd X hX hbl hbA hL hk 1 (v := 1) (by decide) (by decide) (by decide) rfl rfl dL_law_738 dL_law_739 dL_law_740 dL_law_741 dL_law_742 ?_
  refine j_rd X hX hbl hbA hL hk 2 (v := 2) (by decide) (by decide) (by decide) rfl rfl dL_law_743 dL_law_744 dL_law_745 dL_law_746 dL_law_747 ?_
  refine j_callVI X (nn := 2) (As := [.int (xs (6 * k + 1)), .int (xs (6 * k + 2))]) (st := []) (ci := 7) cl_0.1 (wE_7 _ cl_0.2) rfl aw_579 aw_580 (x_X7_start l D y ad ((xs (6 * k + 1))) ((xs (6 * k + 2))) M _ (z3_start hI)) aw_578 aw_581 aw_2 (by decide +kernel) ⟨Nat.le_of_ble_eq_true rfl, Nat.le_of_ble_eq_true rfl⟩ rfl (Nat.le_of_ble_eq_true rfl) ⟨by decide, by decide⟩ dL_law_748 ?_
  intro r1 M1 h1
  refine j_pop X rfl dL_law_751 ?_
  refine j_aload_n X 1 rfl rfl dL_law_752 ?_
  refine j_rd X hX hbl hbA hL hk 1 (v := 1) (by decide) (by decide) (by decide) rfl rfl dL_law_753 dL_law_754 dL_law_755 dL_law_756 dL_law_757 ?_
  refine j_rd X hX hbl hbA hL hk 2 (v := 2) (by decide) (by decide) (by decide) rfl rfl dL_law_758 dL_law_759 dL_law_760 dL_law_761 dL_law_762 ?_
  refine j_callVI X (nn := 2) (As := [.int (xs (6 * k + 1)), .int (xs (6 * k + 2))]) (st := []) (ci := 8) cl_79.1 (wE_8 _ cl_79.2) rfl aw_583 aw_584 (x_X8_start l D y ad ((xs (6 * k + 1))) ((xs (6 * k + 2))) M1 _ h1) aw_582 aw_585 aw_5 (by decide +kernel) ⟨Nat.le_of_ble_eq_true rfl, Nat.le_of_ble_eq_true rfl⟩ rfl (Nat.le_of_ble_eq_true rfl) ⟨by decide, by decide⟩ dL_law_763 ?_
  intro r2 M2 h2
  refine j_pop X rfl dL_law_766 ?_
  refine j_goto X 1475 (by decide) dL_law_767 ?_
  exact hN M2 h2.2
set_option maxRecDepth 100000 in
set_option maxHeartbeats 40000000 in
theorem law_case_16 {p : Program} {l : Launch} {e : Env} {s : State} {m : MethodId} {below : List Frame} {meth : Method} {c : Code} {D : va_G} {y : wY} {ad : Nat → Nat} {M : Mem} {b L kc ks k : Nat} {xs : Nat → Int32} (hL : L ≤ 3072) (hk : 6 * k + 6 ≤ L) (C0 : lw_At p s m meth c b L xs) (X : Amb p m c cL_law 4 s #[Value.ref b] lw_tbl RL D y ad (fun q : Nat => s.heap.size ≤ q)) (hI : Inv2 k M) (hN : ∀ M1, Inv2 (k + 1) M1 → J p l e room_1 s m #[Value.ref b] below meth c kc ks (lw_Z below #[Value.ref b] s) D y ad (fun q : Nat => s.heap.size ≤ q) 4 M1 1475 [(3, .int (nI (6 * k))), (2, .ref (ad 79)), (0, .ref b), (1, .ref (ad 0))] []) (hkc : kc = 92) (hks : ks = 2832) : J p l e room_1 s m #[Value.ref b] below meth c kc ks (lw_Z below #[Value.ref b] s) D y ad (fun q : Nat => s.heap.size ≤ q) 4 M 770 [(3, .int (nI (6 * k))), (2, .ref (ad 79)), (0, .ref b), (1, .ref (ad 0))] [] := by
  subst hkc; subst hks
  obtain ⟨hx, hb, hr, hml, hown, hts, hX, hbl, hlocks, hgv⟩ := id C0
  have hbA : ¬ (fun q : Nat => s.heap.size ≤ q) b := Nat.not_le.mpr hbl
  refine j_aload_n X 3 rfl rfl dL_law_770 ?_
  refine j_rd X hX hbl hbA hL hk 1 (v := 1) (by decide) (by decide) (by decide) rfl rfl dL_law_771 dL_law_772 dL_law_773 dL_law_774 dL_law_775 ?_
  refine j_rd X hX hbl hbA hL hk 2 (v := 2) (by decide) (by decide) (by decide) rfl rfl dL_law_776 dL_law_777 dL_law_778 dL_law_779 dL_law_780 ?_
  refine j_callVI X (nn := 2) (As := [.int (xs (6 * k + 1)), .int (xs (6 * k + 2))]) (st := []) (ci := 7) cl_0.1 (wE_7 _ cl_0.2) rfl aw_591 aw_592 (x_X7_pace l D y ad ((xs (6 * k + 1))) ((xs (6 * k + 2))) M _ (z3_pace hI)) aw_590 aw_593 aw_2 (by decide +kernel) ⟨Nat.le_of_ble_eq_true rfl, Nat.le_of_ble_eq_true rfl⟩ rfl (Nat.le_of_ble_eq_true rfl) ⟨by decide, by decide⟩ dL_law_781 ?_
  intro r1 M1 h1
  refine j_pop X rfl dL_law_784 ?_
  refine j_aload_n X 1 rfl rfl dL_law_785 ?_
  refine j_rd X hX hbl hbA hL hk 1 (v := 1) (by decide) (by decide) (by decide) rfl rfl dL_law_786 dL_law_787 dL_law_788 dL_law_789 dL_law_790 ?_
  refine j_rd X hX hbl hbA hL hk 2 (v := 2) (by decide) (by decide) (by decide) rfl rfl dL_law_791 dL_law_792 dL_law_793 dL_law_794 dL_law_795 ?_
  refine j_callVI X (nn := 2) (As := [.int (xs (6 * k + 1)), .int (xs (6 * k + 2))]) (st := []) (ci := 8) cl_79.1 (wE_8 _ cl_79.2) rfl aw_595 aw_596 (x_X8_pace l D y ad ((xs (6 * k + 1))) ((xs (6 * k + 2))) M1 _ h1) aw_594 aw_597 aw_5 (by decide +kernel) ⟨Nat.le_of_ble_eq_true rfl, Nat.le_of_ble_eq_true rfl⟩ rfl (Nat.le_of_ble_eq_true rfl) ⟨by decide, by decide⟩ dL_law_796 ?_
  intro r2 M2 h2
  refine j_pop X rfl dL_law_799 ?_
  refine j_goto X 1475 (by decide) dL_law_800 ?_
  exact hN M2 h2.2
set_option maxRecDepth 100000 in
set_option maxHeartbeats 40000000 in
theorem law_case_17 {p : Program} {l : Launch} {e : Env} {s : State} {m : MethodId} {below : List Frame} {meth : Method} {c : Code} {D : va_G} {y : wY} {ad : Nat → Nat} {M : Mem} {b L kc ks k : Nat} {xs : Nat → Int32} (hL : L ≤ 3072) (hk : 6 * k + 6 ≤ L) (C0 : lw_At p s m meth c b L xs) (X : Amb p m c cL_law 4 s #[Value.ref b] lw_tbl RL D y ad (fun q : Nat => s.heap.size ≤ q)) (hI : Inv2 k M) (hN : ∀ M1, Inv2 (k + 1) M1 → J p l e room_1 s m #[Value.ref b] below meth c kc ks (lw_Z below #[Value.ref b] s) D y ad (fun q : Nat => s.heap.size ≤ q) 4 M1 1475 [(3, .int (nI (6 * k))), (2, .ref (ad 79)), (0, .ref b), (1, .ref (ad 0))] []) (hkc : kc = 92) (hks : ks = 2832) : J p l e room_1 s m #[Value.ref b] below meth c kc ks (lw_Z below #[Value.ref b] s) D y ad (fun q : Nat => s.heap.size ≤ q) 4 M 803 [(3, .int (nI (6 * k))), (2, .ref (ad 79)), (0, .ref b), (1, .ref (ad 0))] [] := by
  subst hkc; subst hks
  obtain ⟨hx, hb, hr, hml, hown, hts, hX, hbl, hlocks, hgv⟩ := id C0
  have hbA : ¬ (fun q : Nat => s.heap.size ≤ q) b := Nat.not_le.mpr hbl
  refine j_aload_n X 3 rfl rfl dL_law_803 ?_
  refine j_rd X hX hbl hbA hL hk 1 (v := 1) (by decide) (by decide) (by decide) rfl rfl dL_law_804 dL_law_805 dL_law_806 dL_law_807 dL_law_808 ?_
  refine j_rd X hX hbl hbA hL hk 2 (v := 2) (by decide) (by decide) (by decide) rfl rfl dL_law_809 dL_law_810 dL_law_811 dL_law_812 dL_law_813 ?_
  refine j_callVI X (nn := 2) (As := [.int (xs (6 * k + 1)), .int (xs (6 * k + 2))]) (st := []) (ci := 7) cl_0.1 (wE_7 _ cl_0.2) rfl aw_599 aw_600 (x_X7_hand l D y ad ((xs (6 * k + 1))) ((xs (6 * k + 2))) M _ (z3_hand hI)) aw_598 aw_601 aw_2 (by decide +kernel) ⟨Nat.le_of_ble_eq_true rfl, Nat.le_of_ble_eq_true rfl⟩ rfl (Nat.le_of_ble_eq_true rfl) ⟨by decide, by decide⟩ dL_law_814 ?_
  intro r1 M1 h1
  refine j_pop X rfl dL_law_817 ?_
  refine j_aload_n X 1 rfl rfl dL_law_818 ?_
  refine j_rd X hX hbl hbA hL hk 1 (v := 1) (by decide) (by decide) (by decide) rfl rfl dL_law_819 dL_law_820 dL_law_821 dL_law_822 dL_law_823 ?_
  refine j_rd X hX hbl hbA hL hk 2 (v := 2) (by decide) (by decide) (by decide) rfl rfl dL_law_824 dL_law_825 dL_law_826 dL_law_827 dL_law_828 ?_
  refine j_callVI X (nn := 2) (As := [.int (xs (6 * k + 1)), .int (xs (6 * k + 2))]) (st := []) (ci := 8) cl_79.1 (wE_8 _ cl_79.2) rfl aw_614 aw_615 (x_X8_hand l D y ad ((xs (6 * k + 1))) ((xs (6 * k + 2))) M1 _ h1) aw_613 aw_616 aw_5 (by decide +kernel) ⟨Nat.le_of_ble_eq_true rfl, Nat.le_of_ble_eq_true rfl⟩ rfl (Nat.le_of_ble_eq_true rfl) ⟨by decide, by decide⟩ dL_law_829 ?_
  intro r2 M2 h2
  refine j_pop X rfl dL_law_832 ?_
  refine j_goto X 1475 (by decide) dL_law_833 ?_
  exact hN M2 h2.2
set_option maxRecDepth 100000 in
set_option maxHeartbeats 40000000 in
theorem law_case_18 {p : Program} {l : Launch} {e : Env} {s : State} {m : MethodId} {below : List Frame} {meth : Method} {c : Code} {D : va_G} {y : wY} {ad : Nat → Nat} {M : Mem} {b L kc ks k : Nat} {xs : Nat → Int32} (hL : L ≤ 3072) (hk : 6 * k + 6 ≤ L) (C0 : lw_At p s m meth c b L xs) (X : Amb p m c cL_law 4 s #[Value.ref b] lw_tbl RL D y ad (fun q : Nat => s.heap.size ≤ q)) (hI : Inv2 k M) (hN : ∀ M1, Inv2 (k + 1) M1 → J p l e room_1 s m #[Value.ref b] below meth c kc ks (lw_Z below #[Value.ref b] s) D y ad (fun q : Nat => s.heap.size ≤ q) 4 M1 1475 [(3, .int (nI (6 * k))), (2, .ref (ad 79)), (0, .ref b), (1, .ref (ad 0))] []) (hkc : kc = 92) (hks : ks = 2832) : J p l e room_1 s m #[Value.ref b] below meth c kc ks (lw_Z below #[Value.ref b] s) D y ad (fun q : Nat => s.heap.size ≤ q) 4 M 836 [(3, .int (nI (6 * k))), (2, .ref (ad 79)), (0, .ref b), (1, .ref (ad 0))] [] := by
  subst hkc; subst hks
  obtain ⟨hx, hb, hr, hml, hown, hts, hX, hbl, hlocks, hgv⟩ := id C0
  have hbA : ¬ (fun q : Nat => s.heap.size ≤ q) b := Nat.not_le.mpr hbl
  refine j_aload_n X 3 rfl rfl dL_law_836 ?_
  refine j_rd X hX hbl hbA hL hk 1 (v := 1) (by decide) (by decide) (by decide) rfl rfl dL_law_837 dL_law_838 dL_law_839 dL_law_840 dL_law_841 ?_
  refine j_rd X hX hbl hbA hL hk 2 (v := 2) (by decide) (by decide) (by decide) rfl rfl dL_law_842 dL_law_843 dL_law_844 dL_law_845 dL_law_846 ?_
  refine j_callVI X (nn := 2) (As := [.int (xs (6 * k + 1)), .int (xs (6 * k + 2))]) (st := []) (ci := 7) cl_0.1 (wE_7 _ cl_0.2) rfl aw_622 aw_623 (x_X7_first l D y ad ((xs (6 * k + 1))) ((xs (6 * k + 2))) M _ (z3_first hI)) aw_621 aw_624 aw_2 (by decide +kernel) ⟨Nat.le_of_ble_eq_true rfl, Nat.le_of_ble_eq_true rfl⟩ rfl (Nat.le_of_ble_eq_true rfl) ⟨by decide, by decide⟩ dL_law_847 ?_
  intro r1 M1 h1
  refine j_pop X rfl dL_law_850 ?_
  refine j_aload_n X 1 rfl rfl dL_law_851 ?_
  refine j_rd X hX hbl hbA hL hk 1 (v := 1) (by decide) (by decide) (by decide) rfl rfl dL_law_852 dL_law_853 dL_law_854 dL_law_855 dL_law_856 ?_
  refine j_rd X hX hbl hbA hL hk 2 (v := 2) (by decide) (by decide) (by decide) rfl rfl dL_law_857 dL_law_858 dL_law_859 dL_law_860 dL_law_861 ?_
  refine j_callVI X (nn := 2) (As := [.int (xs (6 * k + 1)), .int (xs (6 * k + 2))]) (st := []) (ci := 8) cl_79.1 (wE_8 _ cl_79.2) rfl aw_630 aw_631 (x_X8_first l D y ad ((xs (6 * k + 1))) ((xs (6 * k + 2))) M1 _ h1) aw_629 aw_632 aw_5 (by decide +kernel) ⟨Nat.le_of_ble_eq_true rfl, Nat.le_of_ble_eq_true rfl⟩ rfl (Nat.le_of_ble_eq_true rfl) ⟨by decide, by decide⟩ dL_law_862 ?_
  intro r2 M2 h2
  refine j_pop X rfl dL_law_865 ?_
  refine j_goto X 1475 (by decide) dL_law_866 ?_
  exact hN M2 h2.2
set_option maxRecDepth 100000 in
set_option maxHeartbeats 40000000 in
theorem law_case_19 {p : Program} {l : Launch} {e : Env} {s : State} {m : MethodId} {below : List Frame} {meth : Method} {c : Code} {D : va_G} {y : wY} {ad : Nat → Nat} {M : Mem} {b L kc ks k : Nat} {xs : Nat → Int32} (hL : L ≤ 3072) (hk : 6 * k + 6 ≤ L) (C0 : lw_At p s m meth c b L xs) (X : Amb p m c cL_law 4 s #[Value.ref b] lw_tbl RL D y ad (fun q : Nat => s.heap.size ≤ q)) (hI : Inv2 k M) (hN : ∀ M1, Inv2 (k + 1) M1 → J p l e room_1 s m #[Value.ref b] below meth c kc ks (lw_Z below #[Value.ref b] s) D y ad (fun q : Nat => s.heap.size ≤ q) 4 M1 1475 [(3, .int (nI (6 * k))), (2, .ref (ad 79)), (0, .ref b), (1, .ref (ad 0))] []) (hkc : kc = 92) (hks : ks = 2832) : J p l e room_1 s m #[Value.ref b] below meth c kc ks (lw_Z below #[Value.ref b] s) D y ad (fun q : Nat => s.heap.size ≤ q) 4 M 869 [(3, .int (nI (6 * k))), (2, .ref (ad 79)), (0, .ref b), (1, .ref (ad 0))] [] := by
  subst hkc; subst hks
  obtain ⟨hx, hb, hr, hml, hown, hts, hX, hbl, hlocks, hgv⟩ := id C0
  have hbA : ¬ (fun q : Nat => s.heap.size ≤ q) b := Nat.not_le.mpr hbl
  refine j_aload_n X 3 rfl rfl dL_law_869 ?_
  refine j_rd X hX hbl hbA hL hk 1 (v := 1) (by decide) (by decide) (by decide) rfl rfl dL_law_870 dL_law_871 dL_law_872 dL_law_873 dL_law_874 ?_
  refine j_rd X hX hbl hbA hL hk 2 (v := 2) (by decide) (by decide) (by decide) rfl rfl dL_law_875 dL_law_876 dL_law_877 dL_law_878 dL_law_879 ?_
  refine j_callVI X (nn := 2) (As := [.int (xs (6 * k + 1)), .int (xs (6 * k + 2))]) (st := []) (ci := 7) cl_0.1 (wE_7 _ cl_0.2) rfl aw_635 aw_636 (x_X7_sparks l D y ad ((xs (6 * k + 1))) ((xs (6 * k + 2))) M _ (z3_sparks hI)) aw_634 aw_637 aw_2 (by decide +kernel) ⟨Nat.le_of_ble_eq_true rfl, Nat.le_of_ble_eq_true rfl⟩ rfl (Nat.le_of_ble_eq_true rfl) ⟨by decide, by decide⟩ dL_law_880 ?_
  intro r1 M1 h1
  refine j_pop X rfl dL_law_883 ?_
  refine j_aload_n X 1 rfl rfl dL_law_884 ?_
  refine j_rd X hX hbl hbA hL hk 1 (v := 1) (by decide) (by decide) (by decide) rfl rfl dL_law_885 dL_law_886 dL_law_887 dL_law_888 dL_law_889 ?_
  refine j_rd X hX hbl hbA hL hk 2 (v := 2) (by decide) (by decide) (by decide) rfl rfl dL_law_890 dL_law_891 dL_law_892 dL_law_893 dL_law_894 ?_
  refine j_callVI X (nn := 2) (As := [.int (xs (6 * k + 1)), .int (xs (6 * k + 2))]) (st := []) (ci := 8) cl_79.1 (wE_8 _ cl_79.2) rfl aw_649 aw_650 (x_X8_sparks l D y ad ((xs (6 * k + 1))) ((xs (6 * k + 2))) M1 _ h1) aw_648 aw_651 aw_5 (by decide +kernel) ⟨Nat.le_of_ble_eq_true rfl, Nat.le_of_ble_eq_true rfl⟩ rfl (Nat.le_of_ble_eq_true rfl) ⟨by decide, by decide⟩ dL_law_895 ?_
  intro r2 M2 h2
  refine j_pop X rfl dL_law_898 ?_
  refine j_goto X 1475 (by decide) dL_law_899 ?_
  exact hN M2 h2.2
set_option maxRecDepth 100000 in
set_option maxHeartbeats 40000000 in
theorem law_case_20 {p : Program} {l : Launch} {e : Env} {s : State} {m : MethodId} {below : List Frame} {meth : Method} {c : Code} {D : va_G} {y : wY} {ad : Nat → Nat} {M : Mem} {b L kc ks k : Nat} {xs : Nat → Int32} (hL : L ≤ 3072) (hk : 6 * k + 6 ≤ L) (C0 : lw_At p s m meth c b L xs) (X : Amb p m c cL_law 4 s #[Value.ref b] lw_tbl RL D y ad (fun q : Nat => s.heap.size ≤ q)) (hI : Inv2 k M) (hN : ∀ M1, Inv2 (k + 1) M1 → J p l e room_1 s m #[Value.ref b] below meth c kc ks (lw_Z below #[Value.ref b] s) D y ad (fun q : Nat => s.heap.size ≤ q) 4 M1 1475 [(3, .int (nI (6 * k))), (2, .ref (ad 79)), (0, .ref b), (1, .ref (ad 0))] []) (hkc : kc = 92) (hks : ks = 2832) : J p l e room_1 s m #[Value.ref b] below meth c kc ks (lw_Z below #[Value.ref b] s) D y ad (fun q : Nat => s.heap.size ≤ q) 4 M 902 [(3, .int (nI (6 * k))), (2, .ref (ad 79)), (0, .ref b), (1, .ref (ad 0))] [] := by
  subst hkc; subst hks
  obtain ⟨hx, hb, hr, hml, hown, hts, hX, hbl, hlocks, hgv⟩ := id C0
  have hbA : ¬ (fun q : Nat => s.heap.size ≤ q) b := Nat.not_le.mpr hbl
  refine j_aload_n X 3 rfl rfl dL_law_902 ?_
  refine j_rd X hX hbl hbA hL hk 1 (v := 1) (by decide) (by decide) (by decide) rfl rfl dL_law_903 dL_law_904 dL_law_905 dL_law_906 dL_law_907 ?_
  refine j_callVI X (nn := 1) (As := [.int (xs (6 * k + 1))]) (st := []) (ci := 7) cl_0.1 (wE_7 _ cl_0.2) rfl aw_660 aw_661 (x_X7_last l D y ad ((xs (6 * k + 1))) M _ (z3_last hI)) aw_659 aw_662 aw_2 (by decide +kernel) ⟨Nat.le_of_ble_eq_true rfl, Nat.le_of_ble_eq_true rfl⟩ rfl (Nat.le_of_ble_eq_true rfl) ⟨by decide, by decide⟩ dL_law_908 ?_
  intro r1 M1 h1
  refine j_pop X rfl dL_law_911 ?_
  refine j_aload_n X 1 rfl rfl dL_law_912 ?_
  refine j_rd X hX hbl hbA hL hk 1 (v := 1) (by decide) (by decide) (by decide) rfl rfl dL_law_913 dL_law_914 dL_law_915 dL_law_916 dL_law_917 ?_
  refine j_callVI X (nn := 1) (As := [.int (xs (6 * k + 1))]) (st := []) (ci := 8) cl_79.1 (wE_8 _ cl_79.2) rfl aw_667 aw_668 (x_X8_last l D y ad ((xs (6 * k + 1))) M1 _ h1) aw_666 aw_669 aw_5 (by decide +kernel) ⟨Nat.le_of_ble_eq_true rfl, Nat.le_of_ble_eq_true rfl⟩ rfl (Nat.le_of_ble_eq_true rfl) ⟨by decide, by decide⟩ dL_law_918 ?_
  intro r2 M2 h2
  refine j_pop X rfl dL_law_921 ?_
  refine j_goto X 1475 (by decide) dL_law_922 ?_
  exact hN M2 h2.2
set_option maxRecDepth 100000 in
set_option maxHeartbeats 40000000 in
theorem law_case_21 {p : Program} {l : Launch} {e : Env} {s : State} {m : MethodId} {below : List Frame} {meth : Method} {c : Code} {D : va_G} {y : wY} {ad : Nat → Nat} {M : Mem} {b L kc ks k : Nat} {xs : Nat → Int32} (hL : L ≤ 3072) (hk : 6 * k + 6 ≤ L) (C0 : lw_At p s m meth c b L xs) (X : Amb p m c cL_law 4 s #[Value.ref b] lw_tbl RL D y ad (fun q : Nat => s.heap.size ≤ q)) (hI : Inv2 k M) (hN : ∀ M1, Inv2 (k + 1) M1 → J p l e room_1 s m #[Value.ref b] below meth c kc ks (lw_Z below #[Value.ref b] s) D y ad (fun q : Nat => s.heap.size ≤ q) 4 M1 1475 [(3, .int (nI (6 * k))), (2, .ref (ad 79)), (0, .ref b), (1, .ref (ad 0))] []) (hkc : kc = 92) (hks : ks = 2832) : J p l e room_1 s m #[Value.ref b] below meth c kc ks (lw_Z below #[Value.ref b] s) D y ad (fun q : Nat => s.heap.size ≤ q) 4 M 925 [(3, .int (nI (6 * k))), (2, .ref (ad 79)), (0, .ref b), (1, .ref (ad 0))] [] := by
  subst hkc; subst hks
  obtain ⟨hx, hb, hr, hml, hown, hts, hX, hbl, hlocks, hgv⟩ := id C0
  have hbA : ¬ (fun q : Nat => s.heap.size ≤ q) b := Nat.not_le.mpr hbl
  refine j_aload_n X 3 rfl rfl dL_law_925 ?_
  refine j_rd X hX hbl hbA hL hk 1 (v := 1) (by decide) (by decide) (by decide) rfl rfl dL_law_926 dL_law_927 dL_law_928 dL_law_929 dL_law_930 ?_
  refine j_rd X hX hbl hbA hL hk 2 (v := 2) (by decide) (by decide) (by decide) rfl rfl dL_law_931 dL_law_932 dL_law_933 dL_law_934 dL_law_935 ?_
  refine j_callVI X (nn := 2) (As := [.int (xs (6 * k + 1)), .int (xs (6 * k + 2))]) (st := []) (ci := 7) cl_0.1 (wE_7 _ cl_0.2) rfl aw_671 aw_672 (x_X7_sharp l D y ad ((xs (6 * k + 1))) ((xs (6 * k + 2))) M _ (z3_sharp hI)) aw_670 aw_673 aw_2 (by decide +kernel) ⟨Nat.le_of_ble_eq_true rfl, Nat.le_of_ble_eq_true rfl⟩ rfl (Nat.le_of_ble_eq_true rfl) ⟨by decide, by decide⟩ dL_law_936 ?_
  intro r1 M1 h1
  refine j_pop X rfl dL_law_939 ?_
  refine j_aload_n X 1 rfl rfl dL_law_940 ?_
  refine j_rd X hX hbl hbA hL hk 1 (v := 1) (by decide) (by decide) (by decide) rfl rfl dL_law_941 dL_law_942 dL_law_943 dL_law_944 dL_law_945 ?_
  refine j_rd X hX hbl hbA hL hk 2 (v := 2) (by decide) (by decide) (by decide) rfl rfl dL_law_946 dL_law_947 dL_law_948 dL_law_949 dL_law_950 ?_
  refine j_callVI X (nn := 2) (As := [.int (xs (6 * k + 1)), .int (xs (6 * k + 2))]) (st := []) (ci := 8) cl_79.1 (wE_8 _ cl_79.2) rfl aw_675 aw_676 (x_X8_sharp l D y ad ((xs (6 * k + 1))) ((xs (6 * k + 2))) M1 _ h1) aw_674 aw_677 aw_5 (by decide +kernel) ⟨Nat.le_of_ble_eq_true rfl, Nat.le_of_ble_eq_true rfl⟩ rfl (Nat.le_of_ble_eq_true rfl) ⟨by decide, by decide⟩ dL_law_951 ?_
  intro r2 M2 h2
  refine j_pop X rfl dL_law_954 ?_
  refine j_goto X 1475 (by decide) dL_law_955 ?_
  exact hN M2 h2.2
set_option maxRecDepth 100000 in
set_option maxHeartbeats 40000000 in
theorem law_case_22 {p : Program} {l : Launch} {e : Env} {s : State} {m : MethodId} {below : List Frame} {meth : Method} {c : Code} {D : va_G} {y : wY} {ad : Nat → Nat} {M : Mem} {b L kc ks k : Nat} {xs : Nat → Int32} (hL : L ≤ 3072) (hk : 6 * k + 6 ≤ L) (C0 : lw_At p s m meth c b L xs) (X : Amb p m c cL_law 4 s #[Value.ref b] lw_tbl RL D y ad (fun q : Nat => s.heap.size ≤ q)) (hI : Inv2 k M) (hN : ∀ M1, Inv2 (k + 1) M1 → J p l e room_1 s m #[Value.ref b] below meth c kc ks (lw_Z below #[Value.ref b] s) D y ad (fun q : Nat => s.heap.size ≤ q) 4 M1 1475 [(3, .int (nI (6 * k))), (2, .ref (ad 79)), (0, .ref b), (1, .ref (ad 0))] []) (hkc : kc = 92) (hks : ks = 2832) : J p l e room_1 s m #[Value.ref b] below meth c kc ks (lw_Z below #[Value.ref b] s) D y ad (fun q : Nat => s.heap.size ≤ q) 4 M 958 [(3, .int (nI (6 * k))), (2, .ref (ad 79)), (0, .ref b), (1, .ref (ad 0))] [] := by
  subst hkc; subst hks
  obtain ⟨hx, hb, hr, hml, hown, hts, hX, hbl, hlocks, hgv⟩ := id C0
  have hbA : ¬ (fun q : Nat => s.heap.size ≤ q) b := Nat.not_le.mpr hbl
  refine j_aload_n X 3 rfl rfl dL_law_958 ?_
  refine j_rd X hX hbl hbA hL hk 1 (v := 1) (by decide) (by decide) (by decide) rfl rfl dL_law_959 dL_law_960 dL_law_961 dL_law_962 dL_law_963 ?_
  refine j_callVI X (nn := 1) (As := [.int (xs (6 * k + 1))]) (st := []) (ci := 7) cl_0.1 (wE_7 _ cl_0.2) rfl aw_679 aw_680 (x_X7_off l D y ad ((xs (6 * k + 1))) M _ (z3_off hI)) aw_678 aw_681 aw_2 (by decide +kernel) ⟨Nat.le_of_ble_eq_true rfl, Nat.le_of_ble_eq_true rfl⟩ rfl (Nat.le_of_ble_eq_true rfl) ⟨by decide, by decide⟩ dL_law_964 ?_
  intro r1 M1 h1
  refine j_pop X rfl dL_law_967 ?_
  refine j_aload_n X 1 rfl rfl dL_law_968 ?_
  refine j_rd X hX hbl hbA hL hk 1 (v := 1) (by decide) (by decide) (by decide) rfl rfl dL_law_969 dL_law_970 dL_law_971 dL_law_972 dL_law_973 ?_
  refine j_callVI X (nn := 1) (As := [.int (xs (6 * k + 1))]) (st := []) (ci := 8) cl_79.1 (wE_8 _ cl_79.2) rfl aw_683 aw_684 (x_X8_off l D y ad ((xs (6 * k + 1))) M1 _ h1) aw_682 aw_685 aw_5 (by decide +kernel) ⟨Nat.le_of_ble_eq_true rfl, Nat.le_of_ble_eq_true rfl⟩ rfl (Nat.le_of_ble_eq_true rfl) ⟨by decide, by decide⟩ dL_law_974 ?_
  intro r2 M2 h2
  refine j_pop X rfl dL_law_977 ?_
  refine j_goto X 1475 (by decide) dL_law_978 ?_
  exact hN M2 h2.2
set_option maxRecDepth 100000 in
set_option maxHeartbeats 40000000 in
theorem law_case_23 {p : Program} {l : Launch} {e : Env} {s : State} {m : MethodId} {below : List Frame} {meth : Method} {c : Code} {D : va_G} {y : wY} {ad : Nat → Nat} {M : Mem} {b L kc ks k : Nat} {xs : Nat → Int32} (hL : L ≤ 3072) (hk : 6 * k + 6 ≤ L) (C0 : lw_At p s m meth c b L xs) (X : Amb p m c cL_law 4 s #[Value.ref b] lw_tbl RL D y ad (fun q : Nat => s.heap.size ≤ q)) (hI : Inv2 k M) (hN : ∀ M1, Inv2 (k + 1) M1 → J p l e room_1 s m #[Value.ref b] below meth c kc ks (lw_Z below #[Value.ref b] s) D y ad (fun q : Nat => s.heap.size ≤ q) 4 M1 1475 [(3, .int (nI (6 * k))), (2, .ref (ad 79)), (0, .ref b), (1, .ref (ad 0))] []) (hkc : kc = 92) (hks : ks = 2832) : J p l e room_1 s m #[Value.ref b] below meth c kc ks (lw_Z below #[Value.ref b] s) D y ad (fun q : Nat => s.heap.size ≤ q) 4 M 981 [(3, .int (nI (6 * k))), (2, .ref (ad 79)), (0, .ref b), (1, .ref (ad 0))] [] := by
  subst hkc; subst hks
  obtain ⟨hx, hb, hr, hml, hown, hts, hX, hbl, hlocks, hgv⟩ := id C0
  have hbA : ¬ (fun q : Nat => s.heap.size ≤ q) b := Nat.not_le.mpr hbl
  refine j_aload_n X 3 rfl rfl dL_law_981 ?_
  refine j_rd X hX hbl hbA hL hk 1 (v := 1) (by decide) (by decide) (by decide) rfl rfl dL_law_982 dL_law_983 dL_law_984 dL_law_985 dL_law_986 ?_
  refine j_callVI X (nn := 1) (As := [.int (xs (6 * k + 1))]) (st := []) (ci := 7) cl_0.1 (wE_7 _ cl_0.2) rfl aw_687 aw_688 (x_X7_chain l D y ad ((xs (6 * k + 1))) M _ (z2_chain hI)) aw_686 aw_689 aw_2 (by decide +kernel) ⟨Nat.le_of_ble_eq_true rfl, Nat.le_of_ble_eq_true rfl⟩ rfl (Nat.le_of_ble_eq_true rfl) ⟨by decide, by decide⟩ dL_law_987 ?_
  intro r1 M1 h1
  refine j_pop X rfl dL_law_990 ?_
  refine j_aload_n X 1 rfl rfl dL_law_991 ?_
  refine j_rd X hX hbl hbA hL hk 1 (v := 1) (by decide) (by decide) (by decide) rfl rfl dL_law_992 dL_law_993 dL_law_994 dL_law_995 dL_law_996 ?_
  refine j_callVI X (nn := 1) (As := [.int (xs (6 * k + 1))]) (st := []) (ci := 8) cl_79.1 (wE_8 _ cl_79.2) rfl aw_694 aw_695 (x_X8_chain l D y ad ((xs (6 * k + 1))) M1 _ h1) aw_693 aw_696 aw_5 (by decide +kernel) ⟨Nat.le_of_ble_eq_true rfl, Nat.le_of_ble_eq_true rfl⟩ rfl (Nat.le_of_ble_eq_true rfl) ⟨by decide, by decide⟩ dL_law_997 ?_
  intro r2 M2 h2
  refine j_pop X rfl dL_law_1000 ?_
  refine j_goto X 1475 (by decide) dL_law_1001 ?_
  exact hN M2 h2
set_option maxRecDepth 100000 in
set_option maxHeartbeats 40000000 in
theorem law_case_24 {p : Program} {l : Launch} {e : Env} {s : State} {m : MethodId} {below : List Frame} {meth : Method} {c : Code} {D : va_G} {y : wY} {ad : Nat → Nat} {M : Mem} {b L kc ks k : Nat} {xs : Nat → Int32} (hL : L ≤ 3072) (hk : 6 * k + 6 ≤ L) (C0 : lw_At p s m meth c b L xs) (X : Amb p m c cL_law 4 s #[Value.ref b] lw_tbl RL D y ad (fun q : Nat => s.heap.size ≤ q)) (hI : Inv2 k M) (hN : ∀ M1, Inv2 (k + 1) M1 → J p l e room_1 s m #[Value.ref b] below meth c kc ks (lw_Z below #[Value.ref b] s) D y ad (fun q : Nat => s.heap.size ≤ q) 4 M1 1475 [(3, .int (nI (6 * k))), (2, .ref (ad 79)), (0, .ref b), (1, .ref (ad 0))] []) (hkc : kc = 92) (hks : ks = 2832) : J p l e room_1 s m #[Value.ref b] below meth c kc ks (lw_Z below #[Value.ref b] s) D y ad (fun q : Nat => s.heap.size ≤ q) 4 M 1004 [(3, .int (nI (6 * k))), (2, .ref (ad 79)), (0, .ref b), (1, .ref (ad 0))] [] := by
  subst hkc; subst hks
  obtain ⟨hx, hb, hr, hml, hown, hts, hX, hbl, hlocks, hgv⟩ := id C0
  have hbA : ¬ (fun q : Nat => s.heap.size ≤ q) b := Nat.not_le.mpr hbl
  refine j_aload_n X 3 rfl rfl dL_law_1004 ?_
  refine j_rd X hX hbl hbA hL hk 1 (v := 1) (by decide) (by decide) (by decide) rfl rfl dL_law_1005 dL_law_1006 dL_law_1007 dL_law_1008 dL_law_1009 ?_
  refine j_callVI X (nn := 1) (As := [.int (xs (6 * k + 1))]) (st := []) (ci := 7) cl_0.1 (wE_7 _ cl_0.2) rfl aw_698 aw_699 (x_X7_fee l D y ad ((xs (6 * k + 1))) M _ (z3_fee hI)) aw_697 aw_700 aw_2 (by decide +kernel) ⟨Nat.le_of_ble_eq_true rfl, Nat.le_of_ble_eq_true rfl⟩ rfl (Nat.le_of_ble_eq_true rfl) ⟨by decide, by decide⟩ dL_law_1010 ?_
  intro r1 M1 h1
  refine j_pop X rfl dL_law_1013 ?_
  refine j_aload_n X 1 rfl rfl dL_law_1014 ?_
  refine j_rd X hX hbl hbA hL hk 1 (v := 1) (by decide) (by decide) (by decide) rfl rfl dL_law_1015 dL_law_1016 dL_law_1017 dL_law_1018 dL_law_1019 ?_
  refine j_callVI X (nn := 1) (As := [.int (xs (6 * k + 1))]) (st := []) (ci := 8) cl_79.1 (wE_8 _ cl_79.2) rfl aw_702 aw_703 (x_X8_fee l D y ad ((xs (6 * k + 1))) M1 _ h1) aw_701 aw_704 aw_5 (by decide +kernel) ⟨Nat.le_of_ble_eq_true rfl, Nat.le_of_ble_eq_true rfl⟩ rfl (Nat.le_of_ble_eq_true rfl) ⟨by decide, by decide⟩ dL_law_1020 ?_
  intro r2 M2 h2
  refine j_pop X rfl dL_law_1023 ?_
  refine j_goto X 1475 (by decide) dL_law_1024 ?_
  exact hN M2 h2.2
set_option maxRecDepth 100000 in
set_option maxHeartbeats 40000000 in
theorem law_case_25 {p : Program} {l : Launch} {e : Env} {s : State} {m : MethodId} {below : List Frame} {meth : Method} {c : Code} {D : va_G} {y : wY} {ad : Nat → Nat} {M : Mem} {b L kc ks k : Nat} {xs : Nat → Int32} (hL : L ≤ 3072) (hk : 6 * k + 6 ≤ L) (C0 : lw_At p s m meth c b L xs) (X : Amb p m c cL_law 4 s #[Value.ref b] lw_tbl RL D y ad (fun q : Nat => s.heap.size ≤ q)) (hI : Inv2 k M) (hN : ∀ M1, Inv2 (k + 1) M1 → J p l e room_1 s m #[Value.ref b] below meth c kc ks (lw_Z below #[Value.ref b] s) D y ad (fun q : Nat => s.heap.size ≤ q) 4 M1 1475 [(3, .int (nI (6 * k))), (2, .ref (ad 79)), (0, .ref b), (1, .ref (ad 0))] []) (hkc : kc = 92) (hks : ks = 2832) : J p l e room_1 s m #[Value.ref b] below meth c kc ks (lw_Z below #[Value.ref b] s) D y ad (fun q : Nat => s.heap.size ≤ q) 4 M 1027 [(3, .int (nI (6 * k))), (2, .ref (ad 79)), (0, .ref b), (1, .ref (ad 0))] [] := by
  subst hkc; subst hks
  obtain ⟨hx, hb, hr, hml, hown, hts, hX, hbl, hlocks, hgv⟩ := id C0
  have hbA : ¬ (fun q : Nat => s.heap.size ≤ q) b := Nat.not_le.mpr hbl
  refine j_aload_n X 3 rfl rfl dL_law_1027 ?_
  refine j_callVI X (nn := 0) (As := []) (st := []) (ci := 7) cl_0.1 (wE_7 _ cl_0.2) rfl aw_706 aw_707 (x_X7_free l D y ad M _ (z3_free hI)) aw_705 aw_708 aw_2 (by decide +kernel) ⟨Nat.le_of_ble_eq_true rfl, Nat.le_of_ble_eq_true rfl⟩ rfl (Nat.le_of_ble_eq_true rfl) ⟨by decide, by decide⟩ dL_law_1028 ?_
  intro r1 M1 h1
  refine j_pop X rfl dL_law_1031 ?_
  refine j_aload_n X 1 rfl rfl dL_law_1032 ?_
  refine j_callVI X (nn := 0) (As := []) (st := []) (ci := 8) cl_79.1 (wE_8 _ cl_79.2) rfl aw_713 aw_714 (x_X8_free l D y ad M1 _ h1) aw_712 aw_715 aw_5 (by decide +kernel) ⟨Nat.le_of_ble_eq_true rfl, Nat.le_of_ble_eq_true rfl⟩ rfl (Nat.le_of_ble_eq_true rfl) ⟨by decide, by decide⟩ dL_law_1033 ?_
  intro r2 M2 h2
  refine j_pop X rfl dL_law_1036 ?_
  refine j_goto X 1475 (by decide) dL_law_1037 ?_
  exact hN M2 h2.2
set_option maxRecDepth 100000 in
set_option maxHeartbeats 40000000 in
theorem law_case_26 {p : Program} {l : Launch} {e : Env} {s : State} {m : MethodId} {below : List Frame} {meth : Method} {c : Code} {D : va_G} {y : wY} {ad : Nat → Nat} {M : Mem} {b L kc ks k : Nat} {xs : Nat → Int32} (hL : L ≤ 3072) (hk : 6 * k + 6 ≤ L) (C0 : lw_At p s m meth c b L xs) (X : Amb p m c cL_law 4 s #[Value.ref b] lw_tbl RL D y ad (fun q : Nat => s.heap.size ≤ q)) (hI : Inv2 k M) (hN : ∀ M1, Inv2 (k + 1) M1 → J p l e room_1 s m #[Value.ref b] below meth c kc ks (lw_Z below #[Value.ref b] s) D y ad (fun q : Nat => s.heap.size ≤ q) 4 M1 1475 [(3, .int (nI (6 * k))), (2, .ref (ad 79)), (0, .ref b), (1, .ref (ad 0))] []) (hkc : kc = 92) (hks : ks = 2832) : J p l e room_1 s m #[Value.ref b] below meth c kc ks (lw_Z below #[Value.ref b] s) D y ad (fun q : Nat => s.heap.size ≤ q) 4 M 1040 [(3, .int (nI (6 * k))), (2, .ref (ad 79)), (0, .ref b), (1, .ref (ad 0))] [] := by
  subst hkc; subst hks
  obtain ⟨hx, hb, hr, hml, hown, hts, hX, hbl, hlocks, hgv⟩ := id C0
  have hbA : ¬ (fun q : Nat => s.heap.size ≤ q) b := Nat.not_le.mpr hbl
  refine j_aload_n X 3 rfl rfl dL_law_1040 ?_
  refine j_rd X hX hbl hbA hL hk 1 (v := 1) (by decide) (by decide) (by decide) rfl rfl dL_law_1041 dL_law_1042 dL_law_1043 dL_law_1044 dL_law_1045 ?_
  refine j_rd X hX hbl hbA hL hk 2 (v := 2) (by decide) (by decide) (by decide) rfl rfl dL_law_1046 dL_law_1047 dL_law_1048 dL_law_1049 dL_law_1050 ?_
  refine j_rd X hX hbl hbA hL hk 3 (v := 3) (by decide) (by decide) (by decide) rfl rfl dL_law_1051 dL_law_1052 dL_law_1053 dL_law_1054 dL_law_1055 ?_
  refine j_callVI X (nn := 3) (As := [.int (xs (6 * k + 1)), .int (xs (6 * k + 2)), .int (xs (6 * k + 3))]) (st := []) (ci := 7) cl_0.1 (wE_7 _ cl_0.2) rfl aw_717 aw_718 (x_X7_odds l D y ad ((xs (6 * k + 1))) ((xs (6 * k + 2))) ((xs (6 * k + 3))) M _ (z3_odds hI)) aw_716 aw_719 aw_2 (by decide +kernel) ⟨Nat.le_of_ble_eq_true rfl, Nat.le_of_ble_eq_true rfl⟩ rfl (Nat.le_of_ble_eq_true rfl) ⟨by decide, by decide⟩ dL_law_1056 ?_
  intro r1 M1 h1
  refine j_pop X rfl dL_law_1059 ?_
  refine j_aload_n X 1 rfl rfl dL_law_1060 ?_
  refine j_rd X hX hbl hbA hL hk 1 (v := 1) (by decide) (by decide) (by decide) rfl rfl dL_law_1061 dL_law_1062 dL_law_1063 dL_law_1064 dL_law_1065 ?_
  refine j_rd X hX hbl hbA hL hk 2 (v := 2) (by decide) (by decide) (by decide) rfl rfl dL_law_1066 dL_law_1067 dL_law_1068 dL_law_1069 dL_law_1070 ?_
  refine j_rd X hX hbl hbA hL hk 3 (v := 3) (by decide) (by decide) (by decide) rfl rfl dL_law_1071 dL_law_1072 dL_law_1073 dL_law_1074 dL_law_1075 ?_
  refine j_callVI X (nn := 3) (As := [.int (xs (6 * k + 1)), .int (xs (6 * k + 2)), .int (xs (6 * k + 3))]) (st := []) (ci := 8) cl_79.1 (wE_8 _ cl_79.2) rfl aw_724 aw_725 (x_X8_odds l D y ad ((xs (6 * k + 1))) ((xs (6 * k + 2))) ((xs (6 * k + 3))) M1 _ h1) aw_723 aw_726 aw_5 (by decide +kernel) ⟨Nat.le_of_ble_eq_true rfl, Nat.le_of_ble_eq_true rfl⟩ rfl (Nat.le_of_ble_eq_true rfl) ⟨by decide, by decide⟩ dL_law_1076 ?_
  intro r2 M2 h2
  refine j_pop X rfl dL_law_1079 ?_
  refine j_goto X 1475 (by decide) dL_law_1080 ?_
  exact hN M2 h2.2
set_option maxRecDepth 100000 in
set_option maxHeartbeats 40000000 in
theorem law_case_27 {p : Program} {l : Launch} {e : Env} {s : State} {m : MethodId} {below : List Frame} {meth : Method} {c : Code} {D : va_G} {y : wY} {ad : Nat → Nat} {M : Mem} {b L kc ks k : Nat} {xs : Nat → Int32} (hL : L ≤ 3072) (hk : 6 * k + 6 ≤ L) (C0 : lw_At p s m meth c b L xs) (X : Amb p m c cL_law 4 s #[Value.ref b] lw_tbl RL D y ad (fun q : Nat => s.heap.size ≤ q)) (hI : Inv2 k M) (hN : ∀ M1, Inv2 (k + 1) M1 → J p l e room_1 s m #[Value.ref b] below meth c kc ks (lw_Z below #[Value.ref b] s) D y ad (fun q : Nat => s.heap.size ≤ q) 4 M1 1475 [(3, .int (nI (6 * k))), (2, .ref (ad 79)), (0, .ref b), (1, .ref (ad 0))] []) (hkc : kc = 92) (hks : ks = 2832) : J p l e room_1 s m #[Value.ref b] below meth c kc ks (lw_Z below #[Value.ref b] s) D y ad (fun q : Nat => s.heap.size ≤ q) 4 M 1083 [(3, .int (nI (6 * k))), (2, .ref (ad 79)), (0, .ref b), (1, .ref (ad 0))] [] := by
  subst hkc; subst hks
  obtain ⟨hx, hb, hr, hml, hown, hts, hX, hbl, hlocks, hgv⟩ := id C0
  have hbA : ¬ (fun q : Nat => s.heap.size ≤ q) b := Nat.not_le.mpr hbl
  refine j_aload_n X 3 rfl rfl dL_law_1083 ?_
  refine j_rd X hX hbl hbA hL hk 1 (v := 1) (by decide) (by decide) (by decide) rfl rfl dL_law_1084 dL_law_1085 dL_law_1086 dL_law_1087 dL_law_1088 ?_
  refine j_callVI X (nn := 1) (As := [.int (xs (6 * k + 1))]) (st := []) (ci := 7) cl_0.1 (wE_7 _ cl_0.2) rfl aw_731 aw_732 (x_X7_seed l D y ad ((xs (6 * k + 1))) M _ (z2_seed hI)) aw_730 aw_733 aw_2 (by decide +kernel) ⟨Nat.le_of_ble_eq_true rfl, Nat.le_of_ble_eq_true rfl⟩ rfl (Nat.le_of_ble_eq_true rfl) ⟨by decide, by decide⟩ dL_law_1089 ?_
  intro r1 M1 h1
  refine j_pop X rfl dL_law_1092 ?_
  refine j_aload_n X 1 rfl rfl dL_law_1093 ?_
  refine j_rd X hX hbl hbA hL hk 1 (v := 1) (by decide) (by decide) (by decide) rfl rfl dL_law_1094 dL_law_1095 dL_law_1096 dL_law_1097 dL_law_1098 ?_
  refine j_callVI X (nn := 1) (As := [.int (xs (6 * k + 1))]) (st := []) (ci := 8) cl_79.1 (wE_8 _ cl_79.2) rfl aw_735 aw_736 (x_X8_seed l D y ad ((xs (6 * k + 1))) M1 _ h1) aw_734 aw_737 aw_5 (by decide +kernel) ⟨Nat.le_of_ble_eq_true rfl, Nat.le_of_ble_eq_true rfl⟩ rfl (Nat.le_of_ble_eq_true rfl) ⟨by decide, by decide⟩ dL_law_1099 ?_
  intro r2 M2 h2
  refine j_pop X rfl dL_law_1102 ?_
  refine j_goto X 1475 (by decide) dL_law_1103 ?_
  exact hN M2 h2.2
set_option maxRecDepth 100000 in
set_option maxHeartbeats 40000000 in
theorem law_case_28 {p : Program} {l : Launch} {e : Env} {s : State} {m : MethodId} {below : List Frame} {meth : Method} {c : Code} {D : va_G} {y : wY} {ad : Nat → Nat} {M : Mem} {b L kc ks k : Nat} {xs : Nat → Int32} (hL : L ≤ 3072) (hk : 6 * k + 6 ≤ L) (C0 : lw_At p s m meth c b L xs) (X : Amb p m c cL_law 4 s #[Value.ref b] lw_tbl RL D y ad (fun q : Nat => s.heap.size ≤ q)) (hI : Inv2 k M) (hN : ∀ M1, Inv2 (k + 1) M1 → J p l e room_1 s m #[Value.ref b] below meth c kc ks (lw_Z below #[Value.ref b] s) D y ad (fun q : Nat => s.heap.size ≤ q) 4 M1 1475 [(3, .int (nI (6 * k))), (2, .ref (ad 79)), (0, .ref b), (1, .ref (ad 0))] []) (hkc : kc = 92) (hks : ks = 2832) : J p l e room_1 s m #[Value.ref b] below meth c kc ks (lw_Z below #[Value.ref b] s) D y ad (fun q : Nat => s.heap.size ≤ q) 4 M 1106 [(3, .int (nI (6 * k))), (2, .ref (ad 79)), (0, .ref b), (1, .ref (ad 0))] [] := by
  subst hkc; subst hks
  obtain ⟨hx, hb, hr, hml, hown, hts, hX, hbl, hlocks, hgv⟩ := id C0
  have hbA : ¬ (fun q : Nat => s.heap.size ≤ q) b := Nat.not_le.mpr hbl
  refine j_aload_n X 3 rfl rfl dL_law_1106 ?_
  refine j_rd X hX hbl hbA hL hk 1 (v := 1) (by decide) (by decide) (by decide) rfl rfl dL_law_1107 dL_law_1108 dL_law_1109 dL_law_1110 dL_law_1111 ?_
  refine j_rd X hX hbl hbA hL hk 2 (v := 2) (by decide) (by decide) (by decide) rfl rfl dL_law_1112 dL_law_1113 dL_law_1114 dL_law_1115 dL_law_1116 ?_
  refine j_rd X hX hbl hbA hL hk 3 (v := 3) (by decide) (by decide) (by decide) rfl rfl dL_law_1117 dL_law_1118 dL_law_1119 dL_law_1120 dL_law_1121 ?_
  refine j_callVI X (nn := 3) (As := [.int (xs (6 * k + 1)), .int (xs (6 * k + 2)), .int (xs (6 * k + 3))]) (st := []) (ci := 7) cl_0.1 (wE_7 _ cl_0.2) rfl aw_739 aw_740 (x_X7_voice l D y ad ((xs (6 * k + 1))) ((xs (6 * k + 2))) ((xs (6 * k + 3))) M _ (z2_voice hI)) aw_738 aw_741 aw_2 (by decide +kernel) ⟨Nat.le_of_ble_eq_true rfl, Nat.le_of_ble_eq_true rfl⟩ rfl (Nat.le_of_ble_eq_true rfl) ⟨by decide, by decide⟩ dL_law_1122 ?_
  intro r1 M1 h1
  refine j_pop X rfl dL_law_1125 ?_
  refine j_aload_n X 1 rfl rfl dL_law_1126 ?_
  refine j_rd X hX hbl hbA hL hk 1 (v := 1) (by decide) (by decide) (by decide) rfl rfl dL_law_1127 dL_law_1128 dL_law_1129 dL_law_1130 dL_law_1131 ?_
  refine j_rd X hX hbl hbA hL hk 2 (v := 2) (by decide) (by decide) (by decide) rfl rfl dL_law_1132 dL_law_1133 dL_law_1134 dL_law_1135 dL_law_1136 ?_
  refine j_rd X hX hbl hbA hL hk 3 (v := 3) (by decide) (by decide) (by decide) rfl rfl dL_law_1137 dL_law_1138 dL_law_1139 dL_law_1140 dL_law_1141 ?_
  refine j_callVI X (nn := 3) (As := [.int (xs (6 * k + 1)), .int (xs (6 * k + 2)), .int (xs (6 * k + 3))]) (st := []) (ci := 8) cl_79.1 (wE_8 _ cl_79.2) rfl aw_773 aw_774 (x_X8_voice l D y ad ((xs (6 * k + 1))) ((xs (6 * k + 2))) ((xs (6 * k + 3))) M1 _ h1) aw_772 aw_775 aw_5 (by decide +kernel) ⟨Nat.le_of_ble_eq_true rfl, Nat.le_of_ble_eq_true rfl⟩ rfl (Nat.le_of_ble_eq_true rfl) ⟨by decide, by decide⟩ dL_law_1142 ?_
  intro r2 M2 h2
  refine j_pop X rfl dL_law_1145 ?_
  refine j_goto X 1475 (by decide) dL_law_1146 ?_
  exact hN M2 h2.2
set_option maxRecDepth 100000 in
set_option maxHeartbeats 40000000 in
theorem law_case_29 {p : Program} {l : Launch} {e : Env} {s : State} {m : MethodId} {below : List Frame} {meth : Method} {c : Code} {D : va_G} {y : wY} {ad : Nat → Nat} {M : Mem} {b L kc ks k : Nat} {xs : Nat → Int32} (hL : L ≤ 3072) (hk : 6 * k + 6 ≤ L) (C0 : lw_At p s m meth c b L xs) (X : Amb p m c cL_law 4 s #[Value.ref b] lw_tbl RL D y ad (fun q : Nat => s.heap.size ≤ q)) (hI : Inv2 k M) (hN : ∀ M1, Inv2 (k + 1) M1 → J p l e room_1 s m #[Value.ref b] below meth c kc ks (lw_Z below #[Value.ref b] s) D y ad (fun q : Nat => s.heap.size ≤ q) 4 M1 1475 [(3, .int (nI (6 * k))), (2, .ref (ad 79)), (0, .ref b), (1, .ref (ad 0))] []) (hkc : kc = 92) (hks : ks = 2832) : J p l e room_1 s m #[Value.ref b] below meth c kc ks (lw_Z below #[Value.ref b] s) D y ad (fun q : Nat => s.heap.size ≤ q) 4 M 1149 [(3, .int (nI (6 * k))), (2, .ref (ad 79)), (0, .ref b), (1, .ref (ad 0))] [] := by
  subst hkc; subst hks
  obtain ⟨hx, hb, hr, hml, hown, hts, hX, hbl, hlocks, hgv⟩ := id C0
  have hbA : ¬ (fun q : Nat => s.heap.size ≤ q) b := Nat.not_le.mpr hbl
  refine j_aload_n X 3 rfl rfl dL_law_1149 ?_
  refine j_rd X hX hbl hbA hL hk 1 (v := 1) (by decide) (by decide) (by decide) rfl rfl dL_law_1150 dL_law_1151 dL_law_1152 dL_law_1153 dL_law_1154 ?_
  refine j_callVI X (nn := 1) (As := [.int (xs (6 * k + 1))]) (st := []) (ci := 7) cl_0.1 (wE_7 _ cl_0.2) rfl aw_801 aw_802 (x_X7_trace l D y ad ((xs (6 * k + 1))) M _ (z2_trace hI)) aw_800 aw_803 aw_2 (by decide +kernel) ⟨Nat.le_of_ble_eq_true rfl, Nat.le_of_ble_eq_true rfl⟩ rfl (Nat.le_of_ble_eq_true rfl) ⟨by decide, by decide⟩ dL_law_1155 ?_
  intro r1 M1 h1
  refine j_pop X rfl dL_law_1158 ?_
  refine j_aload_n X 1 rfl rfl dL_law_1159 ?_
  refine j_rd X hX hbl hbA hL hk 1 (v := 1) (by decide) (by decide) (by decide) rfl rfl dL_law_1160 dL_law_1161 dL_law_1162 dL_law_1163 dL_law_1164 ?_
  refine j_callVI X (nn := 1) (As := [.int (xs (6 * k + 1))]) (st := []) (ci := 8) cl_79.1 (wE_8 _ cl_79.2) rfl aw_805 aw_806 (x_X8_trace l D y ad ((xs (6 * k + 1))) M1 _ h1) aw_804 aw_807 aw_5 (by decide +kernel) ⟨Nat.le_of_ble_eq_true rfl, Nat.le_of_ble_eq_true rfl⟩ rfl (Nat.le_of_ble_eq_true rfl) ⟨by decide, by decide⟩ dL_law_1165 ?_
  intro r2 M2 h2
  refine j_pop X rfl dL_law_1168 ?_
  refine j_goto X 1475 (by decide) dL_law_1169 ?_
  exact hN M2 h2.2
set_option maxRecDepth 100000 in
set_option maxHeartbeats 40000000 in
theorem law_case_30 {p : Program} {l : Launch} {e : Env} {s : State} {m : MethodId} {below : List Frame} {meth : Method} {c : Code} {D : va_G} {y : wY} {ad : Nat → Nat} {M : Mem} {b L kc ks k : Nat} {xs : Nat → Int32} (hL : L ≤ 3072) (hk : 6 * k + 6 ≤ L) (C0 : lw_At p s m meth c b L xs) (X : Amb p m c cL_law 4 s #[Value.ref b] lw_tbl RL D y ad (fun q : Nat => s.heap.size ≤ q)) (hI : Inv2 k M) (hN : ∀ M1, Inv2 (k + 1) M1 → J p l e room_1 s m #[Value.ref b] below meth c kc ks (lw_Z below #[Value.ref b] s) D y ad (fun q : Nat => s.heap.size ≤ q) 4 M1 1475 [(3, .int (nI (6 * k))), (2, .ref (ad 79)), (0, .ref b), (1, .ref (ad 0))] []) (hkc : kc = 92) (hks : ks = 2832) : J p l e room_1 s m #[Value.ref b] below meth c kc ks (lw_Z below #[Value.ref b] s) D y ad (fun q : Nat => s.heap.size ≤ q) 4 M 1172 [(3, .int (nI (6 * k))), (2, .ref (ad 79)), (0, .ref b), (1, .ref (ad 0))] [] := by
  subst hkc; subst hks
  obtain ⟨hx, hb, hr, hml, hown, hts, hX, hbl, hlocks, hgv⟩ := id C0
  have hbA : ¬ (fun q : Nat => s.heap.size ≤ q) b := Nat.not_le.mpr hbl
  refine j_aload_n X 3 rfl rfl dL_law_1172 ?_
  refine j_rd X hX hbl hbA hL hk 1 (v := 1) (by decide) (by decide) (by decide) rfl rfl dL_law_1173 dL_law_1174 dL_law_1175 dL_law_1176 dL_law_1177 ?_
  refine j_rd X hX hbl hbA hL hk 2 (v := 2) (by decide) (by decide) (by decide) rfl rfl dL_law_1178 dL_law_1179 dL_law_1180 dL_law_1181 dL_law_1182 ?_
  refine j_rd X hX hbl hbA hL hk 3 (v := 3) (by decide) (by decide) (by decide) rfl rfl dL_law_1183 dL_law_1184 dL_law_1185 dL_law_1186 dL_law_1187 ?_
  refine j_callVI X (nn := 3) (As := [.int (xs (6 * k + 1)), .int (xs (6 * k + 2)), .int (xs (6 * k + 3))]) (st := []) (ci := 7) cl_0.1 (wE_7 _ cl_0.2) rfl aw_809 aw_810 (x_X7_sheet l D y ad ((xs (6 * k + 1))) ((xs (6 * k + 2))) ((xs (6 * k + 3))) M _ (z2_sheet hI)) aw_808 aw_811 aw_2 (by decide +kernel) ⟨Nat.le_of_ble_eq_true rfl, Nat.le_of_ble_eq_true rfl⟩ rfl (Nat.le_of_ble_eq_true rfl) ⟨by decide, by decide⟩ dL_law_1188 ?_
  intro r1 M1 h1
  refine j_pop X rfl dL_law_1191 ?_
  refine j_aload_n X 1 rfl rfl dL_law_1192 ?_
  refine j_rd X hX hbl hbA hL hk 1 (v := 1) (by decide) (by decide) (by decide) rfl rfl dL_law_1193 dL_law_1194 dL_law_1195 dL_law_1196 dL_law_1197 ?_
  refine j_rd X hX hbl hbA hL hk 2 (v := 2) (by decide) (by decide) (by decide) rfl rfl dL_law_1198 dL_law_1199 dL_law_1200 dL_law_1201 dL_law_1202 ?_
  refine j_rd X hX hbl hbA hL hk 3 (v := 3) (by decide) (by decide) (by decide) rfl rfl dL_law_1203 dL_law_1204 dL_law_1205 dL_law_1206 dL_law_1207 ?_
  refine j_callVI X (nn := 3) (As := [.int (xs (6 * k + 1)), .int (xs (6 * k + 2)), .int (xs (6 * k + 3))]) (st := []) (ci := 8) cl_79.1 (wE_8 _ cl_79.2) rfl aw_817 aw_818 (x_X8_sheet l D y ad ((xs (6 * k + 1))) ((xs (6 * k + 2))) ((xs (6 * k + 3))) M1 _ h1) aw_816 aw_819 aw_5 (by decide +kernel) ⟨Nat.le_of_ble_eq_true rfl, Nat.le_of_ble_eq_true rfl⟩ rfl (Nat.le_of_ble_eq_true rfl) ⟨by decide, by decide⟩ dL_law_1208 ?_
  intro r2 M2 h2
  refine j_pop X rfl dL_law_1211 ?_
  refine j_goto X 1475 (by decide) dL_law_1212 ?_
  exact hN M2 h2.2
set_option maxRecDepth 100000 in
set_option maxHeartbeats 40000000 in
theorem law_case_31 {p : Program} {l : Launch} {e : Env} {s : State} {m : MethodId} {below : List Frame} {meth : Method} {c : Code} {D : va_G} {y : wY} {ad : Nat → Nat} {M : Mem} {b L kc ks k : Nat} {xs : Nat → Int32} (hL : L ≤ 3072) (hk : 6 * k + 6 ≤ L) (C0 : lw_At p s m meth c b L xs) (X : Amb p m c cL_law 4 s #[Value.ref b] lw_tbl RL D y ad (fun q : Nat => s.heap.size ≤ q)) (hI : Inv2 k M) (hN : ∀ M1, Inv2 (k + 1) M1 → J p l e room_1 s m #[Value.ref b] below meth c kc ks (lw_Z below #[Value.ref b] s) D y ad (fun q : Nat => s.heap.size ≤ q) 4 M1 1475 [(3, .int (nI (6 * k))), (2, .ref (ad 79)), (0, .ref b), (1, .ref (ad 0))] []) (hkc : kc = 92) (hks : ks = 2832) : J p l e room_1 s m #[Value.ref b] below meth c kc ks (lw_Z below #[Value.ref b] s) D y ad (fun q : Nat => s.heap.size ≤ q) 4 M 1215 [(3, .int (nI (6 * k))), (2, .ref (ad 79)), (0, .ref b), (1, .ref (ad 0))] [] := by
  subst hkc; subst hks
  obtain ⟨hx, hb, hr, hml, hown, hts, hX, hbl, hlocks, hgv⟩ := id C0
  have hbA : ¬ (fun q : Nat => s.heap.size ≤ q) b := Nat.not_le.mpr hbl
  refine j_aload_n X 3 rfl rfl dL_law_1215 ?_
  refine j_rd X hX hbl hbA hL hk 1 (v := 1) (by decide) (by decide) (by decide) rfl rfl dL_law_1216 dL_law_1217 dL_law_1218 dL_law_1219 dL_law_1220 ?_
  refine j_rd X hX hbl hbA hL hk 2 (v := 2) (by decide) (by decide) (by decide) rfl rfl dL_law_1221 dL_law_1222 dL_law_1223 dL_law_1224 dL_law_1225 ?_
  refine j_rd X hX hbl hbA hL hk 3 (v := 3) (by decide) (by decide) (by decide) rfl rfl dL_law_1226 dL_law_1227 dL_law_1228 dL_law_1229 dL_law_1230 ?_
  refine j_callVI X (nn := 3) (As := [.int (xs (6 * k + 1)), .int (xs (6 * k + 2)), .int (xs (6 * k + 3))]) (st := []) (ci := 7) cl_0.1 (wE_7 _ cl_0.2) rfl aw_821 aw_822 (x_X7_put l D y ad ((xs (6 * k + 1))) ((xs (6 * k + 2))) ((xs (6 * k + 3))) M _ (z2_put hI)) aw_820 aw_823 aw_2 (by decide +kernel) ⟨Nat.le_of_ble_eq_true rfl, Nat.le_of_ble_eq_true rfl⟩ rfl (Nat.le_of_ble_eq_true rfl) ⟨by decide, by decide⟩ dL_law_1231 ?_
  intro r1 M1 h1
  refine j_pop X rfl dL_law_1234 ?_
  refine j_aload_n X 1 rfl rfl dL_law_1235 ?_
  refine j_rd X hX hbl hbA hL hk 1 (v := 1) (by decide) (by decide) (by decide) rfl rfl dL_law_1236 dL_law_1237 dL_law_1238 dL_law_1239 dL_law_1240 ?_
  refine j_rd X hX hbl hbA hL hk 2 (v := 2) (by decide) (by decide) (by decide) rfl rfl dL_law_1241 dL_law_1242 dL_law_1243 dL_law_1244 dL_law_1245 ?_
  refine j_rd X hX hbl hbA hL hk 3 (v := 3) (by decide) (by decide) (by decide) rfl rfl dL_law_1246 dL_law_1247 dL_law_1248 dL_law_1249 dL_law_1250 ?_
  refine j_callVI X (nn := 3) (As := [.int (xs (6 * k + 1)), .int (xs (6 * k + 2)), .int (xs (6 * k + 3))]) (st := []) (ci := 8) cl_79.1 (wE_8 _ cl_79.2) rfl aw_828 aw_829 (x_X8_put l D y ad ((xs (6 * k + 1))) ((xs (6 * k + 2))) ((xs (6 * k + 3))) M1 _ h1) aw_827 aw_830 aw_5 (by decide +kernel) ⟨Nat.le_of_ble_eq_true rfl, Nat.le_of_ble_eq_true rfl⟩ rfl (Nat.le_of_ble_eq_true rfl) ⟨by decide, by decide⟩ dL_law_1251 ?_
  intro r2 M2 h2
  refine j_pop X rfl dL_law_1254 ?_
  refine j_goto X 1475 (by decide) dL_law_1255 ?_
  exact hN M2 h2.2
set_option maxRecDepth 100000 in
set_option maxHeartbeats 40000000 in
theorem law_case_32 {p : Program} {l : Launch} {e : Env} {s : State} {m : MethodId} {below : List Frame} {meth : Method} {c : Code} {D : va_G} {y : wY} {ad : Nat → Nat} {M : Mem} {b L kc ks k : Nat} {xs : Nat → Int32} (hL : L ≤ 3072) (hk : 6 * k + 6 ≤ L) (C0 : lw_At p s m meth c b L xs) (X : Amb p m c cL_law 4 s #[Value.ref b] lw_tbl RL D y ad (fun q : Nat => s.heap.size ≤ q)) (hI : Inv2 k M) (hN : ∀ M1, Inv2 (k + 1) M1 → J p l e room_1 s m #[Value.ref b] below meth c kc ks (lw_Z below #[Value.ref b] s) D y ad (fun q : Nat => s.heap.size ≤ q) 4 M1 1475 [(3, .int (nI (6 * k))), (2, .ref (ad 79)), (0, .ref b), (1, .ref (ad 0))] []) (hkc : kc = 92) (hks : ks = 2832) : J p l e room_1 s m #[Value.ref b] below meth c kc ks (lw_Z below #[Value.ref b] s) D y ad (fun q : Nat => s.heap.size ≤ q) 4 M 1258 [(3, .int (nI (6 * k))), (2, .ref (ad 79)), (0, .ref b), (1, .ref (ad 0))] [] := by
  subst hkc; subst hks
  obtain ⟨hx, hb, hr, hml, hown, hts, hX, hbl, hlocks, hgv⟩ := id C0
  have hbA : ¬ (fun q : Nat => s.heap.size ≤ q) b := Nat.not_le.mpr hbl
  refine j_aload_n X 3 rfl rfl dL_law_1258 ?_
  refine j_rd X hX hbl hbA hL hk 1 (v := 1) (by decide) (by decide) (by decide) rfl rfl dL_law_1259 dL_law_1260 dL_law_1261 dL_law_1262 dL_law_1263 ?_
  refine j_rd X hX hbl hbA hL hk 2 (v := 2) (by decide) (by decide) (by decide) rfl rfl dL_law_1264 dL_law_1265 dL_law_1266 dL_law_1267 dL_law_1268 ?_
  refine j_rd X hX hbl hbA hL hk 3 (v := 3) (by decide) (by decide) (by decide) rfl rfl dL_law_1269 dL_law_1270 dL_law_1271 dL_law_1272 dL_law_1273 ?_
  refine j_rd X hX hbl hbA hL hk 4 (v := 4) (by decide) (by decide) (by decide) rfl rfl dL_law_1274 dL_law_1275 dL_law_1276 dL_law_1277 dL_law_1278 ?_
  refine j_rd X hX hbl hbA hL hk 5 (v := 5) (by decide) (by decide) (by decide) rfl rfl dL_law_1279 dL_law_1280 dL_law_1281 dL_law_1282 dL_law_1283 ?_
  refine j_callVI X (nn := 5) (As := [.int (xs (6 * k + 1)), .int (xs (6 * k + 2)), .int (xs (6 * k + 3)), .int (xs (6 * k + 4)), .int (xs (6 * k + 5))]) (st := []) (ci := 7) cl_0.1 (wE_7 _ cl_0.2) rfl aw_835 aw_836 (x_X7_move l D y ad ((xs (6 * k + 1))) ((xs (6 * k + 2))) ((xs (6 * k + 3))) ((xs (6 * k + 4))) ((xs (6 * k + 5))) M _ (z2_move hI)) aw_834 aw_837 aw_2 (by decide +kernel) ⟨Nat.le_of_ble_eq_true rfl, Nat.le_of_ble_eq_true rfl⟩ rfl (Nat.le_of_ble_eq_true rfl) ⟨by decide, by decide⟩ dL_law_1284 ?_
  intro r1 M1 h1
  refine j_pop X rfl dL_law_1287 ?_
  refine j_aload_n X 1 rfl rfl dL_law_1288 ?_
  refine j_rd X hX hbl hbA hL hk 1 (v := 1) (by decide) (by decide) (by decide) rfl rfl dL_law_1289 dL_law_1290 dL_law_1291 dL_law_1292 dL_law_1293 ?_
  refine j_rd X hX hbl hbA hL hk 2 (v := 2) (by decide) (by decide) (by decide) rfl rfl dL_law_1294 dL_law_1295 dL_law_1296 dL_law_1297 dL_law_1298 ?_
  refine j_rd X hX hbl hbA hL hk 3 (v := 3) (by decide) (by decide) (by decide) rfl rfl dL_law_1299 dL_law_1300 dL_law_1301 dL_law_1302 dL_law_1303 ?_
  refine j_rd X hX hbl hbA hL hk 4 (v := 4) (by decide) (by decide) (by decide) rfl rfl dL_law_1304 dL_law_1305 dL_law_1306 dL_law_1307 dL_law_1308 ?_
  refine j_rd X hX hbl hbA hL hk 5 (v := 5) (by decide) (by decide) (by decide) rfl rfl dL_law_1309 dL_law_1310 dL_law_1311 dL_law_1312 dL_law_1313 ?_
  refine j_callVI X (nn := 5) (As := [.int (xs (6 * k + 1)), .int (xs (6 * k + 2)), .int (xs (6 * k + 3)), .int (xs (6 * k + 4)), .int (xs (6 * k + 5))]) (st := []) (ci := 8) cl_79.1 (wE_8 _ cl_79.2) rfl aw_843 aw_844 (x_X8_move l D y ad ((xs (6 * k + 1))) ((xs (6 * k + 2))) ((xs (6 * k + 3))) ((xs (6 * k + 4))) ((xs (6 * k + 5))) M1 _ h1) aw_842 aw_845 aw_5 (by decide +kernel) ⟨Nat.le_of_ble_eq_true rfl, Nat.le_of_ble_eq_true rfl⟩ rfl (Nat.le_of_ble_eq_true rfl) ⟨by decide, by decide⟩ dL_law_1314 ?_
  intro r2 M2 h2
  refine j_pop X rfl dL_law_1317 ?_
  refine j_goto X 1475 (by decide) dL_law_1318 ?_
  exact hN M2 h2.2
set_option maxRecDepth 100000 in
set_option maxHeartbeats 40000000 in
theorem law_case_33 {p : Program} {l : Launch} {e : Env} {s : State} {m : MethodId} {below : List Frame} {meth : Method} {c : Code} {D : va_G} {y : wY} {ad : Nat → Nat} {M : Mem} {b L kc ks k : Nat} {xs : Nat → Int32} (hL : L ≤ 3072) (hk : 6 * k + 6 ≤ L) (C0 : lw_At p s m meth c b L xs) (X : Amb p m c cL_law 4 s #[Value.ref b] lw_tbl RL D y ad (fun q : Nat => s.heap.size ≤ q)) (hI : Inv2 k M) (hN : ∀ M1, Inv2 (k + 1) M1 → J p l e room_1 s m #[Value.ref b] below meth c kc ks (lw_Z below #[Value.ref b] s) D y ad (fun q : Nat => s.heap.size ≤ q) 4 M1 1475 [(3, .int (nI (6 * k))), (2, .ref (ad 79)), (0, .ref b), (1, .ref (ad 0))] []) (hkc : kc = 92) (hks : ks = 2832) : J p l e room_1 s m #[Value.ref b] below meth c kc ks (lw_Z below #[Value.ref b] s) D y ad (fun q : Nat => s.heap.size ≤ q) 4 M 1321 [(3, .int (nI (6 * k))), (2, .ref (ad 79)), (0, .ref b), (1, .ref (ad 0))] [] := by
  subst hkc; subst hks
  obtain ⟨hx, hb, hr, hml, hown, hts, hX, hbl, hlocks, hgv⟩ := id C0
  have hbA : ¬ (fun q : Nat => s.heap.size ≤ q) b := Nat.not_le.mpr hbl
  refine j_aload_n X 3 rfl rfl dL_law_1321 ?_
  refine j_rd X hX hbl hbA hL hk 1 (v := 1) (by decide) (by decide) (by decide) rfl rfl dL_law_1322 dL_law_1323 dL_law_1324 dL_law_1325 dL_law_1326 ?_
  refine j_callVI X (nn := 1) (As := [.int (xs (6 * k + 1))]) (st := []) (ci := 7) cl_0.1 (wE_7 _ cl_0.2) rfl aw_847 aw_848 (x_X7_edges l D y ad ((xs (6 * k + 1))) M _ (z2_edges hI)) aw_846 aw_849 aw_2 (by decide +kernel) ⟨Nat.le_of_ble_eq_true rfl, Nat.le_of_ble_eq_true rfl⟩ rfl (Nat.le_of_ble_eq_true rfl) ⟨by decide, by decide⟩ dL_law_1327 ?_
  intro r1 M1 h1
  refine j_pop X rfl dL_law_1330 ?_
  refine j_aload_n X 1 rfl rfl dL_law_1331 ?_
  refine j_rd X hX hbl hbA hL hk 1 (v := 1) (by decide) (by decide) (by decide) rfl rfl dL_law_1332 dL_law_1333 dL_law_1334 dL_law_1335 dL_law_1336 ?_
  refine j_callVI X (nn := 1) (As := [.int (xs (6 * k + 1))]) (st := []) (ci := 8) cl_79.1 (wE_8 _ cl_79.2) rfl aw_852 aw_853 (x_X8_edges l D y ad ((xs (6 * k + 1))) M1 _ h1) aw_851 aw_854 aw_5 (by decide +kernel) ⟨Nat.le_of_ble_eq_true rfl, Nat.le_of_ble_eq_true rfl⟩ rfl (Nat.le_of_ble_eq_true rfl) ⟨by decide, by decide⟩ dL_law_1337 ?_
  intro r2 M2 h2
  refine j_pop X rfl dL_law_1340 ?_
  refine j_goto X 1475 (by decide) dL_law_1341 ?_
  exact hN M2 h2.2
set_option maxRecDepth 100000 in
set_option maxHeartbeats 40000000 in
theorem law_case_34 {p : Program} {l : Launch} {e : Env} {s : State} {m : MethodId} {below : List Frame} {meth : Method} {c : Code} {D : va_G} {y : wY} {ad : Nat → Nat} {M : Mem} {b L kc ks k : Nat} {xs : Nat → Int32} (hL : L ≤ 3072) (hk : 6 * k + 6 ≤ L) (C0 : lw_At p s m meth c b L xs) (X : Amb p m c cL_law 4 s #[Value.ref b] lw_tbl RL D y ad (fun q : Nat => s.heap.size ≤ q)) (hI : Inv2 k M) (hN : ∀ M1, Inv2 (k + 1) M1 → J p l e room_1 s m #[Value.ref b] below meth c kc ks (lw_Z below #[Value.ref b] s) D y ad (fun q : Nat => s.heap.size ≤ q) 4 M1 1475 [(3, .int (nI (6 * k))), (2, .ref (ad 79)), (0, .ref b), (1, .ref (ad 0))] []) (hkc : kc = 92) (hks : ks = 2832) : J p l e room_1 s m #[Value.ref b] below meth c kc ks (lw_Z below #[Value.ref b] s) D y ad (fun q : Nat => s.heap.size ≤ q) 4 M 1344 [(3, .int (nI (6 * k))), (2, .ref (ad 79)), (0, .ref b), (1, .ref (ad 0))] [] := by
  subst hkc; subst hks
  obtain ⟨hx, hb, hr, hml, hown, hts, hX, hbl, hlocks, hgv⟩ := id C0
  have hbA : ¬ (fun q : Nat => s.heap.size ≤ q) b := Nat.not_le.mpr hbl
  refine j_aload_n X 3 rfl rfl dL_law_1344 ?_
  refine j_rd X hX hbl hbA hL hk 1 (v := 1) (by decide) (by decide) (by decide) rfl rfl dL_law_1345 dL_law_1346 dL_law_1347 dL_law_1348 dL_law_1349 ?_
  refine j_callVI X (nn := 1) (As := [.int (xs (6 * k + 1))]) (st := []) (ci := 7) cl_0.1 (wE_7 _ cl_0.2) rfl aw_856 aw_857 (x_X7_judge l D y ad ((xs (6 * k + 1))) M _ (z3_judge hI)) aw_855 aw_858 aw_2 (by decide +kernel) ⟨Nat.le_of_ble_eq_true rfl, Nat.le_of_ble_eq_true rfl⟩ rfl (Nat.le_of_ble_eq_true rfl) ⟨by decide, by decide⟩ dL_law_1350 ?_
  intro r1 M1 h1
  refine j_pop X rfl dL_law_1353 ?_
  refine j_aload_n X 1 rfl rfl dL_law_1354 ?_
  refine j_rd X hX hbl hbA hL hk 1 (v := 1) (by decide) (by decide) (by decide) rfl rfl dL_law_1355 dL_law_1356 dL_law_1357 dL_law_1358 dL_law_1359 ?_
  refine j_callVI X (nn := 1) (As := [.int (xs (6 * k + 1))]) (st := []) (ci := 8) cl_79.1 (wE_8 _ cl_79.2) rfl aw_860 aw_861 (x_X8_judge l D y ad ((xs (6 * k + 1))) M1 _ h1) aw_859 aw_862 aw_5 (by decide +kernel) ⟨Nat.le_of_ble_eq_true rfl, Nat.le_of_ble_eq_true rfl⟩ rfl (Nat.le_of_ble_eq_true rfl) ⟨by decide, by decide⟩ dL_law_1360 ?_
  intro r2 M2 h2
  refine j_pop X rfl dL_law_1363 ?_
  refine j_goto X 1475 (by decide) dL_law_1364 ?_
  exact hN M2 h2.2
set_option maxRecDepth 100000 in
set_option maxHeartbeats 40000000 in
theorem law_case_35 {p : Program} {l : Launch} {e : Env} {s : State} {m : MethodId} {below : List Frame} {meth : Method} {c : Code} {D : va_G} {y : wY} {ad : Nat → Nat} {M : Mem} {b L kc ks k : Nat} {xs : Nat → Int32} (hL : L ≤ 3072) (hk : 6 * k + 6 ≤ L) (C0 : lw_At p s m meth c b L xs) (X : Amb p m c cL_law 4 s #[Value.ref b] lw_tbl RL D y ad (fun q : Nat => s.heap.size ≤ q)) (hI : Inv2 k M) (hN : ∀ M1, Inv2 (k + 1) M1 → J p l e room_1 s m #[Value.ref b] below meth c kc ks (lw_Z below #[Value.ref b] s) D y ad (fun q : Nat => s.heap.size ≤ q) 4 M1 1475 [(3, .int (nI (6 * k))), (2, .ref (ad 79)), (0, .ref b), (1, .ref (ad 0))] []) (hkc : kc = 92) (hks : ks = 2832) : J p l e room_1 s m #[Value.ref b] below meth c kc ks (lw_Z below #[Value.ref b] s) D y ad (fun q : Nat => s.heap.size ≤ q) 4 M 1367 [(3, .int (nI (6 * k))), (2, .ref (ad 79)), (0, .ref b), (1, .ref (ad 0))] [] := by
  subst hkc; subst hks
  obtain ⟨hx, hb, hr, hml, hown, hts, hX, hbl, hlocks, hgv⟩ := id C0
  have hbA : ¬ (fun q : Nat => s.heap.size ≤ q) b := Nat.not_le.mpr hbl
  refine j_aload_n X 3 rfl rfl dL_law_1367 ?_
  refine j_callVI X (nn := 0) (As := []) (st := []) (ci := 7) cl_0.1 (wE_7 _ cl_0.2) rfl aw_864 aw_865 (x_X7_image l D y ad M _ (z2_image hI (by omega))) aw_863 aw_866 aw_2 (by decide +kernel) ⟨Nat.le_of_ble_eq_true rfl, Nat.le_of_ble_eq_true rfl⟩ rfl (Nat.le_of_ble_eq_true rfl) ⟨by decide, by decide⟩ dL_law_1368 ?_
  intro r1 M1 h1
  refine j_pop X rfl dL_law_1371 ?_
  refine j_aload_n X 1 rfl rfl dL_law_1372 ?_
  refine j_callVI X (nn := 0) (As := []) (st := []) (ci := 8) cl_79.1 (wE_8 _ cl_79.2) rfl aw_875 aw_876 (x_X8_image l D y ad M1 _ h1) aw_874 aw_877 aw_5 (by decide +kernel) ⟨Nat.le_of_ble_eq_true rfl, Nat.le_of_ble_eq_true rfl⟩ rfl (Nat.le_of_ble_eq_true rfl) ⟨by decide, by decide⟩ dL_law_1373 ?_
  intro r2 M2 h2
  refine j_pop X rfl dL_law_1376 ?_
  refine j_goto X 1475 (by decide) dL_law_1377 ?_
  exact hN M2 h2.2
set_option maxRecDepth 100000 in
set_option maxHeartbeats 40000000 in
theorem law_case_36 {p : Program} {l : Launch} {e : Env} {s : State} {m : MethodId} {below : List Frame} {meth : Method} {c : Code} {D : va_G} {y : wY} {ad : Nat → Nat} {M : Mem} {b L kc ks k : Nat} {xs : Nat → Int32} (hL : L ≤ 3072) (hk : 6 * k + 6 ≤ L) (C0 : lw_At p s m meth c b L xs) (X : Amb p m c cL_law 4 s #[Value.ref b] lw_tbl RL D y ad (fun q : Nat => s.heap.size ≤ q)) (hI : Inv2 k M) (hN : ∀ M1, Inv2 (k + 1) M1 → J p l e room_1 s m #[Value.ref b] below meth c kc ks (lw_Z below #[Value.ref b] s) D y ad (fun q : Nat => s.heap.size ≤ q) 4 M1 1475 [(3, .int (nI (6 * k))), (2, .ref (ad 79)), (0, .ref b), (1, .ref (ad 0))] []) (hkc : kc = 92) (hks : ks = 2832) : J p l e room_1 s m #[Value.ref b] below meth c kc ks (lw_Z below #[Value.ref b] s) D y ad (fun q : Nat => s.heap.size ≤ q) 4 M 1380 [(3, .int (nI (6 * k))), (2, .ref (ad 79)), (0, .ref b), (1, .ref (ad 0))] [] := by
  subst hkc; subst hks
  obtain ⟨hx, hb, hr, hml, hown, hts, hX, hbl, hlocks, hgv⟩ := id C0
  have hbA : ¬ (fun q : Nat => s.heap.size ≤ q) b := Nat.not_le.mpr hbl
  refine j_aload_n X 3 rfl rfl dL_law_1380 ?_
  refine j_callVI X (nn := 0) (As := []) (st := []) (ci := 7) cl_0.1 (wE_7 _ cl_0.2) rfl aw_881 aw_882 (x_X7_restore l D y ad M _ (z2_restore hI (by omega))) aw_880 aw_883 aw_2 (by decide +kernel) ⟨Nat.le_of_ble_eq_true rfl, Nat.le_of_ble_eq_true rfl⟩ rfl (Nat.le_of_ble_eq_true rfl) ⟨by decide, by decide⟩ dL_law_1381 ?_
  intro r1 M1 h1
  refine j_pop X rfl dL_law_1384 ?_
  refine j_aload_n X 1 rfl rfl dL_law_1385 ?_
  refine j_callVI X (nn := 0) (As := []) (st := []) (ci := 8) cl_79.1 (wE_8 _ cl_79.2) rfl aw_885 aw_886 (x_X8_restore l D y ad M1 _ h1) aw_884 aw_887 aw_5 (by decide +kernel) ⟨Nat.le_of_ble_eq_true rfl, Nat.le_of_ble_eq_true rfl⟩ rfl (Nat.le_of_ble_eq_true rfl) ⟨by decide, by decide⟩ dL_law_1386 ?_
  intro r2 M2 h2
  refine j_pop X rfl dL_law_1389 ?_
  refine j_goto X 1475 (by decide) dL_law_1390 ?_
  exact hN M2 h2.2
set_option maxRecDepth 100000 in
set_option maxHeartbeats 40000000 in
theorem law_case_37 {p : Program} {l : Launch} {e : Env} {s : State} {m : MethodId} {below : List Frame} {meth : Method} {c : Code} {D : va_G} {y : wY} {ad : Nat → Nat} {M : Mem} {b L kc ks k : Nat} {xs : Nat → Int32} (hL : L ≤ 3072) (hk : 6 * k + 6 ≤ L) (C0 : lw_At p s m meth c b L xs) (X : Amb p m c cL_law 4 s #[Value.ref b] lw_tbl RL D y ad (fun q : Nat => s.heap.size ≤ q)) (hI : Inv2 k M) (hN : ∀ M1, Inv2 (k + 1) M1 → J p l e room_1 s m #[Value.ref b] below meth c kc ks (lw_Z below #[Value.ref b] s) D y ad (fun q : Nat => s.heap.size ≤ q) 4 M1 1475 [(3, .int (nI (6 * k))), (2, .ref (ad 79)), (0, .ref b), (1, .ref (ad 0))] []) (hkc : kc = 92) (hks : ks = 2832) : J p l e room_1 s m #[Value.ref b] below meth c kc ks (lw_Z below #[Value.ref b] s) D y ad (fun q : Nat => s.heap.size ≤ q) 4 M 1393 [(3, .int (nI (6 * k))), (2, .ref (ad 79)), (0, .ref b), (1, .ref (ad 0))] [] := by
  subst hkc; subst hks
  obtain ⟨hx, hb, hr, hml, hown, hts, hX, hbl, hlocks, hgv⟩ := id C0
  have hbA : ¬ (fun q : Nat => s.heap.size ≤ q) b := Nat.not_le.mpr hbl
  refine j_aload_n X 3 rfl rfl dL_law_1393 ?_
  refine j_rd X hX hbl hbA hL hk 1 (v := 1) (by decide) (by decide) (by decide) rfl rfl dL_law_1394 dL_law_1395 dL_law_1396 dL_law_1397 dL_law_1398 ?_
  refine j_callVI X (nn := 1) (As := [.int (xs (6 * k + 1))]) (st := []) (ci := 7) cl_0.1 (wE_7 _ cl_0.2) rfl aw_889 aw_890 (x_X7_tell l D y ad ((xs (6 * k + 1))) M _ (z2_tell hI)) aw_888 aw_891 aw_2 (by decide +kernel) ⟨Nat.le_of_ble_eq_true rfl, Nat.le_of_ble_eq_true rfl⟩ rfl (Nat.le_of_ble_eq_true rfl) ⟨by decide, by decide⟩ dL_law_1399 ?_
  intro r1 M1 h1
  refine j_pop X rfl dL_law_1402 ?_
  refine j_aload_n X 1 rfl rfl dL_law_1403 ?_
  refine j_rd X hX hbl hbA hL hk 1 (v := 1) (by decide) (by decide) (by decide) rfl rfl dL_law_1404 dL_law_1405 dL_law_1406 dL_law_1407 dL_law_1408 ?_
  refine j_callVI X (nn := 1) (As := [.int (xs (6 * k + 1))]) (st := []) (ci := 8) cl_79.1 (wE_8 _ cl_79.2) rfl aw_893 aw_894 (x_X8_tell l D y ad ((xs (6 * k + 1))) M1 _ h1) aw_892 aw_895 aw_5 (by decide +kernel) ⟨Nat.le_of_ble_eq_true rfl, Nat.le_of_ble_eq_true rfl⟩ rfl (Nat.le_of_ble_eq_true rfl) ⟨by decide, by decide⟩ dL_law_1409 ?_
  intro r2 M2 h2
  refine j_pop X rfl dL_law_1412 ?_
  refine j_goto X 1475 (by decide) dL_law_1413 ?_
  exact hN M2 h2.2
set_option maxRecDepth 100000 in
set_option maxHeartbeats 40000000 in
theorem law_case_38 {p : Program} {l : Launch} {e : Env} {s : State} {m : MethodId} {below : List Frame} {meth : Method} {c : Code} {D : va_G} {y : wY} {ad : Nat → Nat} {M : Mem} {b L kc ks k : Nat} {xs : Nat → Int32} (hL : L ≤ 3072) (hk : 6 * k + 6 ≤ L) (C0 : lw_At p s m meth c b L xs) (X : Amb p m c cL_law 4 s #[Value.ref b] lw_tbl RL D y ad (fun q : Nat => s.heap.size ≤ q)) (hI : Inv2 k M) (hN : ∀ M1, Inv2 (k + 1) M1 → J p l e room_1 s m #[Value.ref b] below meth c kc ks (lw_Z below #[Value.ref b] s) D y ad (fun q : Nat => s.heap.size ≤ q) 4 M1 1475 [(3, .int (nI (6 * k))), (2, .ref (ad 79)), (0, .ref b), (1, .ref (ad 0))] []) (hkc : kc = 92) (hks : ks = 2832) : J p l e room_1 s m #[Value.ref b] below meth c kc ks (lw_Z below #[Value.ref b] s) D y ad (fun q : Nat => s.heap.size ≤ q) 4 M 1416 [(3, .int (nI (6 * k))), (2, .ref (ad 79)), (0, .ref b), (1, .ref (ad 0))] [] := by
  subst hkc; subst hks
  obtain ⟨hx, hb, hr, hml, hown, hts, hX, hbl, hlocks, hgv⟩ := id C0
  have hbA : ¬ (fun q : Nat => s.heap.size ≤ q) b := Nat.not_le.mpr hbl
  refine j_aload_n X 3 rfl rfl dL_law_1416 ?_
  refine j_callVI X (nn := 0) (As := []) (st := []) (ci := 7) cl_0.1 (wE_7 _ cl_0.2) rfl aw_897 aw_898 (x_X7_check l D y ad M _ (z2_check hI)) aw_896 aw_899 aw_2 (by decide +kernel) ⟨Nat.le_of_ble_eq_true rfl, Nat.le_of_ble_eq_true rfl⟩ rfl (Nat.le_of_ble_eq_true rfl) ⟨by decide, by decide⟩ dL_law_1417 ?_
  intro r1 M1 h1
  refine j_pop X rfl dL_law_1420 ?_
  refine j_aload_n X 1 rfl rfl dL_law_1421 ?_
  refine j_callVI X (nn := 0) (As := []) (st := []) (ci := 8) cl_79.1 (wE_8 _ cl_79.2) rfl aw_901 aw_902 (x_X8_check l D y ad M1 _ h1) aw_900 aw_903 aw_5 (by decide +kernel) ⟨Nat.le_of_ble_eq_true rfl, Nat.le_of_ble_eq_true rfl⟩ rfl (Nat.le_of_ble_eq_true rfl) ⟨by decide, by decide⟩ dL_law_1422 ?_
  intro r2 M2 h2
  refine j_pop X rfl dL_law_1425 ?_
  refine j_goto X 1475 (by decide) dL_law_1426 ?_
  exact hN M2 h2.2
set_option maxRecDepth 100000 in
set_option maxHeartbeats 40000000 in
theorem law_case_39 {p : Program} {l : Launch} {e : Env} {s : State} {m : MethodId} {below : List Frame} {meth : Method} {c : Code} {D : va_G} {y : wY} {ad : Nat → Nat} {M : Mem} {b L kc ks k : Nat} {xs : Nat → Int32} (hL : L ≤ 3072) (hk : 6 * k + 6 ≤ L) (C0 : lw_At p s m meth c b L xs) (X : Amb p m c cL_law 4 s #[Value.ref b] lw_tbl RL D y ad (fun q : Nat => s.heap.size ≤ q)) (hI : Inv2 k M) (hN : ∀ M1, Inv2 (k + 1) M1 → J p l e room_1 s m #[Value.ref b] below meth c kc ks (lw_Z below #[Value.ref b] s) D y ad (fun q : Nat => s.heap.size ≤ q) 4 M1 1475 [(3, .int (nI (6 * k))), (2, .ref (ad 79)), (0, .ref b), (1, .ref (ad 0))] []) (hkc : kc = 92) (hks : ks = 2832) : J p l e room_1 s m #[Value.ref b] below meth c kc ks (lw_Z below #[Value.ref b] s) D y ad (fun q : Nat => s.heap.size ≤ q) 4 M 1429 [(3, .int (nI (6 * k))), (2, .ref (ad 79)), (0, .ref b), (1, .ref (ad 0))] [] := by
  subst hkc; subst hks
  obtain ⟨hx, hb, hr, hml, hown, hts, hX, hbl, hlocks, hgv⟩ := id C0
  have hbA : ¬ (fun q : Nat => s.heap.size ≤ q) b := Nat.not_le.mpr hbl
  refine j_aload_n X 3 rfl rfl dL_law_1429 ?_
  refine j_rd X hX hbl hbA hL hk 1 (v := 1) (by decide) (by decide) (by decide) rfl rfl dL_law_1430 dL_law_1431 dL_law_1432 dL_law_1433 dL_law_1434 ?_
  refine j_callVI X (nn := 1) (As := [.int (xs (6 * k + 1))]) (st := []) (ci := 7) cl_0.1 (wE_7 _ cl_0.2) rfl aw_905 aw_906 (x_X7_count l D y ad ((xs (6 * k + 1))) M _ (z3_count hI)) aw_904 aw_907 aw_2 (by decide +kernel) ⟨Nat.le_of_ble_eq_true rfl, Nat.le_of_ble_eq_true rfl⟩ rfl (Nat.le_of_ble_eq_true rfl) ⟨by decide, by decide⟩ dL_law_1435 ?_
  intro r1 M1 h1
  refine j_aload_n X 1 rfl rfl dL_law_1438 ?_
  refine j_rd X hX hbl hbA hL hk 1 (v := 1) (by decide) (by decide) (by decide) rfl rfl dL_law_1439 dL_law_1440 dL_law_1441 dL_law_1442 dL_law_1443 ?_
  refine j_callVI X (nn := 1) (As := [.int (xs (6 * k + 1))]) (st := [.int r1]) (ci := 8) cl_79.1 (wE_8 _ cl_79.2) rfl aw_912 aw_913 (x_X8_count l D y ad ((xs (6 * k + 1))) M1 _ h1) aw_911 aw_914 aw_5 (by decide +kernel) ⟨Nat.le_of_ble_eq_true rfl, Nat.le_of_ble_eq_true rfl⟩ rfl (Nat.le_of_ble_eq_true rfl) ⟨by decide, by decide⟩ dL_law_1444 ?_
  intro r2 M2 h2
  refine j_icmp_eq X 1475 (by decide) dL_law_1447 (fun _ => ?_) (fun hc => False.elim (hc h2.1))
  exact hN M2 h2.2
set_option maxRecDepth 100000 in
set_option maxHeartbeats 40000000 in
theorem law_case_40 {p : Program} {l : Launch} {e : Env} {s : State} {m : MethodId} {below : List Frame} {meth : Method} {c : Code} {D : va_G} {y : wY} {ad : Nat → Nat} {M : Mem} {b L kc ks k : Nat} {xs : Nat → Int32} (hL : L ≤ 3072) (hk : 6 * k + 6 ≤ L) (C0 : lw_At p s m meth c b L xs) (X : Amb p m c cL_law 4 s #[Value.ref b] lw_tbl RL D y ad (fun q : Nat => s.heap.size ≤ q)) (hI : Inv2 k M) (hN : ∀ M1, Inv2 (k + 1) M1 → J p l e room_1 s m #[Value.ref b] below meth c kc ks (lw_Z below #[Value.ref b] s) D y ad (fun q : Nat => s.heap.size ≤ q) 4 M1 1475 [(3, .int (nI (6 * k))), (2, .ref (ad 79)), (0, .ref b), (1, .ref (ad 0))] []) (hkc : kc = 92) (hks : ks = 2832) : J p l e room_1 s m #[Value.ref b] below meth c kc ks (lw_Z below #[Value.ref b] s) D y ad (fun q : Nat => s.heap.size ≤ q) 4 M 1452 [(3, .int (nI (6 * k))), (2, .ref (ad 79)), (0, .ref b), (1, .ref (ad 0))] [] := by
  subst hkc; subst hks
  obtain ⟨hx, hb, hr, hml, hown, hts, hX, hbl, hlocks, hgv⟩ := id C0
  have hbA : ¬ (fun q : Nat => s.heap.size ≤ q) b := Nat.not_le.mpr hbl
  refine j_aload_n X 3 rfl rfl dL_law_1452 ?_
  refine j_rd X hX hbl hbA hL hk 1 (v := 1) (by decide) (by decide) (by decide) rfl rfl dL_law_1453 dL_law_1454 dL_law_1455 dL_law_1456 dL_law_1457 ?_
  refine j_callVI X (nn := 1) (As := [.int (xs (6 * k + 1))]) (st := []) (ci := 7) cl_0.1 (wE_7 _ cl_0.2) rfl aw_920 aw_921 (x_X7_told l D y ad ((xs (6 * k + 1))) M _ (z2_told hI)) aw_919 aw_922 aw_2 (by decide +kernel) ⟨Nat.le_of_ble_eq_true rfl, Nat.le_of_ble_eq_true rfl⟩ rfl (Nat.le_of_ble_eq_true rfl) ⟨by decide, by decide⟩ dL_law_1458 ?_
  intro r1 M1 h1
  refine j_pop X rfl dL_law_1461 ?_
  refine j_aload_n X 1 rfl rfl dL_law_1462 ?_
  refine j_rd X hX hbl hbA hL hk 1 (v := 1) (by decide) (by decide) (by decide) rfl rfl dL_law_1463 dL_law_1464 dL_law_1465 dL_law_1466 dL_law_1467 ?_
  refine j_callVI X (nn := 1) (As := [.int (xs (6 * k + 1))]) (st := []) (ci := 8) cl_79.1 (wE_8 _ cl_79.2) rfl aw_924 aw_925 (x_X8_told l D y ad ((xs (6 * k + 1))) M1 _ h1) aw_923 aw_926 aw_5 (by decide +kernel) ⟨Nat.le_of_ble_eq_true rfl, Nat.le_of_ble_eq_true rfl⟩ rfl (Nat.le_of_ble_eq_true rfl) ⟨by decide, by decide⟩ dL_law_1468 ?_
  intro r2 M2 h2
  refine j_pop X rfl dL_law_1471 ?_
  refine j_goto X 1475 (by decide) dL_law_1472 ?_
  exact hN M2 h2
set_option maxRecDepth 100000 in
set_option maxHeartbeats 40000000 in
theorem law_end {p : Program} {l : Launch} {e : Env} {s : State} {m : MethodId} {below : List Frame} {meth : Method} {c : Code} {D : va_G} {y : wY} {ad : Nat → Nat} {M : Mem} {b L kc ks k : Nat} {xs : Nat → Int32} (C0 : lw_At p s m meth c b L xs) (X : Amb p m c cL_law 4 s #[Value.ref b] lw_tbl RL D y ad (fun q : Nat => s.heap.size ≤ q)) (hkc : kc = 92) (hks : ks = 2832) : J p l e room_1 s m #[Value.ref b] below meth c kc ks (lw_Z below #[Value.ref b] s) D y ad (fun q : Nat => s.heap.size ≤ q) 4 M 1481 [(3, .int (nI (6 * k))), (2, .ref (ad 79)), (0, .ref b), (1, .ref (ad 0))] [] := by
  subst hkc; subst hks
  obtain ⟨hx, hb, hr, hml, hown, hts, hX, hbl, hlocks, hgv⟩ := id C0
  have hbA : ¬ (fun q : Nat => s.heap.size ≤ q) b := Nat.not_le.mpr hbl
  refine j_iconst X (v := 1) (by decide) dL_law_1481 ?_
  exact j_lawret hx hb hr hlocks (by decide) (by decide) dL_law_1482
set_option maxRecDepth 100000 in
set_option maxHeartbeats 40000000 in
theorem law_head (n : Nat) : ∀ {p : Program} {l : Launch} {e : Env} {s : State} {m : MethodId} {below : List Frame} {meth : Method} {c : Code} {D : va_G} {y : wY} {ad : Nat → Nat} {M : Mem} {b L kc ks k : Nat} {xs : Nat → Int32} (_ : L ≤ 3072) (_ : L ≤ 6 * k + n) (_ : 6 * k ≤ L) (C0 : lw_At p s m meth c b L xs) (X : Amb p m c cL_law 4 s #[Value.ref b] lw_tbl RL D y ad (fun q : Nat => s.heap.size ≤ q)) (_ : Inv2 k M) (hkc : kc = 92) (hks : ks = 2832), J p l e room_1 s m #[Value.ref b] below meth c kc ks (lw_Z below #[Value.ref b] s) D y ad (fun q : Nat => s.heap.size ≤ q) 4 M 18 [(3, .int (nI (6 * k))), (2, .ref (ad 79)), (0, .ref b), (1, .ref (ad 0))] [] := by
  induction n using Nat.strongRecOn with
  | ind n ih =>
    intro p l e s m below meth c D y ad M b L kc ks k xs hL hn hkL C0 X hI hkc hks
    subst hkc; subst hks
    obtain ⟨hx, hb, hr, hml, hown, hts, hX, hbl, hlocks, hgv⟩ := id C0
    have hbA : ¬ (fun q : Nat => s.heap.size ≤ q) b := Nat.not_le.mpr hbl
    refine j_iload_n X 0 rfl rfl dL_law_18 ?_
    refine j_aload_n X 2 rfl rfl dL_law_19 ?_
    refine j_slen X (k := k) hX hbl hbA dL_law_20 ?_
    refine j_bipush X (v := 6) (by decide) dL_law_21 ?_
    refine j_isub X dL_law_23 ?_
    refine j_icmp_gt X 1481 (by decide) dL_law_24 (fun _ => law_end C0 X rfl rfl) (fun hg => ?_)
    have hk : 6 * k + 6 ≤ L := by
      have h1 : ¬ (L : Int) - 6 < (6 * k : Nat) := fun q => hg (Int32.lt_iff_toInt_lt.mpr (by rw [nI_m6 hL, nI_toInt (by omega)]; exact q))
      omega
    refine j_aload_n X 2 rfl rfl dL_law_27 ?_
    refine j_iload_n X 0 rfl rfl dL_law_28 ?_
    refine j_sld X (k := k) hX hbl hbA (vp_in_nI (by omega) (by omega)) dL_law_29 ?_
    refine j_bipush X (v := 63) (by decide) dL_law_30 ?_
    refine j_iand X dL_law_32 ?_
    obtain ⟨v, hv, ev⟩ := and63 (xs (nI (6 * k)).toNatClampNeg)
    refine j_eqi ev ?_
    have hN : ∀ M1, Inv2 (k + 1) M1 → J p l e room_1 s m #[Value.ref b] below meth c 92 2832 (lw_Z below #[Value.ref b] s) D y ad (fun q : Nat => s.heap.size ≤ q) 4 M1 1475 [(3, .int (nI (6 * k))), (2, .ref (ad 79)), (0, .ref b), (1, .ref (ad 0))] [] := by
      intro M1 hI1
      refine j_iinc X (v := nI (6 * (k + 1))) 0 [(3, .int (nI (6 * (k + 1)))), (2, .ref (ad 79)), (0, .ref b), (1, .ref (ad 0))] rfl (by rw [show Int32.ofInt 6 = nI 6 from rfl, nI_add, Nat.mul_succ]) (by decide) rfl dL_law_1475 ?_
      refine j_goto X 18 (by decide) dL_law_1478 ?_
      exact ih (n - 6) (by omega) hL (by omega) (by omega) C0 X hI1 rfl rfl
    rcases Nat.lt_or_ge 40 v with g | g
    · refine j_tsw_out X 1475 (Or.inr (by rw [nI_toInt (by omega)]; omega)) (by decide) dL_law_33 ?_
      have hJ := Inv2.next hI
      exact hN M hJ
    rcases (by omega : v = 0 ∨ v = 1 ∨ v = 2 ∨ v = 3 ∨ v = 4 ∨ v = 5 ∨ v = 6 ∨ v = 7 ∨ v = 8 ∨ v = 9 ∨ v = 10 ∨ v = 11 ∨ v = 12 ∨ v = 13 ∨ v = 14 ∨ v = 15 ∨ v = 16 ∨ v = 17 ∨ v = 18 ∨ v = 19 ∨ v = 20 ∨ v = 21 ∨ v = 22 ∨ v = 23 ∨ v = 24 ∨ v = 25 ∨ v = 26 ∨ v = 27 ∨ v = 28 ∨ v = 29 ∨ v = 30 ∨ v = 31 ∨ v = 32 ∨ v = 33 ∨ v = 34 ∨ v = 35 ∨ v = 36 ∨ v = 37 ∨ v = 38 ∨ v = 39 ∨ v = 40) with rfl | rfl | rfl | rfl | rfl | rfl | rfl | rfl | rfl | rfl | rfl | rfl | rfl | rfl | rfl | rfl | rfl | rfl | rfl | rfl | rfl | rfl | rfl | rfl | rfl | rfl | rfl | rfl | rfl | rfl | rfl | rfl | rfl | rfl | rfl | rfl | rfl | rfl | rfl | rfl | rfl
    · exact j_tsw_in X 212 0 rfl (by decide) (by decide) (off := 179) rfl (by decide) dL_law_33 (law_case_0 hL hk C0 X hI hN rfl rfl)
    · exact j_tsw_in X 245 1 rfl (by decide) (by decide) (off := 212) rfl (by decide) dL_law_33 (law_case_1 hL hk C0 X hI hN rfl rfl)
    · exact j_tsw_in X 268 2 rfl (by decide) (by decide) (off := 235) rfl (by decide) dL_law_33 (law_case_2 hL hk C0 X hI hN rfl rfl)
    · exact j_tsw_in X 321 3 rfl (by decide) (by decide) (off := 288) rfl (by decide) dL_law_33 (law_case_3 hL hk C0 X hI hN rfl rfl)
    · exact j_tsw_in X 354 4 rfl (by decide) (by decide) (off := 321) rfl (by decide) dL_law_33 (law_case_4 hL hk C0 X hI hN rfl rfl)
    · exact j_tsw_in X 397 5 rfl (by decide) (by decide) (off := 364) rfl (by decide) dL_law_33 (law_case_5 hL hk C0 X hI hN rfl rfl)
    · exact j_tsw_in X 430 6 rfl (by decide) (by decide) (off := 397) rfl (by decide) dL_law_33 (law_case_6 hL hk C0 X hI hN rfl rfl)
    · exact j_tsw_in X 463 7 rfl (by decide) (by decide) (off := 430) rfl (by decide) dL_law_33 (law_case_7 hL hk C0 X hI hN rfl rfl)
    · exact j_tsw_in X 526 8 rfl (by decide) (by decide) (off := 493) rfl (by decide) dL_law_33 (law_case_8 hL hk C0 X hI hN rfl rfl)
    · exact j_tsw_in X 549 9 rfl (by decide) (by decide) (off := 516) rfl (by decide) dL_law_33 (law_case_9 hL hk C0 X hI hN rfl rfl)
    · exact j_tsw_in X 602 10 rfl (by decide) (by decide) (off := 569) rfl (by decide) dL_law_33 (law_case_10 hL hk C0 X hI hN rfl rfl)
    · exact j_tsw_in X 625 11 rfl (by decide) (by decide) (off := 592) rfl (by decide) dL_law_33 (law_case_11 hL hk C0 X hI hN rfl rfl)
    · exact j_tsw_in X 648 12 rfl (by decide) (by decide) (off := 615) rfl (by decide) dL_law_33 (law_case_12 hL hk C0 X hI hN rfl rfl)
    · exact j_tsw_in X 691 13 rfl (by decide) (by decide) (off := 658) rfl (by decide) dL_law_33 (law_case_13 hL hk C0 X hI hN rfl rfl)
    · exact j_tsw_in X 714 14 rfl (by decide) (by decide) (off := 681) rfl (by decide) dL_law_33 (law_case_14 hL hk C0 X hI hN rfl rfl)
    · exact j_tsw_in X 737 15 rfl (by decide) (by decide) (off := 704) rfl (by decide) dL_law_33 (law_case_15 hL hk C0 X hI hN rfl rfl)
    · exact j_tsw_in X 770 16 rfl (by decide) (by decide) (off := 737) rfl (by decide) dL_law_33 (law_case_16 hL hk C0 X hI hN rfl rfl)
    · exact j_tsw_in X 803 17 rfl (by decide) (by decide) (off := 770) rfl (by decide) dL_law_33 (law_case_17 hL hk C0 X hI hN rfl rfl)
    · exact j_tsw_in X 836 18 rfl (by decide) (by decide) (off := 803) rfl (by decide) dL_law_33 (law_case_18 hL hk C0 X hI hN rfl rfl)
    · exact j_tsw_in X 869 19 rfl (by decide) (by decide) (off := 836) rfl (by decide) dL_law_33 (law_case_19 hL hk C0 X hI hN rfl rfl)
    · exact j_tsw_in X 902 20 rfl (by decide) (by decide) (off := 869) rfl (by decide) dL_law_33 (law_case_20 hL hk C0 X hI hN rfl rfl)
    · exact j_tsw_in X 925 21 rfl (by decide) (by decide) (off := 892) rfl (by decide) dL_law_33 (law_case_21 hL hk C0 X hI hN rfl rfl)
    · exact j_tsw_in X 958 22 rfl (by decide) (by decide) (off := 925) rfl (by decide) dL_law_33 (law_case_22 hL hk C0 X hI hN rfl rfl)
    · exact j_tsw_in X 981 23 rfl (by decide) (by decide) (off := 948) rfl (by decide) dL_law_33 (law_case_23 hL hk C0 X hI hN rfl rfl)
    · exact j_tsw_in X 1004 24 rfl (by decide) (by decide) (off := 971) rfl (by decide) dL_law_33 (law_case_24 hL hk C0 X hI hN rfl rfl)
    · exact j_tsw_in X 1027 25 rfl (by decide) (by decide) (off := 994) rfl (by decide) dL_law_33 (law_case_25 hL hk C0 X hI hN rfl rfl)
    · exact j_tsw_in X 1040 26 rfl (by decide) (by decide) (off := 1007) rfl (by decide) dL_law_33 (law_case_26 hL hk C0 X hI hN rfl rfl)
    · exact j_tsw_in X 1083 27 rfl (by decide) (by decide) (off := 1050) rfl (by decide) dL_law_33 (law_case_27 hL hk C0 X hI hN rfl rfl)
    · exact j_tsw_in X 1106 28 rfl (by decide) (by decide) (off := 1073) rfl (by decide) dL_law_33 (law_case_28 hL hk C0 X hI hN rfl rfl)
    · exact j_tsw_in X 1149 29 rfl (by decide) (by decide) (off := 1116) rfl (by decide) dL_law_33 (law_case_29 hL hk C0 X hI hN rfl rfl)
    · exact j_tsw_in X 1172 30 rfl (by decide) (by decide) (off := 1139) rfl (by decide) dL_law_33 (law_case_30 hL hk C0 X hI hN rfl rfl)
    · exact j_tsw_in X 1215 31 rfl (by decide) (by decide) (off := 1182) rfl (by decide) dL_law_33 (law_case_31 hL hk C0 X hI hN rfl rfl)
    · exact j_tsw_in X 1258 32 rfl (by decide) (by decide) (off := 1225) rfl (by decide) dL_law_33 (law_case_32 hL hk C0 X hI hN rfl rfl)
    · exact j_tsw_in X 1321 33 rfl (by decide) (by decide) (off := 1288) rfl (by decide) dL_law_33 (law_case_33 hL hk C0 X hI hN rfl rfl)
    · exact j_tsw_in X 1344 34 rfl (by decide) (by decide) (off := 1311) rfl (by decide) dL_law_33 (law_case_34 hL hk C0 X hI hN rfl rfl)
    · exact j_tsw_in X 1367 35 rfl (by decide) (by decide) (off := 1334) rfl (by decide) dL_law_33 (law_case_35 hL hk C0 X hI hN rfl rfl)
    · exact j_tsw_in X 1380 36 rfl (by decide) (by decide) (off := 1347) rfl (by decide) dL_law_33 (law_case_36 hL hk C0 X hI hN rfl rfl)
    · exact j_tsw_in X 1393 37 rfl (by decide) (by decide) (off := 1360) rfl (by decide) dL_law_33 (law_case_37 hL hk C0 X hI hN rfl rfl)
    · exact j_tsw_in X 1416 38 rfl (by decide) (by decide) (off := 1383) rfl (by decide) dL_law_33 (law_case_38 hL hk C0 X hI hN rfl rfl)
    · exact j_tsw_in X 1429 39 rfl (by decide) (by decide) (off := 1396) rfl (by decide) dL_law_33 (law_case_39 hL hk C0 X hI hN rfl rfl)
    · exact j_tsw_in X 1452 40 rfl (by decide) (by decide) (off := 1419) rfl (by decide) dL_law_33 (law_case_40 hL hk C0 X hI hN rfl rfl)
