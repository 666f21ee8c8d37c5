/-! the law, case by case -/
theorem dl_172 : decode code 172 = .ok (.aload_n 1, 1) := by decide +kernel
theorem dl_173 : decode code 173 = .ok (.aload_n 0, 1) := by decide +kernel
theorem dl_174 : decode code 174 = .ok (.iload_n 3, 1) := by decide +kernel
theorem dl_175 : decode code 175 = .ok (.iconst 1, 1) := by decide +kernel
theorem dl_176 : decode code 176 = .ok (.iadd, 1) := by decide +kernel
theorem dl_177 : decode code 177 = .ok (.iaload, 1) := by decide +kernel
theorem lk_13 : Cond.methodLink R_law 13 yX7_feed ∈ GW := gw_at 386 (by decide +kernel) (by decide +kernel)
theorem dl_178 : decode code 178 = .ok (.invokevirtual 13, 3) := by decide +kernel
theorem dl_181 : decode code 181 = .ok (.aload_n 2, 1) := by decide +kernel
theorem dl_182 : decode code 182 = .ok (.aload_n 0, 1) := by decide +kernel
theorem dl_183 : decode code 183 = .ok (.iload_n 3, 1) := by decide +kernel
theorem dl_184 : decode code 184 = .ok (.iconst 1, 1) := by decide +kernel
theorem dl_185 : decode code 185 = .ok (.iadd, 1) := by decide +kernel
theorem dl_186 : decode code 186 = .ok (.iaload, 1) := by decide +kernel
theorem lk_17 : Cond.methodLink R_law 17 yX8_feed ∈ GW := gw_at 979 (by decide +kernel) (by decide +kernel)
theorem dl_187 : decode code 187 = .ok (.invokevirtual 17, 3) := by decide +kernel
theorem dl_190 : decode code 190 = .ok (.if_icmp .eq 805, 3) := by decide +kernel
theorem dl_195 : decode code 195 = .ok (.aload_n 1, 1) := by decide +kernel
theorem dl_196 : decode code 196 = .ok (.aload_n 0, 1) := by decide +kernel
theorem dl_197 : decode code 197 = .ok (.iload_n 3, 1) := by decide +kernel
theorem dl_198 : decode code 198 = .ok (.iconst 1, 1) := by decide +kernel
theorem dl_199 : decode code 199 = .ok (.iadd, 1) := by decide +kernel
theorem dl_200 : decode code 200 = .ok (.iaload, 1) := by decide +kernel
theorem lk_18 : Cond.methodLink R_law 18 yX7_end ∈ GW := gw_at 393 (by decide +kernel) (by decide +kernel)
theorem dl_201 : decode code 201 = .ok (.invokevirtual 18, 3) := by decide +kernel
theorem dl_204 : decode code 204 = .ok (.aload_n 2, 1) := by decide +kernel
theorem dl_205 : decode code 205 = .ok (.aload_n 0, 1) := by decide +kernel
theorem dl_206 : decode code 206 = .ok (.iload_n 3, 1) := by decide +kernel
theorem dl_207 : decode code 207 = .ok (.iconst 1, 1) := by decide +kernel
theorem dl_208 : decode code 208 = .ok (.iadd, 1) := by decide +kernel
theorem dl_209 : decode code 209 = .ok (.iaload, 1) := by decide +kernel
theorem lk_21 : Cond.methodLink R_law 21 yX8_end ∈ GW := gw_at 987 (by decide +kernel) (by decide +kernel)
theorem dl_210 : decode code 210 = .ok (.invokevirtual 21, 3) := by decide +kernel
theorem dl_213 : decode code 213 = .ok (.if_icmp .eq 782, 3) := by decide +kernel
theorem dl_218 : decode code 218 = .ok (.aload_n 1, 1) := by decide +kernel
theorem lk_22 : Cond.methodLink R_law 22 yX7_text ∈ GW := gw_at 397 (by decide +kernel) (by decide +kernel)
theorem dl_219 : decode code 219 = .ok (.invokevirtual 22, 3) := by decide +kernel
theorem dl_222 : decode code 222 = .ok (.aload_n 2, 1) := by decide +kernel
theorem lk_26 : Cond.methodLink R_law 26 yX8_text ∈ GW := gw_at 991 (by decide +kernel) (by decide +kernel)
theorem dl_223 : decode code 223 = .ok (.invokevirtual 26, 3) := by decide +kernel
theorem dl_226 : decode code 226 = .ok (.if_icmp .eq 769, 3) := by decide +kernel
theorem dl_231 : decode code 231 = .ok (.aload_n 1, 1) := by decide +kernel
theorem lk_27 : Cond.methodLink R_law 27 yX7_fault ∈ GW := gw_at 626 (by decide +kernel) (by decide +kernel)
theorem dl_232 : decode code 232 = .ok (.invokevirtual 27, 3) := by decide +kernel
theorem dl_235 : decode code 235 = .ok (.aload_n 2, 1) := by decide +kernel
theorem lk_30 : Cond.methodLink R_law 30 yX8_fault ∈ GW := gw_at 1049 (by decide +kernel) (by decide +kernel)
theorem dl_236 : decode code 236 = .ok (.invokevirtual 30, 3) := by decide +kernel
theorem dl_239 : decode code 239 = .ok (.if_icmp .eq 756, 3) := by decide +kernel
theorem dl_244 : decode code 244 = .ok (.aload_n 1, 1) := by decide +kernel
theorem dl_245 : decode code 245 = .ok (.aload_n 0, 1) := by decide +kernel
theorem dl_246 : decode code 246 = .ok (.iload_n 3, 1) := by decide +kernel
theorem dl_247 : decode code 247 = .ok (.iconst 1, 1) := by decide +kernel
theorem dl_248 : decode code 248 = .ok (.iadd, 1) := by decide +kernel
theorem dl_249 : decode code 249 = .ok (.iaload, 1) := by decide +kernel
theorem lk_31 : Cond.methodLink R_law 31 yX7_rule ∈ GW := gw_at 630 (by decide +kernel) (by decide +kernel)
theorem dl_250 : decode code 250 = .ok (.invokevirtual 31, 3) := by decide +kernel
theorem dl_253 : decode code 253 = .ok (.aload_n 2, 1) := by decide +kernel
theorem dl_254 : decode code 254 = .ok (.aload_n 0, 1) := by decide +kernel
theorem dl_255 : decode code 255 = .ok (.iload_n 3, 1) := by decide +kernel
theorem dl_256 : decode code 256 = .ok (.iconst 1, 1) := by decide +kernel
theorem dl_257 : decode code 257 = .ok (.iadd, 1) := by decide +kernel
theorem dl_258 : decode code 258 = .ok (.iaload, 1) := by decide +kernel
theorem lk_34 : Cond.methodLink R_law 34 yX8_rule ∈ GW := gw_at 1053 (by decide +kernel) (by decide +kernel)
theorem dl_259 : decode code 259 = .ok (.invokevirtual 34, 3) := by decide +kernel
theorem dl_262 : decode code 262 = .ok (.if_icmp .eq 733, 3) := by decide +kernel
theorem dl_267 : decode code 267 = .ok (.aload_n 1, 1) := by decide +kernel
theorem dl_268 : decode code 268 = .ok (.aload_n 0, 1) := by decide +kernel
theorem dl_269 : decode code 269 = .ok (.iload_n 3, 1) := by decide +kernel
theorem dl_270 : decode code 270 = .ok (.iconst 1, 1) := by decide +kernel
theorem dl_271 : decode code 271 = .ok (.iadd, 1) := by decide +kernel
theorem dl_272 : decode code 272 = .ok (.iaload, 1) := by decide +kernel
theorem dl_273 : decode code 273 = .ok (.aload_n 0, 1) := by decide +kernel
theorem dl_274 : decode code 274 = .ok (.iload_n 3, 1) := by decide +kernel
theorem dl_275 : decode code 275 = .ok (.iconst 2, 1) := by decide +kernel
theorem dl_276 : decode code 276 = .ok (.iadd, 1) := by decide +kernel
theorem dl_277 : decode code 277 = .ok (.iaload, 1) := by decide +kernel
theorem lk_35 : Cond.methodLink R_law 35 yX7_cell ∈ GW := gw_at 655 (by decide +kernel) (by decide +kernel)
theorem dl_278 : decode code 278 = .ok (.invokevirtual 35, 3) := by decide +kernel
theorem dl_281 : decode code 281 = .ok (.aload_n 2, 1) := by decide +kernel
theorem dl_282 : decode code 282 = .ok (.aload_n 0, 1) := by decide +kernel
theorem dl_283 : decode code 283 = .ok (.iload_n 3, 1) := by decide +kernel
theorem dl_284 : decode code 284 = .ok (.iconst 1, 1) := by decide +kernel
theorem dl_285 : decode code 285 = .ok (.iadd, 1) := by decide +kernel
theorem dl_286 : decode code 286 = .ok (.iaload, 1) := by decide +kernel
theorem dl_287 : decode code 287 = .ok (.aload_n 0, 1) := by decide +kernel
theorem dl_288 : decode code 288 = .ok (.iload_n 3, 1) := by decide +kernel
theorem dl_289 : decode code 289 = .ok (.iconst 2, 1) := by decide +kernel
theorem dl_290 : decode code 290 = .ok (.iadd, 1) := by decide +kernel
theorem dl_291 : decode code 291 = .ok (.iaload, 1) := by decide +kernel
theorem lk_39 : Cond.methodLink R_law 39 yX8_cell ∈ GW := gw_at 1089 (by decide +kernel) (by decide +kernel)
theorem dl_292 : decode code 292 = .ok (.invokevirtual 39, 3) := by decide +kernel
theorem dl_295 : decode code 295 = .ok (.if_icmp .eq 700, 3) := by decide +kernel
theorem dl_300 : decode code 300 = .ok (.aload_n 1, 1) := by decide +kernel
theorem dl_301 : decode code 301 = .ok (.aload_n 0, 1) := by decide +kernel
theorem dl_302 : decode code 302 = .ok (.iload_n 3, 1) := by decide +kernel
theorem dl_303 : decode code 303 = .ok (.iconst 1, 1) := by decide +kernel
theorem dl_304 : decode code 304 = .ok (.iadd, 1) := by decide +kernel
theorem dl_305 : decode code 305 = .ok (.iaload, 1) := by decide +kernel
theorem dl_306 : decode code 306 = .ok (.aload_n 0, 1) := by decide +kernel
theorem dl_307 : decode code 307 = .ok (.iload_n 3, 1) := by decide +kernel
theorem dl_308 : decode code 308 = .ok (.iconst 2, 1) := by decide +kernel
theorem dl_309 : decode code 309 = .ok (.iadd, 1) := by decide +kernel
theorem dl_310 : decode code 310 = .ok (.iaload, 1) := by decide +kernel
theorem lk_40 : Cond.methodLink R_law 40 yX7_group ∈ GW := gw_at 664 (by decide +kernel) (by decide +kernel)
theorem dl_311 : decode code 311 = .ok (.invokevirtual 40, 3) := by decide +kernel
theorem dl_314 : decode code 314 = .ok (.aload_n 2, 1) := by decide +kernel
theorem dl_315 : decode code 315 = .ok (.aload_n 0, 1) := by decide +kernel
theorem dl_316 : decode code 316 = .ok (.iload_n 3, 1) := by decide +kernel
theorem dl_317 : decode code 317 = .ok (.iconst 1, 1) := by decide +kernel
theorem dl_318 : decode code 318 = .ok (.iadd, 1) := by decide +kernel
theorem dl_319 : decode code 319 = .ok (.iaload, 1) := by decide +kernel
theorem dl_320 : decode code 320 = .ok (.aload_n 0, 1) := by decide +kernel
theorem dl_321 : decode code 321 = .ok (.iload_n 3, 1) := by decide +kernel
theorem dl_322 : decode code 322 = .ok (.iconst 2, 1) := by decide +kernel
theorem dl_323 : decode code 323 = .ok (.iadd, 1) := by decide +kernel
theorem dl_324 : decode code 324 = .ok (.iaload, 1) := by decide +kernel
theorem lk_43 : Cond.methodLink R_law 43 yX8_group ∈ GW := gw_at 1104 (by decide +kernel) (by decide +kernel)
theorem dl_325 : decode code 325 = .ok (.invokevirtual 43, 3) := by decide +kernel
theorem dl_328 : decode code 328 = .ok (.if_icmp .eq 667, 3) := by decide +kernel
theorem dl_333 : decode code 333 = .ok (.aload_n 1, 1) := by decide +kernel
theorem dl_334 : decode code 334 = .ok (.aload_n 0, 1) := by decide +kernel
theorem dl_335 : decode code 335 = .ok (.iload_n 3, 1) := by decide +kernel
theorem dl_336 : decode code 336 = .ok (.iconst 1, 1) := by decide +kernel
theorem dl_337 : decode code 337 = .ok (.iadd, 1) := by decide +kernel
theorem dl_338 : decode code 338 = .ok (.iaload, 1) := by decide +kernel
theorem lk_44 : Cond.methodLink R_law 44 yX7_take ∈ GW := gw_at 695 (by decide +kernel) (by decide +kernel)
theorem dl_339 : decode code 339 = .ok (.invokevirtual 44, 3) := by decide +kernel
theorem dl_342 : decode code 342 = .ok (.aload_n 2, 1) := by decide +kernel
theorem dl_343 : decode code 343 = .ok (.aload_n 0, 1) := by decide +kernel
theorem dl_344 : decode code 344 = .ok (.iload_n 3, 1) := by decide +kernel
theorem dl_345 : decode code 345 = .ok (.iconst 1, 1) := by decide +kernel
theorem dl_346 : decode code 346 = .ok (.iadd, 1) := by decide +kernel
theorem dl_347 : decode code 347 = .ok (.iaload, 1) := by decide +kernel
theorem lk_47 : Cond.methodLink R_law 47 yX8_take ∈ GW := gw_at 1128 (by decide +kernel) (by decide +kernel)
theorem dl_348 : decode code 348 = .ok (.invokevirtual 47, 3) := by decide +kernel
theorem dl_351 : decode code 351 = .ok (.if_icmp .eq 644, 3) := by decide +kernel
theorem dl_356 : decode code 356 = .ok (.aload_n 1, 1) := by decide +kernel
theorem dl_357 : decode code 357 = .ok (.aload_n 0, 1) := by decide +kernel
theorem dl_358 : decode code 358 = .ok (.iload_n 3, 1) := by decide +kernel
theorem dl_359 : decode code 359 = .ok (.iconst 1, 1) := by decide +kernel
theorem dl_360 : decode code 360 = .ok (.iadd, 1) := by decide +kernel
theorem dl_361 : decode code 361 = .ok (.iaload, 1) := by decide +kernel
theorem dl_362 : decode code 362 = .ok (.aload_n 0, 1) := by decide +kernel
theorem dl_363 : decode code 363 = .ok (.iload_n 3, 1) := by decide +kernel
theorem dl_364 : decode code 364 = .ok (.iconst 2, 1) := by decide +kernel
theorem dl_365 : decode code 365 = .ok (.iadd, 1) := by decide +kernel
theorem dl_366 : decode code 366 = .ok (.iaload, 1) := by decide +kernel
theorem lk_48 : Cond.methodLink R_law 48 yX7_would ∈ GW := gw_at 706 (by decide +kernel) (by decide +kernel)
theorem dl_367 : decode code 367 = .ok (.invokevirtual 48, 3) := by decide +kernel
theorem dl_370 : decode code 370 = .ok (.aload_n 2, 1) := by decide +kernel
theorem dl_371 : decode code 371 = .ok (.aload_n 0, 1) := by decide +kernel
theorem dl_372 : decode code 372 = .ok (.iload_n 3, 1) := by decide +kernel
theorem dl_373 : decode code 373 = .ok (.iconst 1, 1) := by decide +kernel
theorem dl_374 : decode code 374 = .ok (.iadd, 1) := by decide +kernel
theorem dl_375 : decode code 375 = .ok (.iaload, 1) := by decide +kernel
theorem dl_376 : decode code 376 = .ok (.aload_n 0, 1) := by decide +kernel
theorem dl_377 : decode code 377 = .ok (.iload_n 3, 1) := by decide +kernel
theorem dl_378 : decode code 378 = .ok (.iconst 2, 1) := by decide +kernel
theorem dl_379 : decode code 379 = .ok (.iadd, 1) := by decide +kernel
theorem dl_380 : decode code 380 = .ok (.iaload, 1) := by decide +kernel
theorem lk_51 : Cond.methodLink R_law 51 yX8_would ∈ GW := gw_at 1189 (by decide +kernel) (by decide +kernel)
theorem dl_381 : decode code 381 = .ok (.invokevirtual 51, 3) := by decide +kernel
theorem dl_384 : decode code 384 = .ok (.if_icmp .eq 611, 3) := by decide +kernel
theorem dl_389 : decode code 389 = .ok (.aload_n 1, 1) := by decide +kernel
theorem dl_390 : decode code 390 = .ok (.aload_n 0, 1) := by decide +kernel
theorem dl_391 : decode code 391 = .ok (.iload_n 3, 1) := by decide +kernel
theorem dl_392 : decode code 392 = .ok (.iconst 1, 1) := by decide +kernel
theorem dl_393 : decode code 393 = .ok (.iadd, 1) := by decide +kernel
theorem dl_394 : decode code 394 = .ok (.iaload, 1) := by decide +kernel
theorem dl_395 : decode code 395 = .ok (.aload_n 0, 1) := by decide +kernel
theorem dl_396 : decode code 396 = .ok (.iload_n 3, 1) := by decide +kernel
theorem dl_397 : decode code 397 = .ok (.iconst 2, 1) := by decide +kernel
theorem dl_398 : decode code 398 = .ok (.iadd, 1) := by decide +kernel
theorem dl_399 : decode code 399 = .ok (.iaload, 1) := by decide +kernel
theorem lk_52 : Cond.methodLink R_law 52 yX7_where ∈ GW := gw_at 725 (by decide +kernel) (by decide +kernel)
theorem dl_400 : decode code 400 = .ok (.invokevirtual 52, 3) := by decide +kernel
theorem dl_403 : decode code 403 = .ok (.aload_n 2, 1) := by decide +kernel
theorem dl_404 : decode code 404 = .ok (.aload_n 0, 1) := by decide +kernel
theorem dl_405 : decode code 405 = .ok (.iload_n 3, 1) := by decide +kernel
theorem dl_406 : decode code 406 = .ok (.iconst 1, 1) := by decide +kernel
theorem dl_407 : decode code 407 = .ok (.iadd, 1) := by decide +kernel
theorem dl_408 : decode code 408 = .ok (.iaload, 1) := by decide +kernel
theorem dl_409 : decode code 409 = .ok (.aload_n 0, 1) := by decide +kernel
theorem dl_410 : decode code 410 = .ok (.iload_n 3, 1) := by decide +kernel
theorem dl_411 : decode code 411 = .ok (.iconst 2, 1) := by decide +kernel
theorem dl_412 : decode code 412 = .ok (.iadd, 1) := by decide +kernel
theorem dl_413 : decode code 413 = .ok (.iaload, 1) := by decide +kernel
theorem lk_55 : Cond.methodLink R_law 55 yX8_where ∈ GW := gw_at 1198 (by decide +kernel) (by decide +kernel)
theorem dl_414 : decode code 414 = .ok (.invokevirtual 55, 3) := by decide +kernel
theorem dl_417 : decode code 417 = .ok (.if_icmp .eq 578, 3) := by decide +kernel
theorem dl_422 : decode code 422 = .ok (.aload_n 1, 1) := by decide +kernel
theorem dl_423 : decode code 423 = .ok (.aload_n 0, 1) := by decide +kernel
theorem dl_424 : decode code 424 = .ok (.iload_n 3, 1) := by decide +kernel
theorem dl_425 : decode code 425 = .ok (.iconst 1, 1) := by decide +kernel
theorem dl_426 : decode code 426 = .ok (.iadd, 1) := by decide +kernel
theorem dl_427 : decode code 427 = .ok (.iaload, 1) := by decide +kernel
theorem lk_56 : Cond.methodLink R_law 56 yX7_bound ∈ GW := gw_at 729 (by decide +kernel) (by decide +kernel)
theorem dl_428 : decode code 428 = .ok (.invokevirtual 56, 3) := by decide +kernel
theorem dl_431 : decode code 431 = .ok (.aload_n 2, 1) := by decide +kernel
theorem dl_432 : decode code 432 = .ok (.aload_n 0, 1) := by decide +kernel
theorem dl_433 : decode code 433 = .ok (.iload_n 3, 1) := by decide +kernel
theorem dl_434 : decode code 434 = .ok (.iconst 1, 1) := by decide +kernel
theorem dl_435 : decode code 435 = .ok (.iadd, 1) := by decide +kernel
theorem dl_436 : decode code 436 = .ok (.iaload, 1) := by decide +kernel
theorem lk_59 : Cond.methodLink R_law 59 yX8_bound ∈ GW := gw_at 1202 (by decide +kernel) (by decide +kernel)
theorem dl_437 : decode code 437 = .ok (.invokevirtual 59, 3) := by decide +kernel
theorem dl_440 : decode code 440 = .ok (.if_icmp .eq 555, 3) := by decide +kernel
theorem dl_445 : decode code 445 = .ok (.aload_n 1, 1) := by decide +kernel
theorem dl_446 : decode code 446 = .ok (.aload_n 0, 1) := by decide +kernel
theorem dl_447 : decode code 447 = .ok (.iload_n 3, 1) := by decide +kernel
theorem dl_448 : decode code 448 = .ok (.iconst 1, 1) := by decide +kernel
theorem dl_449 : decode code 449 = .ok (.iadd, 1) := by decide +kernel
theorem dl_450 : decode code 450 = .ok (.iaload, 1) := by decide +kernel
theorem lk_60 : Cond.methodLink R_law 60 yX7_joined ∈ GW := gw_at 741 (by decide +kernel) (by decide +kernel)
theorem dl_451 : decode code 451 = .ok (.invokevirtual 60, 3) := by decide +kernel
theorem dl_454 : decode code 454 = .ok (.aload_n 2, 1) := by decide +kernel
theorem dl_455 : decode code 455 = .ok (.aload_n 0, 1) := by decide +kernel
theorem dl_456 : decode code 456 = .ok (.iload_n 3, 1) := by decide +kernel
theorem dl_457 : decode code 457 = .ok (.iconst 1, 1) := by decide +kernel
theorem dl_458 : decode code 458 = .ok (.iadd, 1) := by decide +kernel
theorem dl_459 : decode code 459 = .ok (.iaload, 1) := by decide +kernel
theorem lk_63 : Cond.methodLink R_law 63 yX8_joined ∈ GW := gw_at 1214 (by decide +kernel) (by decide +kernel)
theorem dl_460 : decode code 460 = .ok (.invokevirtual 63, 3) := by decide +kernel
theorem dl_463 : decode code 463 = .ok (.if_icmp .eq 532, 3) := by decide +kernel
theorem dl_468 : decode code 468 = .ok (.aload_n 1, 1) := by decide +kernel
theorem dl_469 : decode code 469 = .ok (.aload_n 0, 1) := by decide +kernel
theorem dl_470 : decode code 470 = .ok (.iload_n 3, 1) := by decide +kernel
theorem dl_471 : decode code 471 = .ok (.iconst 1, 1) := by decide +kernel
theorem dl_472 : decode code 472 = .ok (.iadd, 1) := by decide +kernel
theorem dl_473 : decode code 473 = .ok (.iaload, 1) := by decide +kernel
theorem dl_474 : decode code 474 = .ok (.aload_n 0, 1) := by decide +kernel
theorem dl_475 : decode code 475 = .ok (.iload_n 3, 1) := by decide +kernel
theorem dl_476 : decode code 476 = .ok (.iconst 2, 1) := by decide +kernel
theorem dl_477 : decode code 477 = .ok (.iadd, 1) := by decide +kernel
theorem dl_478 : decode code 478 = .ok (.iaload, 1) := by decide +kernel
theorem lk_64 : Cond.methodLink R_law 64 yX7_move ∈ GW := gw_at 745 (by decide +kernel) (by decide +kernel)
theorem dl_479 : decode code 479 = .ok (.invokevirtual 64, 3) := by decide +kernel
theorem dl_482 : decode code 482 = .ok (.aload_n 2, 1) := by decide +kernel
theorem dl_483 : decode code 483 = .ok (.aload_n 0, 1) := by decide +kernel
theorem dl_484 : decode code 484 = .ok (.iload_n 3, 1) := by decide +kernel
theorem dl_485 : decode code 485 = .ok (.iconst 1, 1) := by decide +kernel
theorem dl_486 : decode code 486 = .ok (.iadd, 1) := by decide +kernel
theorem dl_487 : decode code 487 = .ok (.iaload, 1) := by decide +kernel
theorem dl_488 : decode code 488 = .ok (.aload_n 0, 1) := by decide +kernel
theorem dl_489 : decode code 489 = .ok (.iload_n 3, 1) := by decide +kernel
theorem dl_490 : decode code 490 = .ok (.iconst 2, 1) := by decide +kernel
theorem dl_491 : decode code 491 = .ok (.iadd, 1) := by decide +kernel
theorem dl_492 : decode code 492 = .ok (.iaload, 1) := by decide +kernel
theorem lk_67 : Cond.methodLink R_law 67 yX8_move ∈ GW := gw_at 1218 (by decide +kernel) (by decide +kernel)
theorem dl_493 : decode code 493 = .ok (.invokevirtual 67, 3) := by decide +kernel
theorem dl_496 : decode code 496 = .ok (.if_icmp .eq 499, 3) := by decide +kernel
theorem dl_501 : decode code 501 = .ok (.aload_n 1, 1) := by decide +kernel
theorem dl_502 : decode code 502 = .ok (.aload_n 0, 1) := by decide +kernel
theorem dl_503 : decode code 503 = .ok (.iload_n 3, 1) := by decide +kernel
theorem dl_504 : decode code 504 = .ok (.iconst 1, 1) := by decide +kernel
theorem dl_505 : decode code 505 = .ok (.iadd, 1) := by decide +kernel
theorem dl_506 : decode code 506 = .ok (.iaload, 1) := by decide +kernel
theorem dl_507 : decode code 507 = .ok (.aload_n 0, 1) := by decide +kernel
theorem dl_508 : decode code 508 = .ok (.iload_n 3, 1) := by decide +kernel
theorem dl_509 : decode code 509 = .ok (.iconst 2, 1) := by decide +kernel
theorem dl_510 : decode code 510 = .ok (.iadd, 1) := by decide +kernel
theorem dl_511 : decode code 511 = .ok (.iaload, 1) := by decide +kernel
theorem lk_68 : Cond.methodLink R_law 68 yX7_swap ∈ GW := gw_at 749 (by decide +kernel) (by decide +kernel)
theorem dl_512 : decode code 512 = .ok (.invokevirtual 68, 3) := by decide +kernel
theorem dl_515 : decode code 515 = .ok (.aload_n 2, 1) := by decide +kernel
theorem dl_516 : decode code 516 = .ok (.aload_n 0, 1) := by decide +kernel
theorem dl_517 : decode code 517 = .ok (.iload_n 3, 1) := by decide +kernel
theorem dl_518 : decode code 518 = .ok (.iconst 1, 1) := by decide +kernel
theorem dl_519 : decode code 519 = .ok (.iadd, 1) := by decide +kernel
theorem dl_520 : decode code 520 = .ok (.iaload, 1) := by decide +kernel
theorem dl_521 : decode code 521 = .ok (.aload_n 0, 1) := by decide +kernel
theorem dl_522 : decode code 522 = .ok (.iload_n 3, 1) := by decide +kernel
theorem dl_523 : decode code 523 = .ok (.iconst 2, 1) := by decide +kernel
theorem dl_524 : decode code 524 = .ok (.iadd, 1) := by decide +kernel
theorem dl_525 : decode code 525 = .ok (.iaload, 1) := by decide +kernel
theorem lk_71 : Cond.methodLink R_law 71 yX8_swap ∈ GW := gw_at 1222 (by decide +kernel) (by decide +kernel)
theorem dl_526 : decode code 526 = .ok (.invokevirtual 71, 3) := by decide +kernel
theorem dl_529 : decode code 529 = .ok (.if_icmp .eq 466, 3) := by decide +kernel
theorem dl_534 : decode code 534 = .ok (.aload_n 1, 1) := by decide +kernel
theorem lk_72 : Cond.methodLink R_law 72 yX7_better ∈ GW := gw_at 753 (by decide +kernel) (by decide +kernel)
theorem dl_535 : decode code 535 = .ok (.invokevirtual 72, 3) := by decide +kernel
theorem dl_538 : decode code 538 = .ok (.aload_n 2, 1) := by decide +kernel
theorem lk_75 : Cond.methodLink R_law 75 yX8_better ∈ GW := gw_at 1230 (by decide +kernel) (by decide +kernel)
theorem dl_539 : decode code 539 = .ok (.invokevirtual 75, 3) := by decide +kernel
theorem dl_542 : decode code 542 = .ok (.if_icmp .eq 453, 3) := by decide +kernel
theorem dl_547 : decode code 547 = .ok (.aload_n 1, 1) := by decide +kernel
theorem dl_548 : decode code 548 = .ok (.aload_n 0, 1) := by decide +kernel
theorem dl_549 : decode code 549 = .ok (.iload_n 3, 1) := by decide +kernel
theorem dl_550 : decode code 550 = .ok (.iconst 1, 1) := by decide +kernel
theorem dl_551 : decode code 551 = .ok (.iadd, 1) := by decide +kernel
theorem dl_552 : decode code 552 = .ok (.iaload, 1) := by decide +kernel
theorem lk_76 : Cond.methodLink R_law 76 yX7_add ∈ GW := gw_at 761 (by decide +kernel) (by decide +kernel)
theorem dl_553 : decode code 553 = .ok (.invokevirtual 76, 3) := by decide +kernel
theorem dl_556 : decode code 556 = .ok (.aload_n 2, 1) := by decide +kernel
theorem dl_557 : decode code 557 = .ok (.aload_n 0, 1) := by decide +kernel
theorem dl_558 : decode code 558 = .ok (.iload_n 3, 1) := by decide +kernel
theorem dl_559 : decode code 559 = .ok (.iconst 1, 1) := by decide +kernel
theorem dl_560 : decode code 560 = .ok (.iadd, 1) := by decide +kernel
theorem dl_561 : decode code 561 = .ok (.iaload, 1) := by decide +kernel
theorem lk_79 : Cond.methodLink R_law 79 yX8_add ∈ GW := gw_at 1234 (by decide +kernel) (by decide +kernel)
theorem dl_562 : decode code 562 = .ok (.invokevirtual 79, 3) := by decide +kernel
theorem dl_565 : decode code 565 = .ok (.if_icmp .eq 430, 3) := by decide +kernel
theorem dl_570 : decode code 570 = .ok (.aload_n 1, 1) := by decide +kernel
theorem dl_571 : decode code 571 = .ok (.aload_n 0, 1) := by decide +kernel
theorem dl_572 : decode code 572 = .ok (.iload_n 3, 1) := by decide +kernel
theorem dl_573 : decode code 573 = .ok (.iconst 1, 1) := by decide +kernel
theorem dl_574 : decode code 574 = .ok (.iadd, 1) := by decide +kernel
theorem dl_575 : decode code 575 = .ok (.iaload, 1) := by decide +kernel
theorem lk_80 : Cond.methodLink R_law 80 yX7_drop ∈ GW := gw_at 766 (by decide +kernel) (by decide +kernel)
theorem dl_576 : decode code 576 = .ok (.invokevirtual 80, 3) := by decide +kernel
theorem dl_579 : decode code 579 = .ok (.aload_n 2, 1) := by decide +kernel
theorem dl_580 : decode code 580 = .ok (.aload_n 0, 1) := by decide +kernel
theorem dl_581 : decode code 581 = .ok (.iload_n 3, 1) := by decide +kernel
theorem dl_582 : decode code 582 = .ok (.iconst 1, 1) := by decide +kernel
theorem dl_583 : decode code 583 = .ok (.iadd, 1) := by decide +kernel
theorem dl_584 : decode code 584 = .ok (.iaload, 1) := by decide +kernel
theorem lk_83 : Cond.methodLink R_law 83 yX8_drop ∈ GW := gw_at 1243 (by decide +kernel) (by decide +kernel)
theorem dl_585 : decode code 585 = .ok (.invokevirtual 83, 3) := by decide +kernel
theorem dl_588 : decode code 588 = .ok (.if_icmp .eq 407, 3) := by decide +kernel
theorem dl_593 : decode code 593 = .ok (.aload_n 1, 1) := by decide +kernel
theorem dl_594 : decode code 594 = .ok (.aload_n 0, 1) := by decide +kernel
theorem dl_595 : decode code 595 = .ok (.iload_n 3, 1) := by decide +kernel
theorem dl_596 : decode code 596 = .ok (.iconst 1, 1) := by decide +kernel
theorem dl_597 : decode code 597 = .ok (.iadd, 1) := by decide +kernel
theorem dl_598 : decode code 598 = .ok (.iaload, 1) := by decide +kernel
theorem dl_599 : decode code 599 = .ok (.aload_n 0, 1) := by decide +kernel
theorem dl_600 : decode code 600 = .ok (.iload_n 3, 1) := by decide +kernel
theorem dl_601 : decode code 601 = .ok (.iconst 2, 1) := by decide +kernel
theorem dl_602 : decode code 602 = .ok (.iadd, 1) := by decide +kernel
theorem dl_603 : decode code 603 = .ok (.iaload, 1) := by decide +kernel
theorem lk_84 : Cond.methodLink R_law 84 yX7_set ∈ GW := gw_at 774 (by decide +kernel) (by decide +kernel)
theorem dl_604 : decode code 604 = .ok (.invokevirtual 84, 3) := by decide +kernel
theorem dl_607 : decode code 607 = .ok (.aload_n 2, 1) := by decide +kernel
theorem dl_608 : decode code 608 = .ok (.aload_n 0, 1) := by decide +kernel
theorem dl_609 : decode code 609 = .ok (.iload_n 3, 1) := by decide +kernel
theorem dl_610 : decode code 610 = .ok (.iconst 1, 1) := by decide +kernel
theorem dl_611 : decode code 611 = .ok (.iadd, 1) := by decide +kernel
theorem dl_612 : decode code 612 = .ok (.iaload, 1) := by decide +kernel
theorem dl_613 : decode code 613 = .ok (.aload_n 0, 1) := by decide +kernel
theorem dl_614 : decode code 614 = .ok (.iload_n 3, 1) := by decide +kernel
theorem dl_615 : decode code 615 = .ok (.iconst 2, 1) := by decide +kernel
theorem dl_616 : decode code 616 = .ok (.iadd, 1) := by decide +kernel
theorem dl_617 : decode code 617 = .ok (.iaload, 1) := by decide +kernel
theorem lk_87 : Cond.methodLink R_law 87 yX8_set ∈ GW := gw_at 1247 (by decide +kernel) (by decide +kernel)
theorem dl_618 : decode code 618 = .ok (.invokevirtual 87, 3) := by decide +kernel
theorem dl_621 : decode code 621 = .ok (.if_icmp .eq 374, 3) := by decide +kernel
theorem dl_626 : decode code 626 = .ok (.aload_n 1, 1) := by decide +kernel
theorem dl_627 : decode code 627 = .ok (.aload_n 0, 1) := by decide +kernel
theorem dl_628 : decode code 628 = .ok (.iload_n 3, 1) := by decide +kernel
theorem dl_629 : decode code 629 = .ok (.iconst 1, 1) := by decide +kernel
theorem dl_630 : decode code 630 = .ok (.iadd, 1) := by decide +kernel
theorem dl_631 : decode code 631 = .ok (.iaload, 1) := by decide +kernel
theorem dl_632 : decode code 632 = .ok (.aload_n 0, 1) := by decide +kernel
theorem dl_633 : decode code 633 = .ok (.iload_n 3, 1) := by decide +kernel
theorem dl_634 : decode code 634 = .ok (.iconst 2, 1) := by decide +kernel
theorem dl_635 : decode code 635 = .ok (.iadd, 1) := by decide +kernel
theorem dl_636 : decode code 636 = .ok (.iaload, 1) := by decide +kernel
theorem lk_88 : Cond.methodLink R_law 88 yX7_rate ∈ GW := gw_at 778 (by decide +kernel) (by decide +kernel)
theorem dl_637 : decode code 637 = .ok (.invokevirtual 88, 3) := by decide +kernel
theorem dl_640 : decode code 640 = .ok (.aload_n 2, 1) := by decide +kernel
theorem dl_641 : decode code 641 = .ok (.aload_n 0, 1) := by decide +kernel
theorem dl_642 : decode code 642 = .ok (.iload_n 3, 1) := by decide +kernel
theorem dl_643 : decode code 643 = .ok (.iconst 1, 1) := by decide +kernel
theorem dl_644 : decode code 644 = .ok (.iadd, 1) := by decide +kernel
theorem dl_645 : decode code 645 = .ok (.iaload, 1) := by decide +kernel
theorem dl_646 : decode code 646 = .ok (.aload_n 0, 1) := by decide +kernel
theorem dl_647 : decode code 647 = .ok (.iload_n 3, 1) := by decide +kernel
theorem dl_648 : decode code 648 = .ok (.iconst 2, 1) := by decide +kernel
theorem dl_649 : decode code 649 = .ok (.iadd, 1) := by decide +kernel
theorem dl_650 : decode code 650 = .ok (.iaload, 1) := by decide +kernel
theorem lk_91 : Cond.methodLink R_law 91 yX8_rate ∈ GW := gw_at 1251 (by decide +kernel) (by decide +kernel)
theorem dl_651 : decode code 651 = .ok (.invokevirtual 91, 3) := by decide +kernel
theorem dl_654 : decode code 654 = .ok (.if_icmp .eq 341, 3) := by decide +kernel
theorem dl_659 : decode code 659 = .ok (.aload_n 1, 1) := by decide +kernel
theorem dl_660 : decode code 660 = .ok (.aload_n 0, 1) := by decide +kernel
theorem dl_661 : decode code 661 = .ok (.iload_n 3, 1) := by decide +kernel
theorem dl_662 : decode code 662 = .ok (.iconst 1, 1) := by decide +kernel
theorem dl_663 : decode code 663 = .ok (.iadd, 1) := by decide +kernel
theorem dl_664 : decode code 664 = .ok (.iaload, 1) := by decide +kernel
theorem lk_92 : Cond.methodLink R_law 92 yX7_groups ∈ GW := gw_at 782 (by decide +kernel) (by decide +kernel)
theorem dl_665 : decode code 665 = .ok (.invokevirtual 92, 3) := by decide +kernel
theorem dl_668 : decode code 668 = .ok (.aload_n 2, 1) := by decide +kernel
theorem dl_669 : decode code 669 = .ok (.aload_n 0, 1) := by decide +kernel
theorem dl_670 : decode code 670 = .ok (.iload_n 3, 1) := by decide +kernel
theorem dl_671 : decode code 671 = .ok (.iconst 1, 1) := by decide +kernel
theorem dl_672 : decode code 672 = .ok (.iadd, 1) := by decide +kernel
theorem dl_673 : decode code 673 = .ok (.iaload, 1) := by decide +kernel
theorem lk_95 : Cond.methodLink R_law 95 yX8_groups ∈ GW := gw_at 1255 (by decide +kernel) (by decide +kernel)
theorem dl_674 : decode code 674 = .ok (.invokevirtual 95, 3) := by decide +kernel
theorem dl_677 : decode code 677 = .ok (.if_icmp .eq 318, 3) := by decide +kernel
theorem dl_682 : decode code 682 = .ok (.aload_n 1, 1) := by decide +kernel
theorem dl_683 : decode code 683 = .ok (.aload_n 0, 1) := by decide +kernel
theorem dl_684 : decode code 684 = .ok (.iload_n 3, 1) := by decide +kernel
theorem dl_685 : decode code 685 = .ok (.iconst 1, 1) := by decide +kernel
theorem dl_686 : decode code 686 = .ok (.iadd, 1) := by decide +kernel
theorem dl_687 : decode code 687 = .ok (.iaload, 1) := by decide +kernel
theorem lk_96 : Cond.methodLink R_law 96 yX7_bleed ∈ GW := gw_at 786 (by decide +kernel) (by decide +kernel)
theorem dl_688 : decode code 688 = .ok (.invokevirtual 96, 3) := by decide +kernel
theorem dl_691 : decode code 691 = .ok (.aload_n 2, 1) := by decide +kernel
theorem dl_692 : decode code 692 = .ok (.aload_n 0, 1) := by decide +kernel
theorem dl_693 : decode code 693 = .ok (.iload_n 3, 1) := by decide +kernel
theorem dl_694 : decode code 694 = .ok (.iconst 1, 1) := by decide +kernel
theorem dl_695 : decode code 695 = .ok (.iadd, 1) := by decide +kernel
theorem dl_696 : decode code 696 = .ok (.iaload, 1) := by decide +kernel
theorem lk_99 : Cond.methodLink R_law 99 yX8_bleed ∈ GW := gw_at 1260 (by decide +kernel) (by decide +kernel)
theorem dl_697 : decode code 697 = .ok (.invokevirtual 99, 3) := by decide +kernel
theorem dl_700 : decode code 700 = .ok (.if_icmp .eq 295, 3) := by decide +kernel
theorem dl_705 : decode code 705 = .ok (.aload_n 1, 1) := by decide +kernel
theorem dl_706 : decode code 706 = .ok (.aload_n 0, 1) := by decide +kernel
theorem dl_707 : decode code 707 = .ok (.iload_n 3, 1) := by decide +kernel
theorem dl_708 : decode code 708 = .ok (.iconst 1, 1) := by decide +kernel
theorem dl_709 : decode code 709 = .ok (.iadd, 1) := by decide +kernel
theorem dl_710 : decode code 710 = .ok (.iaload, 1) := by decide +kernel
theorem lk_100 : Cond.methodLink R_law 100 yX7_plan ∈ GW := gw_at 803 (by decide +kernel) (by decide +kernel)
theorem dl_711 : decode code 711 = .ok (.invokevirtual 100, 3) := by decide +kernel
theorem dl_714 : decode code 714 = .ok (.aload_n 2, 1) := by decide +kernel
theorem dl_715 : decode code 715 = .ok (.aload_n 0, 1) := by decide +kernel
theorem dl_716 : decode code 716 = .ok (.iload_n 3, 1) := by decide +kernel
theorem dl_717 : decode code 717 = .ok (.iconst 1, 1) := by decide +kernel
theorem dl_718 : decode code 718 = .ok (.iadd, 1) := by decide +kernel
theorem dl_719 : decode code 719 = .ok (.iaload, 1) := by decide +kernel
theorem lk_103 : Cond.methodLink R_law 103 yX8_plan ∈ GW := gw_at 1273 (by decide +kernel) (by decide +kernel)
theorem dl_720 : decode code 720 = .ok (.invokevirtual 103, 3) := by decide +kernel
theorem dl_723 : decode code 723 = .ok (.if_icmp .eq 272, 3) := by decide +kernel
theorem dl_728 : decode code 728 = .ok (.aload_n 1, 1) := by decide +kernel
theorem lk_104 : Cond.methodLink R_law 104 yX7_fill ∈ GW := gw_at 807 (by decide +kernel) (by decide +kernel)
theorem dl_729 : decode code 729 = .ok (.invokevirtual 104, 3) := by decide +kernel
theorem dl_732 : decode code 732 = .ok (.aload_n 2, 1) := by decide +kernel
theorem lk_107 : Cond.methodLink R_law 107 yX8_fill ∈ GW := gw_at 1285 (by decide +kernel) (by decide +kernel)
theorem dl_733 : decode code 733 = .ok (.invokevirtual 107, 3) := by decide +kernel
theorem dl_736 : decode code 736 = .ok (.if_icmp .eq 259, 3) := by decide +kernel
theorem dl_741 : decode code 741 = .ok (.aload_n 1, 1) := by decide +kernel
theorem dl_742 : decode code 742 = .ok (.aload_n 0, 1) := by decide +kernel
theorem dl_743 : decode code 743 = .ok (.iload_n 3, 1) := by decide +kernel
theorem dl_744 : decode code 744 = .ok (.iconst 1, 1) := by decide +kernel
theorem dl_745 : decode code 745 = .ok (.iadd, 1) := by decide +kernel
theorem dl_746 : decode code 746 = .ok (.iaload, 1) := by decide +kernel
theorem dl_747 : decode code 747 = .ok (.aload_n 0, 1) := by decide +kernel
theorem dl_748 : decode code 748 = .ok (.iload_n 3, 1) := by decide +kernel
theorem dl_749 : decode code 749 = .ok (.iconst 2, 1) := by decide +kernel
theorem dl_750 : decode code 750 = .ok (.iadd, 1) := by decide +kernel
theorem dl_751 : decode code 751 = .ok (.iaload, 1) := by decide +kernel
theorem lk_108 : Cond.methodLink R_law 108 yX7_draw ∈ GW := gw_at 811 (by decide +kernel) (by decide +kernel)
theorem dl_752 : decode code 752 = .ok (.invokevirtual 108, 3) := by decide +kernel
theorem dl_755 : decode code 755 = .ok (.aload_n 2, 1) := by decide +kernel
theorem dl_756 : decode code 756 = .ok (.aload_n 0, 1) := by decide +kernel
theorem dl_757 : decode code 757 = .ok (.iload_n 3, 1) := by decide +kernel
theorem dl_758 : decode code 758 = .ok (.iconst 1, 1) := by decide +kernel
theorem dl_759 : decode code 759 = .ok (.iadd, 1) := by decide +kernel
theorem dl_760 : decode code 760 = .ok (.iaload, 1) := by decide +kernel
theorem dl_761 : decode code 761 = .ok (.aload_n 0, 1) := by decide +kernel
theorem dl_762 : decode code 762 = .ok (.iload_n 3, 1) := by decide +kernel
theorem dl_763 : decode code 763 = .ok (.iconst 2, 1) := by decide +kernel
theorem dl_764 : decode code 764 = .ok (.iadd, 1) := by decide +kernel
theorem dl_765 : decode code 765 = .ok (.iaload, 1) := by decide +kernel
theorem lk_111 : Cond.methodLink R_law 111 yX8_draw ∈ GW := gw_at 1289 (by decide +kernel) (by decide +kernel)
theorem dl_766 : decode code 766 = .ok (.invokevirtual 111, 3) := by decide +kernel
theorem dl_769 : decode code 769 = .ok (.if_icmp .eq 226, 3) := by decide +kernel
theorem dl_774 : decode code 774 = .ok (.aload_n 1, 1) := by decide +kernel
theorem dl_775 : decode code 775 = .ok (.aload_n 0, 1) := by decide +kernel
theorem dl_776 : decode code 776 = .ok (.iload_n 3, 1) := by decide +kernel
theorem dl_777 : decode code 777 = .ok (.iconst 1, 1) := by decide +kernel
theorem dl_778 : decode code 778 = .ok (.iadd, 1) := by decide +kernel
theorem dl_779 : decode code 779 = .ok (.iaload, 1) := by decide +kernel
theorem lk_112 : Cond.methodLink R_law 112 yX7_keep ∈ GW := gw_at 817 (by decide +kernel) (by decide +kernel)
theorem dl_780 : decode code 780 = .ok (.invokevirtual 112, 3) := by decide +kernel
theorem dl_783 : decode code 783 = .ok (.aload_n 2, 1) := by decide +kernel
theorem dl_784 : decode code 784 = .ok (.aload_n 0, 1) := by decide +kernel
theorem dl_785 : decode code 785 = .ok (.iload_n 3, 1) := by decide +kernel
theorem dl_786 : decode code 786 = .ok (.iconst 1, 1) := by decide +kernel
theorem dl_787 : decode code 787 = .ok (.iadd, 1) := by decide +kernel
theorem dl_788 : decode code 788 = .ok (.iaload, 1) := by decide +kernel
theorem lk_115 : Cond.methodLink R_law 115 yX8_keep ∈ GW := gw_at 1295 (by decide +kernel) (by decide +kernel)
theorem dl_789 : decode code 789 = .ok (.invokevirtual 115, 3) := by decide +kernel
theorem dl_792 : decode code 792 = .ok (.if_icmp .eq 203, 3) := by decide +kernel
theorem dl_797 : decode code 797 = .ok (.aload_n 1, 1) := by decide +kernel
theorem dl_798 : decode code 798 = .ok (.aload_n 0, 1) := by decide +kernel
theorem dl_799 : decode code 799 = .ok (.iload_n 3, 1) := by decide +kernel
theorem dl_800 : decode code 800 = .ok (.iconst 1, 1) := by decide +kernel
theorem dl_801 : decode code 801 = .ok (.iadd, 1) := by decide +kernel
theorem dl_802 : decode code 802 = .ok (.iaload, 1) := by decide +kernel
theorem lk_116 : Cond.methodLink R_law 116 yX7_back ∈ GW := gw_at 824 (by decide +kernel) (by decide +kernel)
theorem dl_803 : decode code 803 = .ok (.invokevirtual 116, 3) := by decide +kernel
theorem dl_806 : decode code 806 = .ok (.aload_n 2, 1) := by decide +kernel
theorem dl_807 : decode code 807 = .ok (.aload_n 0, 1) := by decide +kernel
theorem dl_808 : decode code 808 = .ok (.iload_n 3, 1) := by decide +kernel
theorem dl_809 : decode code 809 = .ok (.iconst 1, 1) := by decide +kernel
theorem dl_810 : decode code 810 = .ok (.iadd, 1) := by decide +kernel
theorem dl_811 : decode code 811 = .ok (.iaload, 1) := by decide +kernel
theorem lk_119 : Cond.methodLink R_law 119 yX8_back ∈ GW := gw_at 1299 (by decide +kernel) (by decide +kernel)
theorem dl_812 : decode code 812 = .ok (.invokevirtual 119, 3) := by decide +kernel
theorem dl_815 : decode code 815 = .ok (.if_icmp .eq 180, 3) := by decide +kernel
theorem dl_820 : decode code 820 = .ok (.aload_n 1, 1) := by decide +kernel
theorem dl_821 : decode code 821 = .ok (.aload_n 0, 1) := by decide +kernel
theorem dl_822 : decode code 822 = .ok (.iload_n 3, 1) := by decide +kernel
theorem dl_823 : decode code 823 = .ok (.iconst 1, 1) := by decide +kernel
theorem dl_824 : decode code 824 = .ok (.iadd, 1) := by decide +kernel
theorem dl_825 : decode code 825 = .ok (.iaload, 1) := by decide +kernel
theorem dl_826 : decode code 826 = .ok (.aload_n 0, 1) := by decide +kernel
theorem dl_827 : decode code 827 = .ok (.iload_n 3, 1) := by decide +kernel
theorem dl_828 : decode code 828 = .ok (.iconst 2, 1) := by decide +kernel
theorem dl_829 : decode code 829 = .ok (.iadd, 1) := by decide +kernel
theorem dl_830 : decode code 830 = .ok (.iaload, 1) := by decide +kernel
theorem dl_831 : decode code 831 = .ok (.aload_n 0, 1) := by decide +kernel
theorem dl_832 : decode code 832 = .ok (.iload_n 3, 1) := by decide +kernel
theorem dl_833 : decode code 833 = .ok (.iconst 3, 1) := by decide +kernel
theorem dl_834 : decode code 834 = .ok (.iadd, 1) := by decide +kernel
theorem dl_835 : decode code 835 = .ok (.iaload, 1) := by decide +kernel
theorem lk_120 : Cond.methodLink R_law 120 yX7_sheet ∈ GW := gw_at 828 (by decide +kernel) (by decide +kernel)
theorem dl_836 : decode code 836 = .ok (.invokevirtual 120, 3) := by decide +kernel
theorem dl_839 : decode code 839 = .ok (.aload_n 2, 1) := by decide +kernel
theorem dl_840 : decode code 840 = .ok (.aload_n 0, 1) := by decide +kernel
theorem dl_841 : decode code 841 = .ok (.iload_n 3, 1) := by decide +kernel
theorem dl_842 : decode code 842 = .ok (.iconst 1, 1) := by decide +kernel
theorem dl_843 : decode code 843 = .ok (.iadd, 1) := by decide +kernel
theorem dl_844 : decode code 844 = .ok (.iaload, 1) := by decide +kernel
theorem dl_845 : decode code 845 = .ok (.aload_n 0, 1) := by decide +kernel
theorem dl_846 : decode code 846 = .ok (.iload_n 3, 1) := by decide +kernel
theorem dl_847 : decode code 847 = .ok (.iconst 2, 1) := by decide +kernel
theorem dl_848 : decode code 848 = .ok (.iadd, 1) := by decide +kernel
theorem dl_849 : decode code 849 = .ok (.iaload, 1) := by decide +kernel
theorem dl_850 : decode code 850 = .ok (.aload_n 0, 1) := by decide +kernel
theorem dl_851 : decode code 851 = .ok (.iload_n 3, 1) := by decide +kernel
theorem dl_852 : decode code 852 = .ok (.iconst 3, 1) := by decide +kernel
theorem dl_853 : decode code 853 = .ok (.iadd, 1) := by decide +kernel
theorem dl_854 : decode code 854 = .ok (.iaload, 1) := by decide +kernel
theorem lk_124 : Cond.methodLink R_law 124 yX8_sheet ∈ GW := gw_at 1303 (by decide +kernel) (by decide +kernel)
theorem dl_855 : decode code 855 = .ok (.invokevirtual 124, 3) := by decide +kernel
theorem dl_858 : decode code 858 = .ok (.if_icmp .eq 137, 3) := by decide +kernel
theorem dl_863 : decode code 863 = .ok (.aload_n 1, 1) := by decide +kernel
theorem dl_864 : decode code 864 = .ok (.aload_n 0, 1) := by decide +kernel
theorem dl_865 : decode code 865 = .ok (.iload_n 3, 1) := by decide +kernel
theorem dl_866 : decode code 866 = .ok (.iconst 1, 1) := by decide +kernel
theorem dl_867 : decode code 867 = .ok (.iadd, 1) := by decide +kernel
theorem dl_868 : decode code 868 = .ok (.iaload, 1) := by decide +kernel
theorem dl_869 : decode code 869 = .ok (.aload_n 0, 1) := by decide +kernel
theorem dl_870 : decode code 870 = .ok (.iload_n 3, 1) := by decide +kernel
theorem dl_871 : decode code 871 = .ok (.iconst 2, 1) := by decide +kernel
theorem dl_872 : decode code 872 = .ok (.iadd, 1) := by decide +kernel
theorem dl_873 : decode code 873 = .ok (.iaload, 1) := by decide +kernel
theorem dl_874 : decode code 874 = .ok (.aload_n 0, 1) := by decide +kernel
theorem dl_875 : decode code 875 = .ok (.iload_n 3, 1) := by decide +kernel
theorem dl_876 : decode code 876 = .ok (.iconst 3, 1) := by decide +kernel
theorem dl_877 : decode code 877 = .ok (.iadd, 1) := by decide +kernel
theorem dl_878 : decode code 878 = .ok (.iaload, 1) := by decide +kernel
theorem lk_125 : Cond.methodLink R_law 125 yX7_lay ∈ GW := gw_at 843 (by decide +kernel) (by decide +kernel)
theorem dl_879 : decode code 879 = .ok (.invokevirtual 125, 3) := by decide +kernel
theorem dl_882 : decode code 882 = .ok (.aload_n 2, 1) := by decide +kernel
theorem dl_883 : decode code 883 = .ok (.aload_n 0, 1) := by decide +kernel
theorem dl_884 : decode code 884 = .ok (.iload_n 3, 1) := by decide +kernel
theorem dl_885 : decode code 885 = .ok (.iconst 1, 1) := by decide +kernel
theorem dl_886 : decode code 886 = .ok (.iadd, 1) := by decide +kernel
theorem dl_887 : decode code 887 = .ok (.iaload, 1) := by decide +kernel
theorem dl_888 : decode code 888 = .ok (.aload_n 0, 1) := by decide +kernel
theorem dl_889 : decode code 889 = .ok (.iload_n 3, 1) := by decide +kernel
theorem dl_890 : decode code 890 = .ok (.iconst 2, 1) := by decide +kernel
theorem dl_891 : decode code 891 = .ok (.iadd, 1) := by decide +kernel
theorem dl_892 : decode code 892 = .ok (.iaload, 1) := by decide +kernel
theorem dl_893 : decode code 893 = .ok (.aload_n 0, 1) := by decide +kernel
theorem dl_894 : decode code 894 = .ok (.iload_n 3, 1) := by decide +kernel
theorem dl_895 : decode code 895 = .ok (.iconst 3, 1) := by decide +kernel
theorem dl_896 : decode code 896 = .ok (.iadd, 1) := by decide +kernel
theorem dl_897 : decode code 897 = .ok (.iaload, 1) := by decide +kernel
theorem lk_128 : Cond.methodLink R_law 128 yX8_lay ∈ GW := gw_at 1310 (by decide +kernel) (by decide +kernel)
theorem dl_898 : decode code 898 = .ok (.invokevirtual 128, 3) := by decide +kernel
theorem dl_901 : decode code 901 = .ok (.if_icmp .eq 94, 3) := by decide +kernel
theorem dl_906 : decode code 906 = .ok (.aload_n 1, 1) := by decide +kernel
theorem dl_907 : decode code 907 = .ok (.aload_n 0, 1) := by decide +kernel
theorem dl_908 : decode code 908 = .ok (.iload_n 3, 1) := by decide +kernel
theorem dl_909 : decode code 909 = .ok (.iconst 1, 1) := by decide +kernel
theorem dl_910 : decode code 910 = .ok (.iadd, 1) := by decide +kernel
theorem dl_911 : decode code 911 = .ok (.iaload, 1) := by decide +kernel
theorem dl_912 : decode code 912 = .ok (.aload_n 0, 1) := by decide +kernel
theorem dl_913 : decode code 913 = .ok (.iload_n 3, 1) := by decide +kernel
theorem dl_914 : decode code 914 = .ok (.iconst 2, 1) := by decide +kernel
theorem dl_915 : decode code 915 = .ok (.iadd, 1) := by decide +kernel
theorem dl_916 : decode code 916 = .ok (.iaload, 1) := by decide +kernel
theorem dl_917 : decode code 917 = .ok (.aload_n 0, 1) := by decide +kernel
theorem dl_918 : decode code 918 = .ok (.iload_n 3, 1) := by decide +kernel
theorem dl_919 : decode code 919 = .ok (.iconst 3, 1) := by decide +kernel
theorem dl_920 : decode code 920 = .ok (.iadd, 1) := by decide +kernel
theorem dl_921 : decode code 921 = .ok (.iaload, 1) := by decide +kernel
theorem dl_922 : decode code 922 = .ok (.aload_n 0, 1) := by decide +kernel
theorem dl_923 : decode code 923 = .ok (.iload_n 3, 1) := by decide +kernel
theorem dl_924 : decode code 924 = .ok (.iconst 4, 1) := by decide +kernel
theorem dl_925 : decode code 925 = .ok (.iadd, 1) := by decide +kernel
theorem dl_926 : decode code 926 = .ok (.iaload, 1) := by decide +kernel
theorem lk_129 : Cond.methodLink R_law 129 yX7_read ∈ GW := gw_at 852 (by decide +kernel) (by decide +kernel)
theorem dl_927 : decode code 927 = .ok (.invokevirtual 129, 3) := by decide +kernel
theorem dl_930 : decode code 930 = .ok (.aload_n 2, 1) := by decide +kernel
theorem dl_931 : decode code 931 = .ok (.aload_n 0, 1) := by decide +kernel
theorem dl_932 : decode code 932 = .ok (.iload_n 3, 1) := by decide +kernel
theorem dl_933 : decode code 933 = .ok (.iconst 1, 1) := by decide +kernel
theorem dl_934 : decode code 934 = .ok (.iadd, 1) := by decide +kernel
theorem dl_935 : decode code 935 = .ok (.iaload, 1) := by decide +kernel
theorem dl_936 : decode code 936 = .ok (.aload_n 0, 1) := by decide +kernel
theorem dl_937 : decode code 937 = .ok (.iload_n 3, 1) := by decide +kernel
theorem dl_938 : decode code 938 = .ok (.iconst 2, 1) := by decide +kernel
theorem dl_939 : decode code 939 = .ok (.iadd, 1) := by decide +kernel
theorem dl_940 : decode code 940 = .ok (.iaload, 1) := by decide +kernel
theorem dl_941 : decode code 941 = .ok (.aload_n 0, 1) := by decide +kernel
theorem dl_942 : decode code 942 = .ok (.iload_n 3, 1) := by decide +kernel
theorem dl_943 : decode code 943 = .ok (.iconst 3, 1) := by decide +kernel
theorem dl_944 : decode code 944 = .ok (.iadd, 1) := by decide +kernel
theorem dl_945 : decode code 945 = .ok (.iaload, 1) := by decide +kernel
theorem dl_946 : decode code 946 = .ok (.aload_n 0, 1) := by decide +kernel
theorem dl_947 : decode code 947 = .ok (.iload_n 3, 1) := by decide +kernel
theorem dl_948 : decode code 948 = .ok (.iconst 4, 1) := by decide +kernel
theorem dl_949 : decode code 949 = .ok (.iadd, 1) := by decide +kernel
theorem dl_950 : decode code 950 = .ok (.iaload, 1) := by decide +kernel
theorem lk_133 : Cond.methodLink R_law 133 yX8_read ∈ GW := gw_at 1314 (by decide +kernel) (by decide +kernel)
theorem dl_951 : decode code 951 = .ok (.invokevirtual 133, 3) := by decide +kernel
theorem dl_954 : decode code 954 = .ok (.if_icmp .eq 41, 3) := by decide +kernel
theorem dl_959 : decode code 959 = .ok (.aload_n 1, 1) := by decide +kernel
theorem lk_134 : Cond.methodLink R_law 134 yX7_torn ∈ GW := gw_at 865 (by decide +kernel) (by decide +kernel)
theorem dl_960 : decode code 960 = .ok (.invokevirtual 134, 3) := by decide +kernel
theorem dl_963 : decode code 963 = .ok (.aload_n 2, 1) := by decide +kernel
theorem lk_137 : Cond.methodLink R_law 137 yX8_torn ∈ GW := gw_at 1320 (by decide +kernel) (by decide +kernel)
theorem dl_964 : decode code 964 = .ok (.invokevirtual 137, 3) := by decide +kernel
theorem dl_967 : decode code 967 = .ok (.if_icmp .eq 28, 3) := by decide +kernel
theorem dl_972 : decode code 972 = .ok (.aload_n 1, 1) := by decide +kernel
theorem dl_973 : decode code 973 = .ok (.aload_n 0, 1) := by decide +kernel
theorem dl_974 : decode code 974 = .ok (.iload_n 3, 1) := by decide +kernel
theorem dl_975 : decode code 975 = .ok (.iconst 1, 1) := by decide +kernel
theorem dl_976 : decode code 976 = .ok (.iadd, 1) := by decide +kernel
theorem dl_977 : decode code 977 = .ok (.iaload, 1) := by decide +kernel
theorem lk_138 : Cond.methodLink R_law 138 yX7_count ∈ GW := gw_at 869 (by decide +kernel) (by decide +kernel)
theorem dl_978 : decode code 978 = .ok (.invokevirtual 138, 3) := by decide +kernel
theorem dl_981 : decode code 981 = .ok (.aload_n 2, 1) := by decide +kernel
theorem dl_982 : decode code 982 = .ok (.aload_n 0, 1) := by decide +kernel
theorem dl_983 : decode code 983 = .ok (.iload_n 3, 1) := by decide +kernel
theorem dl_984 : decode code 984 = .ok (.iconst 1, 1) := by decide +kernel
theorem dl_985 : decode code 985 = .ok (.iadd, 1) := by decide +kernel
theorem dl_986 : decode code 986 = .ok (.iaload, 1) := by decide +kernel
theorem lk_141 : Cond.methodLink R_law 141 yX8_count ∈ GW := gw_at 1324 (by decide +kernel) (by decide +kernel)
theorem dl_987 : decode code 987 = .ok (.invokevirtual 141, 3) := by decide +kernel
theorem dl_990 : decode code 990 = .ok (.if_icmp .eq 5, 3) := by decide +kernel
section LAWC
variable {ad : Nat → Nat} {cT dC : Nat → ClassId} {dI : Nat → Nat → Nat} {adV : Nat → Nat}
variable {p : Program} {l : Launch} {e : Env} {s : State} {m : MethodId} {below : List Frame} {meth : Method} {c : Code} {b L : Nat} {xs : Nat → Int32} {Q : State → Prop} {M : Mem} {H : Heap} {locs : List Loc} {ls : Array Slot} {x3 : Int32}
set_option maxHeartbeats 1000000 in
theorem law_0 (X : LX ad cT dC dI adV p s m meth c b L xs) (hI : INV M) (hP : va_P (dC, dI) vwCl (WL ad cT M) H) (hS : va_S (AD ad) s.heap H locs) (hl : lv_has ls 4 [(0, .ref b), (1, .ref (ad 0)), (2, .ref (ad 80)), (3, .int x3)]) (h1 : vp_in (x3 + 1) L) (kk : ∀ (M2 : Mem) (H1 : Heap) (locs1 : List Loc), INV M2 → va_P (dC, dI) vwCl (WL ad cT M2) H1 → va_S (AD ad) s.heap H1 locs1 → W p l e room_1 s m #[Value.ref b] below meth c H1 locs1 98 1715 Q (F0 m 995 ls [])) : W p l e room_1 s m #[Value.ref b] below meth c H locs 98 1715 Q (F0 m 172 ls []) := by
  obtain ⟨⟨hx, hb, hr, hml, hown, hts, hX, hbl, hlocks, hgv⟩, hWO, hnew, hL⟩ := id X
  have hbA : ¬ AD ad b := fun q => absurd (hnew b q) (Nat.not_le.mpr hbl)
  obtain ⟨a1, e1, r1⟩ := i32_ex (xs (x3 + 1).toNatClampNeg)
  refine lv_aload_n hx hb dl_172 rfl (lv_at hl 1 rfl) ?_
  refine lv_aload_n hx hb dl_173 rfl (lv_at hl 0 rfl) ?_
  refine lv_iload_n hx hb dl_174 rfl (lv_at hl 3 rfl) ?_
  refine lv_iconst (v := 1) hx hb dl_175 (by decide) ?_
  refine lv_iadd hx hb dl_176 ?_
  refine sl_ld e1 hx hb hX hbl hbA hS h1 dl_177 ?_
  refine lw_call (as := [.inl a1]) (rest := []) X (z := 58) rfl mo_58 rfl lk_13 rfl dl_178 hl.1 (Nat.le_of_ble_eq_true rfl) (ag_feed hI r1) hP hS (fun v M1 H locs hC hP hS => ?_)
  refine lv_aload_n hx hb dl_181 rfl (lv_at hl 2 rfl) ?_
  refine lv_aload_n hx hb dl_182 rfl (lv_at hl 0 rfl) ?_
  refine lv_iload_n hx hb dl_183 rfl (lv_at hl 3 rfl) ?_
  refine lv_iconst (v := 1) hx hb dl_184 (by decide) ?_
  refine lv_iadd hx hb dl_185 ?_
  refine sl_ld e1 hx hb hX hbl hbA hS h1 dl_186 ?_
  refine lw_call (as := [.inl a1]) (rest := [.int (Int32.ofInt v)]) X (z := 109) rfl mo_109 rfl lk_17 rfl dl_187 hl.1 (Nat.le_of_ble_eq_true rfl) hC hP hS (fun v2 M2 H locs hq hP hS => ?_)
  obtain ⟨rfl, hI2⟩ := hq
  refine lv_icmp_eq (tgt := 995) hx hb dl_190 (by decide) (fun _ => ?_) (fun g => absurd rfl g)
  exact kk M2 H locs hI2 hP hS
set_option maxHeartbeats 1000000 in
theorem law_1 (X : LX ad cT dC dI adV p s m meth c b L xs) (hI : INV M) (hP : va_P (dC, dI) vwCl (WL ad cT M) H) (hS : va_S (AD ad) s.heap H locs) (hl : lv_has ls 4 [(0, .ref b), (1, .ref (ad 0)), (2, .ref (ad 80)), (3, .int x3)]) (h1 : vp_in (x3 + 1) L) (kk : ∀ (M2 : Mem) (H1 : Heap) (locs1 : List Loc), INV M2 → va_P (dC, dI) vwCl (WL ad cT M2) H1 → va_S (AD ad) s.heap H1 locs1 → W p l e room_1 s m #[Value.ref b] below meth c H1 locs1 98 1715 Q (F0 m 995 ls [])) : W p l e room_1 s m #[Value.ref b] below meth c H locs 98 1715 Q (F0 m 195 ls []) := by
  obtain ⟨⟨hx, hb, hr, hml, hown, hts, hX, hbl, hlocks, hgv⟩, hWO, hnew, hL⟩ := id X
  have hbA : ¬ AD ad b := fun q => absurd (hnew b q) (Nat.not_le.mpr hbl)
  obtain ⟨a1, e1, r1⟩ := i32_ex (xs (x3 + 1).toNatClampNeg)
  refine lv_aload_n hx hb dl_195 rfl (lv_at hl 1 rfl) ?_
  refine lv_aload_n hx hb dl_196 rfl (lv_at hl 0 rfl) ?_
  refine lv_iload_n hx hb dl_197 rfl (lv_at hl 3 rfl) ?_
  refine lv_iconst (v := 1) hx hb dl_198 (by decide) ?_
  refine lv_iadd hx hb dl_199 ?_
  refine sl_ld e1 hx hb hX hbl hbA hS h1 dl_200 ?_
  refine lw_call (as := [.inl a1]) (rest := []) X (z := 59) rfl mo_59 rfl lk_18 rfl dl_201 hl.1 (Nat.le_of_ble_eq_true rfl) (ag_end hI r1) hP hS (fun v M1 H locs hC hP hS => ?_)
  refine lv_aload_n hx hb dl_204 rfl (lv_at hl 2 rfl) ?_
  refine lv_aload_n hx hb dl_205 rfl (lv_at hl 0 rfl) ?_
  refine lv_iload_n hx hb dl_206 rfl (lv_at hl 3 rfl) ?_
  refine lv_iconst (v := 1) hx hb dl_207 (by decide) ?_
  refine lv_iadd hx hb dl_208 ?_
  refine sl_ld e1 hx hb hX hbl hbA hS h1 dl_209 ?_
  refine lw_call (as := [.inl a1]) (rest := [.int (Int32.ofInt v)]) X (z := 110) rfl mo_110 rfl lk_21 rfl dl_210 hl.1 (Nat.le_of_ble_eq_true rfl) hC hP hS (fun v2 M2 H locs hq hP hS => ?_)
  obtain ⟨rfl, hI2⟩ := hq
  refine lv_icmp_eq (tgt := 995) hx hb dl_213 (by decide) (fun _ => ?_) (fun g => absurd rfl g)
  exact kk M2 H locs hI2 hP hS
set_option maxHeartbeats 1000000 in
theorem law_2 (X : LX ad cT dC dI adV p s m meth c b L xs) (hI : INV M) (hP : va_P (dC, dI) vwCl (WL ad cT M) H) (hS : va_S (AD ad) s.heap H locs) (hl : lv_has ls 4 [(0, .ref b), (1, .ref (ad 0)), (2, .ref (ad 80)), (3, .int x3)])  (kk : ∀ (M2 : Mem) (H1 : Heap) (locs1 : List Loc), INV M2 → va_P (dC, dI) vwCl (WL ad cT M2) H1 → va_S (AD ad) s.heap H1 locs1 → W p l e room_1 s m #[Value.ref b] below meth c H1 locs1 98 1715 Q (F0 m 995 ls [])) : W p l e room_1 s m #[Value.ref b] below meth c H locs 98 1715 Q (F0 m 218 ls []) := by
  obtain ⟨⟨hx, hb, hr, hml, hown, hts, hX, hbl, hlocks, hgv⟩, hWO, hnew, hL⟩ := id X
  have hbA : ¬ AD ad b := fun q => absurd (hnew b q) (Nat.not_le.mpr hbl)
  refine lv_aload_n hx hb dl_218 rfl (lv_at hl 1 rfl) ?_
  refine lw_call (as := []) (rest := []) X (z := 60) rfl mo_60 rfl lk_22 rfl dl_219 hl.1 (Nat.le_of_ble_eq_true rfl) (ag_text hI ) hP hS (fun v M1 H locs hC hP hS => ?_)
  refine lv_aload_n hx hb dl_222 rfl (lv_at hl 2 rfl) ?_
  refine lw_call (as := []) (rest := [.int (Int32.ofInt v)]) X (z := 121) rfl mo_121 rfl lk_26 rfl dl_223 hl.1 (Nat.le_of_ble_eq_true rfl) hC hP hS (fun v2 M2 H locs hq hP hS => ?_)
  obtain ⟨rfl, hI2⟩ := hq
  refine lv_icmp_eq (tgt := 995) hx hb dl_226 (by decide) (fun _ => ?_) (fun g => absurd rfl g)
  exact kk M2 H locs hI2 hP hS
set_option maxHeartbeats 1000000 in
theorem law_3 (X : LX ad cT dC dI adV p s m meth c b L xs) (hI : INV M) (hP : va_P (dC, dI) vwCl (WL ad cT M) H) (hS : va_S (AD ad) s.heap H locs) (hl : lv_has ls 4 [(0, .ref b), (1, .ref (ad 0)), (2, .ref (ad 80)), (3, .int x3)])  (kk : ∀ (M2 : Mem) (H1 : Heap) (locs1 : List Loc), INV M2 → va_P (dC, dI) vwCl (WL ad cT M2) H1 → va_S (AD ad) s.heap H1 locs1 → W p l e room_1 s m #[Value.ref b] below meth c H1 locs1 98 1715 Q (F0 m 995 ls [])) : W p l e room_1 s m #[Value.ref b] below meth c H locs 98 1715 Q (F0 m 231 ls []) := by
  obtain ⟨⟨hx, hb, hr, hml, hown, hts, hX, hbl, hlocks, hgv⟩, hWO, hnew, hL⟩ := id X
  have hbA : ¬ AD ad b := fun q => absurd (hnew b q) (Nat.not_le.mpr hbl)
  refine lv_aload_n hx hb dl_231 rfl (lv_at hl 1 rfl) ?_
  refine lw_call (as := []) (rest := []) X (z := 61) rfl mo_61 rfl lk_27 rfl dl_232 hl.1 (Nat.le_of_ble_eq_true rfl) (ag_fault hI ) hP hS (fun v M1 H locs hC hP hS => ?_)
  refine lv_aload_n hx hb dl_235 rfl (lv_at hl 2 rfl) ?_
  refine lw_call (as := []) (rest := [.int (Int32.ofInt v)]) X (z := 122) rfl mo_122 rfl lk_30 rfl dl_236 hl.1 (Nat.le_of_ble_eq_true rfl) hC hP hS (fun v2 M2 H locs hq hP hS => ?_)
  obtain ⟨rfl, hI2⟩ := hq
  refine lv_icmp_eq (tgt := 995) hx hb dl_239 (by decide) (fun _ => ?_) (fun g => absurd rfl g)
  exact kk M2 H locs hI2 hP hS
set_option maxHeartbeats 1000000 in
theorem law_4 (X : LX ad cT dC dI adV p s m meth c b L xs) (hI : INV M) (hP : va_P (dC, dI) vwCl (WL ad cT M) H) (hS : va_S (AD ad) s.heap H locs) (hl : lv_has ls 4 [(0, .ref b), (1, .ref (ad 0)), (2, .ref (ad 80)), (3, .int x3)]) (h1 : vp_in (x3 + 1) L) (kk : ∀ (M2 : Mem) (H1 : Heap) (locs1 : List Loc), INV M2 → va_P (dC, dI) vwCl (WL ad cT M2) H1 → va_S (AD ad) s.heap H1 locs1 → W p l e room_1 s m #[Value.ref b] below meth c H1 locs1 98 1715 Q (F0 m 995 ls [])) : W p l e room_1 s m #[Value.ref b] below meth c H locs 98 1715 Q (F0 m 244 ls []) := by
  obtain ⟨⟨hx, hb, hr, hml, hown, hts, hX, hbl, hlocks, hgv⟩, hWO, hnew, hL⟩ := id X
  have hbA : ¬ AD ad b := fun q => absurd (hnew b q) (Nat.not_le.mpr hbl)
  obtain ⟨a1, e1, r1⟩ := i32_ex (xs (x3 + 1).toNatClampNeg)
  refine lv_aload_n hx hb dl_244 rfl (lv_at hl 1 rfl) ?_
  refine lv_aload_n hx hb dl_245 rfl (lv_at hl 0 rfl) ?_
  refine lv_iload_n hx hb dl_246 rfl (lv_at hl 3 rfl) ?_
  refine lv_iconst (v := 1) hx hb dl_247 (by decide) ?_
  refine lv_iadd hx hb dl_248 ?_
  refine sl_ld e1 hx hb hX hbl hbA hS h1 dl_249 ?_
  refine lw_call (as := [.inl a1]) (rest := []) X (z := 62) rfl mo_62 rfl lk_31 rfl dl_250 hl.1 (Nat.le_of_ble_eq_true rfl) (ag_rule hI r1) hP hS (fun v M1 H locs hC hP hS => ?_)
  refine lv_aload_n hx hb dl_253 rfl (lv_at hl 2 rfl) ?_
  refine lv_aload_n hx hb dl_254 rfl (lv_at hl 0 rfl) ?_
  refine lv_iload_n hx hb dl_255 rfl (lv_at hl 3 rfl) ?_
  refine lv_iconst (v := 1) hx hb dl_256 (by decide) ?_
  refine lv_iadd hx hb dl_257 ?_
  refine sl_ld e1 hx hb hX hbl hbA hS h1 dl_258 ?_
  refine lw_call (as := [.inl a1]) (rest := [.int (Int32.ofInt v)]) X (z := 134) rfl mo_134 rfl lk_34 rfl dl_259 hl.1 (Nat.le_of_ble_eq_true rfl) hC hP hS (fun v2 M2 H locs hq hP hS => ?_)
  obtain ⟨rfl, hI2⟩ := hq
  refine lv_icmp_eq (tgt := 995) hx hb dl_262 (by decide) (fun _ => ?_) (fun g => absurd rfl g)
  exact kk M2 H locs hI2 hP hS
set_option maxHeartbeats 1000000 in
theorem law_5 (X : LX ad cT dC dI adV p s m meth c b L xs) (hI : INV M) (hP : va_P (dC, dI) vwCl (WL ad cT M) H) (hS : va_S (AD ad) s.heap H locs) (hl : lv_has ls 4 [(0, .ref b), (1, .ref (ad 0)), (2, .ref (ad 80)), (3, .int x3)]) (h1 : vp_in (x3 + 1) L) (h2 : vp_in (x3 + 2) L) (kk : ∀ (M2 : Mem) (H1 : Heap) (locs1 : List Loc), INV M2 → va_P (dC, dI) vwCl (WL ad cT M2) H1 → va_S (AD ad) s.heap H1 locs1 → W p l e room_1 s m #[Value.ref b] below meth c H1 locs1 98 1715 Q (F0 m 995 ls [])) : W p l e room_1 s m #[Value.ref b] below meth c H locs 98 1715 Q (F0 m 267 ls []) := by
  obtain ⟨⟨hx, hb, hr, hml, hown, hts, hX, hbl, hlocks, hgv⟩, hWO, hnew, hL⟩ := id X
  have hbA : ¬ AD ad b := fun q => absurd (hnew b q) (Nat.not_le.mpr hbl)
  obtain ⟨a1, e1, r1⟩ := i32_ex (xs (x3 + 1).toNatClampNeg)
  obtain ⟨a2, e2, r2⟩ := i32_ex (xs (x3 + 2).toNatClampNeg)
  refine lv_aload_n hx hb dl_267 rfl (lv_at hl 1 rfl) ?_
  refine lv_aload_n hx hb dl_268 rfl (lv_at hl 0 rfl) ?_
  refine lv_iload_n hx hb dl_269 rfl (lv_at hl 3 rfl) ?_
  refine lv_iconst (v := 1) hx hb dl_270 (by decide) ?_
  refine lv_iadd hx hb dl_271 ?_
  refine sl_ld e1 hx hb hX hbl hbA hS h1 dl_272 ?_
  refine lv_aload_n hx hb dl_273 rfl (lv_at hl 0 rfl) ?_
  refine lv_iload_n hx hb dl_274 rfl (lv_at hl 3 rfl) ?_
  refine lv_iconst (v := 2) hx hb dl_275 (by decide) ?_
  refine lv_iadd hx hb dl_276 ?_
  refine sl_ld e2 hx hb hX hbl hbA hS h2 dl_277 ?_
  refine lw_call (as := [.inl a1, .inl a2]) (rest := []) X (z := 63) rfl mo_63 rfl lk_35 rfl dl_278 hl.1 (Nat.le_of_ble_eq_true rfl) (ag_cell hI r1 r2) hP hS (fun v M1 H locs hC hP hS => ?_)
  refine lv_aload_n hx hb dl_281 rfl (lv_at hl 2 rfl) ?_
  refine lv_aload_n hx hb dl_282 rfl (lv_at hl 0 rfl) ?_
  refine lv_iload_n hx hb dl_283 rfl (lv_at hl 3 rfl) ?_
  refine lv_iconst (v := 1) hx hb dl_284 (by decide) ?_
  refine lv_iadd hx hb dl_285 ?_
  refine sl_ld e1 hx hb hX hbl hbA hS h1 dl_286 ?_
  refine lv_aload_n hx hb dl_287 rfl (lv_at hl 0 rfl) ?_
  refine lv_iload_n hx hb dl_288 rfl (lv_at hl 3 rfl) ?_
  refine lv_iconst (v := 2) hx hb dl_289 (by decide) ?_
  refine lv_iadd hx hb dl_290 ?_
  refine sl_ld e2 hx hb hX hbl hbA hS h2 dl_291 ?_
  refine lw_call (as := [.inl a1, .inl a2]) (rest := [.int (Int32.ofInt v)]) X (z := 136) rfl mo_136 rfl lk_39 rfl dl_292 hl.1 (Nat.le_of_ble_eq_true rfl) hC hP hS (fun v2 M2 H locs hq hP hS => ?_)
  obtain ⟨rfl, hI2⟩ := hq
  refine lv_icmp_eq (tgt := 995) hx hb dl_295 (by decide) (fun _ => ?_) (fun g => absurd rfl g)
  exact kk M2 H locs hI2 hP hS
set_option maxHeartbeats 1000000 in
theorem law_6 (X : LX ad cT dC dI adV p s m meth c b L xs) (hI : INV M) (hP : va_P (dC, dI) vwCl (WL ad cT M) H) (hS : va_S (AD ad) s.heap H locs) (hl : lv_has ls 4 [(0, .ref b), (1, .ref (ad 0)), (2, .ref (ad 80)), (3, .int x3)]) (h1 : vp_in (x3 + 1) L) (h2 : vp_in (x3 + 2) L) (kk : ∀ (M2 : Mem) (H1 : Heap) (locs1 : List Loc), INV M2 → va_P (dC, dI) vwCl (WL ad cT M2) H1 → va_S (AD ad) s.heap H1 locs1 → W p l e room_1 s m #[Value.ref b] below meth c H1 locs1 98 1715 Q (F0 m 995 ls [])) : W p l e room_1 s m #[Value.ref b] below meth c H locs 98 1715 Q (F0 m 300 ls []) := by
  obtain ⟨⟨hx, hb, hr, hml, hown, hts, hX, hbl, hlocks, hgv⟩, hWO, hnew, hL⟩ := id X
  have hbA : ¬ AD ad b := fun q => absurd (hnew b q) (Nat.not_le.mpr hbl)
  obtain ⟨a1, e1, r1⟩ := i32_ex (xs (x3 + 1).toNatClampNeg)
  obtain ⟨a2, e2, r2⟩ := i32_ex (xs (x3 + 2).toNatClampNeg)
  refine lv_aload_n hx hb dl_300 rfl (lv_at hl 1 rfl) ?_
  refine lv_aload_n hx hb dl_301 rfl (lv_at hl 0 rfl) ?_
  refine lv_iload_n hx hb dl_302 rfl (lv_at hl 3 rfl) ?_
  refine lv_iconst (v := 1) hx hb dl_303 (by decide) ?_
  refine lv_iadd hx hb dl_304 ?_
  refine sl_ld e1 hx hb hX hbl hbA hS h1 dl_305 ?_
  refine lv_aload_n hx hb dl_306 rfl (lv_at hl 0 rfl) ?_
  refine lv_iload_n hx hb dl_307 rfl (lv_at hl 3 rfl) ?_
  refine lv_iconst (v := 2) hx hb dl_308 (by decide) ?_
  refine lv_iadd hx hb dl_309 ?_
  refine sl_ld e2 hx hb hX hbl hbA hS h2 dl_310 ?_
  refine lw_call (as := [.inl a1, .inl a2]) (rest := []) X (z := 64) rfl mo_64 rfl lk_40 rfl dl_311 hl.1 (Nat.le_of_ble_eq_true rfl) (ag_group hI r1 r2) hP hS (fun v M1 H locs hC hP hS => ?_)
  refine lv_aload_n hx hb dl_314 rfl (lv_at hl 2 rfl) ?_
  refine lv_aload_n hx hb dl_315 rfl (lv_at hl 0 rfl) ?_
  refine lv_iload_n hx hb dl_316 rfl (lv_at hl 3 rfl) ?_
  refine lv_iconst (v := 1) hx hb dl_317 (by decide) ?_
  refine lv_iadd hx hb dl_318 ?_
  refine sl_ld e1 hx hb hX hbl hbA hS h1 dl_319 ?_
  refine lv_aload_n hx hb dl_320 rfl (lv_at hl 0 rfl) ?_
  refine lv_iload_n hx hb dl_321 rfl (lv_at hl 3 rfl) ?_
  refine lv_iconst (v := 2) hx hb dl_322 (by decide) ?_
  refine lv_iadd hx hb dl_323 ?_
  refine sl_ld e2 hx hb hX hbl hbA hS h2 dl_324 ?_
  refine lw_call (as := [.inl a1, .inl a2]) (rest := [.int (Int32.ofInt v)]) X (z := 141) rfl mo_141 rfl lk_43 rfl dl_325 hl.1 (Nat.le_of_ble_eq_true rfl) hC hP hS (fun v2 M2 H locs hq hP hS => ?_)
  obtain ⟨rfl, hI2⟩ := hq
  refine lv_icmp_eq (tgt := 995) hx hb dl_328 (by decide) (fun _ => ?_) (fun g => absurd rfl g)
  exact kk M2 H locs hI2 hP hS
set_option maxHeartbeats 1000000 in
theorem law_7 (X : LX ad cT dC dI adV p s m meth c b L xs) (hI : INV M) (hP : va_P (dC, dI) vwCl (WL ad cT M) H) (hS : va_S (AD ad) s.heap H locs) (hl : lv_has ls 4 [(0, .ref b), (1, .ref (ad 0)), (2, .ref (ad 80)), (3, .int x3)]) (h1 : vp_in (x3 + 1) L) (kk : ∀ (M2 : Mem) (H1 : Heap) (locs1 : List Loc), INV M2 → va_P (dC, dI) vwCl (WL ad cT M2) H1 → va_S (AD ad) s.heap H1 locs1 → W p l e room_1 s m #[Value.ref b] below meth c H1 locs1 98 1715 Q (F0 m 995 ls [])) : W p l e room_1 s m #[Value.ref b] below meth c H locs 98 1715 Q (F0 m 333 ls []) := by
  obtain ⟨⟨hx, hb, hr, hml, hown, hts, hX, hbl, hlocks, hgv⟩, hWO, hnew, hL⟩ := id X
  have hbA : ¬ AD ad b := fun q => absurd (hnew b q) (Nat.not_le.mpr hbl)
  obtain ⟨a1, e1, r1⟩ := i32_ex (xs (x3 + 1).toNatClampNeg)
  refine lv_aload_n hx hb dl_333 rfl (lv_at hl 1 rfl) ?_
  refine lv_aload_n hx hb dl_334 rfl (lv_at hl 0 rfl) ?_
  refine lv_iload_n hx hb dl_335 rfl (lv_at hl 3 rfl) ?_
  refine lv_iconst (v := 1) hx hb dl_336 (by decide) ?_
  refine lv_iadd hx hb dl_337 ?_
  refine sl_ld e1 hx hb hX hbl hbA hS h1 dl_338 ?_
  refine lw_call (as := [.inl a1]) (rest := []) X (z := 65) rfl mo_65 rfl lk_44 rfl dl_339 hl.1 (Nat.le_of_ble_eq_true rfl) (ag_take hI r1) hP hS (fun v M1 H locs hC hP hS => ?_)
  refine lv_aload_n hx hb dl_342 rfl (lv_at hl 2 rfl) ?_
  refine lv_aload_n hx hb dl_343 rfl (lv_at hl 0 rfl) ?_
  refine lv_iload_n hx hb dl_344 rfl (lv_at hl 3 rfl) ?_
  refine lv_iconst (v := 1) hx hb dl_345 (by decide) ?_
  refine lv_iadd hx hb dl_346 ?_
  refine sl_ld e1 hx hb hX hbl hbA hS h1 dl_347 ?_
  refine lw_call (as := [.inl a1]) (rest := [.int (Int32.ofInt v)]) X (z := 158) rfl mo_158 rfl lk_47 rfl dl_348 hl.1 (Nat.le_of_ble_eq_true rfl) hC hP hS (fun v2 M2 H locs hq hP hS => ?_)
  obtain ⟨rfl, hI2⟩ := hq
  refine lv_icmp_eq (tgt := 995) hx hb dl_351 (by decide) (fun _ => ?_) (fun g => absurd rfl g)
  exact kk M2 H locs hI2 hP hS
set_option maxHeartbeats 1000000 in
theorem law_8 (X : LX ad cT dC dI adV p s m meth c b L xs) (hI : INV M) (hP : va_P (dC, dI) vwCl (WL ad cT M) H) (hS : va_S (AD ad) s.heap H locs) (hl : lv_has ls 4 [(0, .ref b), (1, .ref (ad 0)), (2, .ref (ad 80)), (3, .int x3)]) (h1 : vp_in (x3 + 1) L) (h2 : vp_in (x3 + 2) L) (kk : ∀ (M2 : Mem) (H1 : Heap) (locs1 : List Loc), INV M2 → va_P (dC, dI) vwCl (WL ad cT M2) H1 → va_S (AD ad) s.heap H1 locs1 → W p l e room_1 s m #[Value.ref b] below meth c H1 locs1 98 1715 Q (F0 m 995 ls [])) : W p l e room_1 s m #[Value.ref b] below meth c H locs 98 1715 Q (F0 m 356 ls []) := by
  obtain ⟨⟨hx, hb, hr, hml, hown, hts, hX, hbl, hlocks, hgv⟩, hWO, hnew, hL⟩ := id X
  have hbA : ¬ AD ad b := fun q => absurd (hnew b q) (Nat.not_le.mpr hbl)
  obtain ⟨a1, e1, r1⟩ := i32_ex (xs (x3 + 1).toNatClampNeg)
  obtain ⟨a2, e2, r2⟩ := i32_ex (xs (x3 + 2).toNatClampNeg)
  refine lv_aload_n hx hb dl_356 rfl (lv_at hl 1 rfl) ?_
  refine lv_aload_n hx hb dl_357 rfl (lv_at hl 0 rfl) ?_
  refine lv_iload_n hx hb dl_358 rfl (lv_at hl 3 rfl) ?_
  refine lv_iconst (v := 1) hx hb dl_359 (by decide) ?_
  refine lv_iadd hx hb dl_360 ?_
  refine sl_ld e1 hx hb hX hbl hbA hS h1 dl_361 ?_
  refine lv_aload_n hx hb dl_362 rfl (lv_at hl 0 rfl) ?_
  refine lv_iload_n hx hb dl_363 rfl (lv_at hl 3 rfl) ?_
  refine lv_iconst (v := 2) hx hb dl_364 (by decide) ?_
  refine lv_iadd hx hb dl_365 ?_
  refine sl_ld e2 hx hb hX hbl hbA hS h2 dl_366 ?_
  refine lw_call (as := [.inl a1, .inl a2]) (rest := []) X (z := 66) rfl mo_66 rfl lk_48 rfl dl_367 hl.1 (Nat.le_of_ble_eq_true rfl) (ag_would hI r1 r2) hP hS (fun v M1 H locs hC hP hS => ?_)
  refine lv_aload_n hx hb dl_370 rfl (lv_at hl 2 rfl) ?_
  refine lv_aload_n hx hb dl_371 rfl (lv_at hl 0 rfl) ?_
  refine lv_iload_n hx hb dl_372 rfl (lv_at hl 3 rfl) ?_
  refine lv_iconst (v := 1) hx hb dl_373 (by decide) ?_
  refine lv_iadd hx hb dl_374 ?_
  refine sl_ld e1 hx hb hX hbl hbA hS h1 dl_375 ?_
  refine lv_aload_n hx hb dl_376 rfl (lv_at hl 0 rfl) ?_
  refine lv_iload_n hx hb dl_377 rfl (lv_at hl 3 rfl) ?_
  refine lv_iconst (v := 2) hx hb dl_378 (by decide) ?_
  refine lv_iadd hx hb dl_379 ?_
  refine sl_ld e2 hx hb hX hbl hbA hS h2 dl_380 ?_
  refine lw_call (as := [.inl a1, .inl a2]) (rest := [.int (Int32.ofInt v)]) X (z := 160) rfl mo_160 rfl lk_51 rfl dl_381 hl.1 (Nat.le_of_ble_eq_true rfl) hC hP hS (fun v2 M2 H locs hq hP hS => ?_)
  obtain ⟨rfl, hI2⟩ := hq
  refine lv_icmp_eq (tgt := 995) hx hb dl_384 (by decide) (fun _ => ?_) (fun g => absurd rfl g)
  exact kk M2 H locs hI2 hP hS
set_option maxHeartbeats 1000000 in
theorem law_9 (X : LX ad cT dC dI adV p s m meth c b L xs) (hI : INV M) (hP : va_P (dC, dI) vwCl (WL ad cT M) H) (hS : va_S (AD ad) s.heap H locs) (hl : lv_has ls 4 [(0, .ref b), (1, .ref (ad 0)), (2, .ref (ad 80)), (3, .int x3)]) (h1 : vp_in (x3 + 1) L) (h2 : vp_in (x3 + 2) L) (kk : ∀ (M2 : Mem) (H1 : Heap) (locs1 : List Loc), INV M2 → va_P (dC, dI) vwCl (WL ad cT M2) H1 → va_S (AD ad) s.heap H1 locs1 → W p l e room_1 s m #[Value.ref b] below meth c H1 locs1 98 1715 Q (F0 m 995 ls [])) : W p l e room_1 s m #[Value.ref b] below meth c H locs 98 1715 Q (F0 m 389 ls []) := by
  obtain ⟨⟨hx, hb, hr, hml, hown, hts, hX, hbl, hlocks, hgv⟩, hWO, hnew, hL⟩ := id X
  have hbA : ¬ AD ad b := fun q => absurd (hnew b q) (Nat.not_le.mpr hbl)
  obtain ⟨a1, e1, r1⟩ := i32_ex (xs (x3 + 1).toNatClampNeg)
  obtain ⟨a2, e2, r2⟩ := i32_ex (xs (x3 + 2).toNatClampNeg)
  refine lv_aload_n hx hb dl_389 rfl (lv_at hl 1 rfl) ?_
  refine lv_aload_n hx hb dl_390 rfl (lv_at hl 0 rfl) ?_
  refine lv_iload_n hx hb dl_391 rfl (lv_at hl 3 rfl) ?_
  refine lv_iconst (v := 1) hx hb dl_392 (by decide) ?_
  refine lv_iadd hx hb dl_393 ?_
  refine sl_ld e1 hx hb hX hbl hbA hS h1 dl_394 ?_
  refine lv_aload_n hx hb dl_395 rfl (lv_at hl 0 rfl) ?_
  refine lv_iload_n hx hb dl_396 rfl (lv_at hl 3 rfl) ?_
  refine lv_iconst (v := 2) hx hb dl_397 (by decide) ?_
  refine lv_iadd hx hb dl_398 ?_
  refine sl_ld e2 hx hb hX hbl hbA hS h2 dl_399 ?_
  refine lw_call (as := [.inl a1, .inl a2]) (rest := []) X (z := 67) rfl mo_67 rfl lk_52 rfl dl_400 hl.1 (Nat.le_of_ble_eq_true rfl) (ag_where hI r1 r2) hP hS (fun v M1 H locs hC hP hS => ?_)
  refine lv_aload_n hx hb dl_403 rfl (lv_at hl 2 rfl) ?_
  refine lv_aload_n hx hb dl_404 rfl (lv_at hl 0 rfl) ?_
  refine lv_iload_n hx hb dl_405 rfl (lv_at hl 3 rfl) ?_
  refine lv_iconst (v := 1) hx hb dl_406 (by decide) ?_
  refine lv_iadd hx hb dl_407 ?_
  refine sl_ld e1 hx hb hX hbl hbA hS h1 dl_408 ?_
  refine lv_aload_n hx hb dl_409 rfl (lv_at hl 0 rfl) ?_
  refine lv_iload_n hx hb dl_410 rfl (lv_at hl 3 rfl) ?_
  refine lv_iconst (v := 2) hx hb dl_411 (by decide) ?_
  refine lv_iadd hx hb dl_412 ?_
  refine sl_ld e2 hx hb hX hbl hbA hS h2 dl_413 ?_
  refine lw_call (as := [.inl a1, .inl a2]) (rest := [.int (Int32.ofInt v)]) X (z := 161) rfl mo_161 rfl lk_55 rfl dl_414 hl.1 (Nat.le_of_ble_eq_true rfl) hC hP hS (fun v2 M2 H locs hq hP hS => ?_)
  obtain ⟨rfl, hI2⟩ := hq
  refine lv_icmp_eq (tgt := 995) hx hb dl_417 (by decide) (fun _ => ?_) (fun g => absurd rfl g)
  exact kk M2 H locs hI2 hP hS
set_option maxHeartbeats 1000000 in
theorem law_10 (X : LX ad cT dC dI adV p s m meth c b L xs) (hI : INV M) (hP : va_P (dC, dI) vwCl (WL ad cT M) H) (hS : va_S (AD ad) s.heap H locs) (hl : lv_has ls 4 [(0, .ref b), (1, .ref (ad 0)), (2, .ref (ad 80)), (3, .int x3)]) (h1 : vp_in (x3 + 1) L) (kk : ∀ (M2 : Mem) (H1 : Heap) (locs1 : List Loc), INV M2 → va_P (dC, dI) vwCl (WL ad cT M2) H1 → va_S (AD ad) s.heap H1 locs1 → W p l e room_1 s m #[Value.ref b] below meth c H1 locs1 98 1715 Q (F0 m 995 ls [])) : W p l e room_1 s m #[Value.ref b] below meth c H locs 98 1715 Q (F0 m 422 ls []) := by
  obtain ⟨⟨hx, hb, hr, hml, hown, hts, hX, hbl, hlocks, hgv⟩, hWO, hnew, hL⟩ := id X
  have hbA : ¬ AD ad b := fun q => absurd (hnew b q) (Nat.not_le.mpr hbl)
  obtain ⟨a1, e1, r1⟩ := i32_ex (xs (x3 + 1).toNatClampNeg)
  refine lv_aload_n hx hb dl_422 rfl (lv_at hl 1 rfl) ?_
  refine lv_aload_n hx hb dl_423 rfl (lv_at hl 0 rfl) ?_
  refine lv_iload_n hx hb dl_424 rfl (lv_at hl 3 rfl) ?_
  refine lv_iconst (v := 1) hx hb dl_425 (by decide) ?_
  refine lv_iadd hx hb dl_426 ?_
  refine sl_ld e1 hx hb hX hbl hbA hS h1 dl_427 ?_
  refine lw_call (as := [.inl a1]) (rest := []) X (z := 68) rfl mo_68 rfl lk_56 rfl dl_428 hl.1 (Nat.le_of_ble_eq_true rfl) (ag_bound hI r1) hP hS (fun v M1 H locs hC hP hS => ?_)
  refine lv_aload_n hx hb dl_431 rfl (lv_at hl 2 rfl) ?_
  refine lv_aload_n hx hb dl_432 rfl (lv_at hl 0 rfl) ?_
  refine lv_iload_n hx hb dl_433 rfl (lv_at hl 3 rfl) ?_
  refine lv_iconst (v := 1) hx hb dl_434 (by decide) ?_
  refine lv_iadd hx hb dl_435 ?_
  refine sl_ld e1 hx hb hX hbl hbA hS h1 dl_436 ?_
  refine lw_call (as := [.inl a1]) (rest := [.int (Int32.ofInt v)]) X (z := 164) rfl mo_164 rfl lk_59 rfl dl_437 hl.1 (Nat.le_of_ble_eq_true rfl) hC hP hS (fun v2 M2 H locs hq hP hS => ?_)
  obtain ⟨rfl, hI2⟩ := hq
  refine lv_icmp_eq (tgt := 995) hx hb dl_440 (by decide) (fun _ => ?_) (fun g => absurd rfl g)
  exact kk M2 H locs hI2 hP hS
set_option maxHeartbeats 1000000 in
theorem law_11 (X : LX ad cT dC dI adV p s m meth c b L xs) (hI : INV M) (hP : va_P (dC, dI) vwCl (WL ad cT M) H) (hS : va_S (AD ad) s.heap H locs) (hl : lv_has ls 4 [(0, .ref b), (1, .ref (ad 0)), (2, .ref (ad 80)), (3, .int x3)]) (h1 : vp_in (x3 + 1) L) (kk : ∀ (M2 : Mem) (H1 : Heap) (locs1 : List Loc), INV M2 → va_P (dC, dI) vwCl (WL ad cT M2) H1 → va_S (AD ad) s.heap H1 locs1 → W p l e room_1 s m #[Value.ref b] below meth c H1 locs1 98 1715 Q (F0 m 995 ls [])) : W p l e room_1 s m #[Value.ref b] below meth c H locs 98 1715 Q (F0 m 445 ls []) := by
  obtain ⟨⟨hx, hb, hr, hml, hown, hts, hX, hbl, hlocks, hgv⟩, hWO, hnew, hL⟩ := id X
  have hbA : ¬ AD ad b := fun q => absurd (hnew b q) (Nat.not_le.mpr hbl)
  obtain ⟨a1, e1, r1⟩ := i32_ex (xs (x3 + 1).toNatClampNeg)
  refine lv_aload_n hx hb dl_445 rfl (lv_at hl 1 rfl) ?_
  refine lv_aload_n hx hb dl_446 rfl (lv_at hl 0 rfl) ?_
  refine lv_iload_n hx hb dl_447 rfl (lv_at hl 3 rfl) ?_
  refine lv_iconst (v := 1) hx hb dl_448 (by decide) ?_
  refine lv_iadd hx hb dl_449 ?_
  refine sl_ld e1 hx hb hX hbl hbA hS h1 dl_450 ?_
  refine lw_call (as := [.inl a1]) (rest := []) X (z := 69) rfl mo_69 rfl lk_60 rfl dl_451 hl.1 (Nat.le_of_ble_eq_true rfl) (ag_joined hI r1) hP hS (fun v M1 H locs hC hP hS => ?_)
  refine lv_aload_n hx hb dl_454 rfl (lv_at hl 2 rfl) ?_
  refine lv_aload_n hx hb dl_455 rfl (lv_at hl 0 rfl) ?_
  refine lv_iload_n hx hb dl_456 rfl (lv_at hl 3 rfl) ?_
  refine lv_iconst (v := 1) hx hb dl_457 (by decide) ?_
  refine lv_iadd hx hb dl_458 ?_
  refine sl_ld e1 hx hb hX hbl hbA hS h1 dl_459 ?_
  refine lw_call (as := [.inl a1]) (rest := [.int (Int32.ofInt v)]) X (z := 165) rfl mo_165 rfl lk_63 rfl dl_460 hl.1 (Nat.le_of_ble_eq_true rfl) hC hP hS (fun v2 M2 H locs hq hP hS => ?_)
  obtain ⟨rfl, hI2⟩ := hq
  refine lv_icmp_eq (tgt := 995) hx hb dl_463 (by decide) (fun _ => ?_) (fun g => absurd rfl g)
  exact kk M2 H locs hI2 hP hS
set_option maxHeartbeats 1000000 in
theorem law_12 (X : LX ad cT dC dI adV p s m meth c b L xs) (hI : INV M) (hP : va_P (dC, dI) vwCl (WL ad cT M) H) (hS : va_S (AD ad) s.heap H locs) (hl : lv_has ls 4 [(0, .ref b), (1, .ref (ad 0)), (2, .ref (ad 80)), (3, .int x3)]) (h1 : vp_in (x3 + 1) L) (h2 : vp_in (x3 + 2) L) (kk : ∀ (M2 : Mem) (H1 : Heap) (locs1 : List Loc), INV M2 → va_P (dC, dI) vwCl (WL ad cT M2) H1 → va_S (AD ad) s.heap H1 locs1 → W p l e room_1 s m #[Value.ref b] below meth c H1 locs1 98 1715 Q (F0 m 995 ls [])) : W p l e room_1 s m #[Value.ref b] below meth c H locs 98 1715 Q (F0 m 468 ls []) := by
  obtain ⟨⟨hx, hb, hr, hml, hown, hts, hX, hbl, hlocks, hgv⟩, hWO, hnew, hL⟩ := id X
  have hbA : ¬ AD ad b := fun q => absurd (hnew b q) (Nat.not_le.mpr hbl)
  obtain ⟨a1, e1, r1⟩ := i32_ex (xs (x3 + 1).toNatClampNeg)
  obtain ⟨a2, e2, r2⟩ := i32_ex (xs (x3 + 2).toNatClampNeg)
  refine lv_aload_n hx hb dl_468 rfl (lv_at hl 1 rfl) ?_
  refine lv_aload_n hx hb dl_469 rfl (lv_at hl 0 rfl) ?_
  refine lv_iload_n hx hb dl_470 rfl (lv_at hl 3 rfl) ?_
  refine lv_iconst (v := 1) hx hb dl_471 (by decide) ?_
  refine lv_iadd hx hb dl_472 ?_
  refine sl_ld e1 hx hb hX hbl hbA hS h1 dl_473 ?_
  refine lv_aload_n hx hb dl_474 rfl (lv_at hl 0 rfl) ?_
  refine lv_iload_n hx hb dl_475 rfl (lv_at hl 3 rfl) ?_
  refine lv_iconst (v := 2) hx hb dl_476 (by decide) ?_
  refine lv_iadd hx hb dl_477 ?_
  refine sl_ld e2 hx hb hX hbl hbA hS h2 dl_478 ?_
  refine lw_call (as := [.inl a1, .inl a2]) (rest := []) X (z := 70) rfl mo_70 rfl lk_64 rfl dl_479 hl.1 (Nat.le_of_ble_eq_true rfl) (ag_move hI r1 r2) hP hS (fun v M1 H locs hC hP hS => ?_)
  refine lv_aload_n hx hb dl_482 rfl (lv_at hl 2 rfl) ?_
  refine lv_aload_n hx hb dl_483 rfl (lv_at hl 0 rfl) ?_
  refine lv_iload_n hx hb dl_484 rfl (lv_at hl 3 rfl) ?_
  refine lv_iconst (v := 1) hx hb dl_485 (by decide) ?_
  refine lv_iadd hx hb dl_486 ?_
  refine sl_ld e1 hx hb hX hbl hbA hS h1 dl_487 ?_
  refine lv_aload_n hx hb dl_488 rfl (lv_at hl 0 rfl) ?_
  refine lv_iload_n hx hb dl_489 rfl (lv_at hl 3 rfl) ?_
  refine lv_iconst (v := 2) hx hb dl_490 (by decide) ?_
  refine lv_iadd hx hb dl_491 ?_
  refine sl_ld e2 hx hb hX hbl hbA hS h2 dl_492 ?_
  refine lw_call (as := [.inl a1, .inl a2]) (rest := [.int (Int32.ofInt v)]) X (z := 166) rfl mo_166 rfl lk_67 rfl dl_493 hl.1 (Nat.le_of_ble_eq_true rfl) hC hP hS (fun v2 M2 H locs hq hP hS => ?_)
  obtain ⟨rfl, hI2⟩ := hq
  refine lv_icmp_eq (tgt := 995) hx hb dl_496 (by decide) (fun _ => ?_) (fun g => absurd rfl g)
  exact kk M2 H locs hI2 hP hS
set_option maxHeartbeats 1000000 in
theorem law_13 (X : LX ad cT dC dI adV p s m meth c b L xs) (hI : INV M) (hP : va_P (dC, dI) vwCl (WL ad cT M) H) (hS : va_S (AD ad) s.heap H locs) (hl : lv_has ls 4 [(0, .ref b), (1, .ref (ad 0)), (2, .ref (ad 80)), (3, .int x3)]) (h1 : vp_in (x3 + 1) L) (h2 : vp_in (x3 + 2) L) (kk : ∀ (M2 : Mem) (H1 : Heap) (locs1 : List Loc), INV M2 → va_P (dC, dI) vwCl (WL ad cT M2) H1 → va_S (AD ad) s.heap H1 locs1 → W p l e room_1 s m #[Value.ref b] below meth c H1 locs1 98 1715 Q (F0 m 995 ls [])) : W p l e room_1 s m #[Value.ref b] below meth c H locs 98 1715 Q (F0 m 501 ls []) := by
  obtain ⟨⟨hx, hb, hr, hml, hown, hts, hX, hbl, hlocks, hgv⟩, hWO, hnew, hL⟩ := id X
  have hbA : ¬ AD ad b := fun q => absurd (hnew b q) (Nat.not_le.mpr hbl)
  obtain ⟨a1, e1, r1⟩ := i32_ex (xs (x3 + 1).toNatClampNeg)
  obtain ⟨a2, e2, r2⟩ := i32_ex (xs (x3 + 2).toNatClampNeg)
  refine lv_aload_n hx hb dl_501 rfl (lv_at hl 1 rfl) ?_
  refine lv_aload_n hx hb dl_502 rfl (lv_at hl 0 rfl) ?_
  refine lv_iload_n hx hb dl_503 rfl (lv_at hl 3 rfl) ?_
  refine lv_iconst (v := 1) hx hb dl_504 (by decide) ?_
  refine lv_iadd hx hb dl_505 ?_
  refine sl_ld e1 hx hb hX hbl hbA hS h1 dl_506 ?_
  refine lv_aload_n hx hb dl_507 rfl (lv_at hl 0 rfl) ?_
  refine lv_iload_n hx hb dl_508 rfl (lv_at hl 3 rfl) ?_
  refine lv_iconst (v := 2) hx hb dl_509 (by decide) ?_
  refine lv_iadd hx hb dl_510 ?_
  refine sl_ld e2 hx hb hX hbl hbA hS h2 dl_511 ?_
  refine lw_call (as := [.inl a1, .inl a2]) (rest := []) X (z := 71) rfl mo_71 rfl lk_68 rfl dl_512 hl.1 (Nat.le_of_ble_eq_true rfl) (ag_swap hI r1 r2) hP hS (fun v M1 H locs hC hP hS => ?_)
  refine lv_aload_n hx hb dl_515 rfl (lv_at hl 2 rfl) ?_
  refine lv_aload_n hx hb dl_516 rfl (lv_at hl 0 rfl) ?_
  refine lv_iload_n hx hb dl_517 rfl (lv_at hl 3 rfl) ?_
  refine lv_iconst (v := 1) hx hb dl_518 (by decide) ?_
  refine lv_iadd hx hb dl_519 ?_
  refine sl_ld e1 hx hb hX hbl hbA hS h1 dl_520 ?_
  refine lv_aload_n hx hb dl_521 rfl (lv_at hl 0 rfl) ?_
  refine lv_iload_n hx hb dl_522 rfl (lv_at hl 3 rfl) ?_
  refine lv_iconst (v := 2) hx hb dl_523 (by decide) ?_
  refine lv_iadd hx hb dl_524 ?_
  refine sl_ld e2 hx hb hX hbl hbA hS h2 dl_525 ?_
  refine lw_call (as := [.inl a1, .inl a2]) (rest := [.int (Int32.ofInt v)]) X (z := 168) rfl mo_168 rfl lk_71 rfl dl_526 hl.1 (Nat.le_of_ble_eq_true rfl) hC hP hS (fun v2 M2 H locs hq hP hS => ?_)
  obtain ⟨rfl, hI2⟩ := hq
  refine lv_icmp_eq (tgt := 995) hx hb dl_529 (by decide) (fun _ => ?_) (fun g => absurd rfl g)
  exact kk M2 H locs hI2 hP hS
set_option maxHeartbeats 1000000 in
theorem law_14 (X : LX ad cT dC dI adV p s m meth c b L xs) (hI : INV M) (hP : va_P (dC, dI) vwCl (WL ad cT M) H) (hS : va_S (AD ad) s.heap H locs) (hl : lv_has ls 4 [(0, .ref b), (1, .ref (ad 0)), (2, .ref (ad 80)), (3, .int x3)])  (kk : ∀ (M2 : Mem) (H1 : Heap) (locs1 : List Loc), INV M2 → va_P (dC, dI) vwCl (WL ad cT M2) H1 → va_S (AD ad) s.heap H1 locs1 → W p l e room_1 s m #[Value.ref b] below meth c H1 locs1 98 1715 Q (F0 m 995 ls [])) : W p l e room_1 s m #[Value.ref b] below meth c H locs 98 1715 Q (F0 m 534 ls []) := by
  obtain ⟨⟨hx, hb, hr, hml, hown, hts, hX, hbl, hlocks, hgv⟩, hWO, hnew, hL⟩ := id X
  have hbA : ¬ AD ad b := fun q => absurd (hnew b q) (Nat.not_le.mpr hbl)
  refine lv_aload_n hx hb dl_534 rfl (lv_at hl 1 rfl) ?_
  refine lw_call (as := []) (rest := []) X (z := 72) rfl mo_72 rfl lk_72 rfl dl_535 hl.1 (Nat.le_of_ble_eq_true rfl) (ag_better hI ) hP hS (fun v M1 H locs hC hP hS => ?_)
  refine lv_aload_n hx hb dl_538 rfl (lv_at hl 2 rfl) ?_
  refine lw_call (as := []) (rest := [.int (Int32.ofInt v)]) X (z := 169) rfl mo_169 rfl lk_75 rfl dl_539 hl.1 (Nat.le_of_ble_eq_true rfl) hC hP hS (fun v2 M2 H locs hq hP hS => ?_)
  obtain ⟨rfl, hI2⟩ := hq
  refine lv_icmp_eq (tgt := 995) hx hb dl_542 (by decide) (fun _ => ?_) (fun g => absurd rfl g)
  exact kk M2 H locs hI2 hP hS
set_option maxHeartbeats 1000000 in
theorem law_15 (X : LX ad cT dC dI adV p s m meth c b L xs) (hI : INV M) (hP : va_P (dC, dI) vwCl (WL ad cT M) H) (hS : va_S (AD ad) s.heap H locs) (hl : lv_has ls 4 [(0, .ref b), (1, .ref (ad 0)), (2, .ref (ad 80)), (3, .int x3)]) (h1 : vp_in (x3 + 1) L) (kk : ∀ (M2 : Mem) (H1 : Heap) (locs1 : List Loc), INV M2 → va_P (dC, dI) vwCl (WL ad cT M2) H1 → va_S (AD ad) s.heap H1 locs1 → W p l e room_1 s m #[Value.ref b] below meth c H1 locs1 98 1715 Q (F0 m 995 ls [])) : W p l e room_1 s m #[Value.ref b] below meth c H locs 98 1715 Q (F0 m 547 ls []) := by
  obtain ⟨⟨hx, hb, hr, hml, hown, hts, hX, hbl, hlocks, hgv⟩, hWO, hnew, hL⟩ := id X
  have hbA : ¬ AD ad b := fun q => absurd (hnew b q) (Nat.not_le.mpr hbl)
  obtain ⟨a1, e1, r1⟩ := i32_ex (xs (x3 + 1).toNatClampNeg)
  refine lv_aload_n hx hb dl_547 rfl (lv_at hl 1 rfl) ?_
  refine lv_aload_n hx hb dl_548 rfl (lv_at hl 0 rfl) ?_
  refine lv_iload_n hx hb dl_549 rfl (lv_at hl 3 rfl) ?_
  refine lv_iconst (v := 1) hx hb dl_550 (by decide) ?_
  refine lv_iadd hx hb dl_551 ?_
  refine sl_ld e1 hx hb hX hbl hbA hS h1 dl_552 ?_
  refine lw_call (as := [.inl a1]) (rest := []) X (z := 73) rfl mo_73 rfl lk_76 rfl dl_553 hl.1 (Nat.le_of_ble_eq_true rfl) (ag_add hI r1) hP hS (fun v M1 H locs hC hP hS => ?_)
  refine lv_aload_n hx hb dl_556 rfl (lv_at hl 2 rfl) ?_
  refine lv_aload_n hx hb dl_557 rfl (lv_at hl 0 rfl) ?_
  refine lv_iload_n hx hb dl_558 rfl (lv_at hl 3 rfl) ?_
  refine lv_iconst (v := 1) hx hb dl_559 (by decide) ?_
  refine lv_iadd hx hb dl_560 ?_
  refine sl_ld e1 hx hb hX hbl hbA hS h1 dl_561 ?_
  refine lw_call (as := [.inl a1]) (rest := [.int (Int32.ofInt v)]) X (z := 171) rfl mo_171 rfl lk_79 rfl dl_562 hl.1 (Nat.le_of_ble_eq_true rfl) hC hP hS (fun v2 M2 H locs hq hP hS => ?_)
  obtain ⟨rfl, hI2⟩ := hq
  refine lv_icmp_eq (tgt := 995) hx hb dl_565 (by decide) (fun _ => ?_) (fun g => absurd rfl g)
  exact kk M2 H locs hI2 hP hS
set_option maxHeartbeats 1000000 in
theorem law_16 (X : LX ad cT dC dI adV p s m meth c b L xs) (hI : INV M) (hP : va_P (dC, dI) vwCl (WL ad cT M) H) (hS : va_S (AD ad) s.heap H locs) (hl : lv_has ls 4 [(0, .ref b), (1, .ref (ad 0)), (2, .ref (ad 80)), (3, .int x3)]) (h1 : vp_in (x3 + 1) L) (kk : ∀ (M2 : Mem) (H1 : Heap) (locs1 : List Loc), INV M2 → va_P (dC, dI) vwCl (WL ad cT M2) H1 → va_S (AD ad) s.heap H1 locs1 → W p l e room_1 s m #[Value.ref b] below meth c H1 locs1 98 1715 Q (F0 m 995 ls [])) : W p l e room_1 s m #[Value.ref b] below meth c H locs 98 1715 Q (F0 m 570 ls []) := by
  obtain ⟨⟨hx, hb, hr, hml, hown, hts, hX, hbl, hlocks, hgv⟩, hWO, hnew, hL⟩ := id X
  have hbA : ¬ AD ad b := fun q => absurd (hnew b q) (Nat.not_le.mpr hbl)
  obtain ⟨a1, e1, r1⟩ := i32_ex (xs (x3 + 1).toNatClampNeg)
  refine lv_aload_n hx hb dl_570 rfl (lv_at hl 1 rfl) ?_
  refine lv_aload_n hx hb dl_571 rfl (lv_at hl 0 rfl) ?_
  refine lv_iload_n hx hb dl_572 rfl (lv_at hl 3 rfl) ?_
  refine lv_iconst (v := 1) hx hb dl_573 (by decide) ?_
  refine lv_iadd hx hb dl_574 ?_
  refine sl_ld e1 hx hb hX hbl hbA hS h1 dl_575 ?_
  refine lw_call (as := [.inl a1]) (rest := []) X (z := 74) rfl mo_74 rfl lk_80 rfl dl_576 hl.1 (Nat.le_of_ble_eq_true rfl) (ag_drop hI r1) hP hS (fun v M1 H locs hC hP hS => ?_)
  refine lv_aload_n hx hb dl_579 rfl (lv_at hl 2 rfl) ?_
  refine lv_aload_n hx hb dl_580 rfl (lv_at hl 0 rfl) ?_
  refine lv_iload_n hx hb dl_581 rfl (lv_at hl 3 rfl) ?_
  refine lv_iconst (v := 1) hx hb dl_582 (by decide) ?_
  refine lv_iadd hx hb dl_583 ?_
  refine sl_ld e1 hx hb hX hbl hbA hS h1 dl_584 ?_
  refine lw_call (as := [.inl a1]) (rest := [.int (Int32.ofInt v)]) X (z := 172) rfl mo_172 rfl lk_83 rfl dl_585 hl.1 (Nat.le_of_ble_eq_true rfl) hC hP hS (fun v2 M2 H locs hq hP hS => ?_)
  obtain ⟨rfl, hI2⟩ := hq
  refine lv_icmp_eq (tgt := 995) hx hb dl_588 (by decide) (fun _ => ?_) (fun g => absurd rfl g)
  exact kk M2 H locs hI2 hP hS
set_option maxHeartbeats 1000000 in
theorem law_17 (X : LX ad cT dC dI adV p s m meth c b L xs) (hI : INV M) (hP : va_P (dC, dI) vwCl (WL ad cT M) H) (hS : va_S (AD ad) s.heap H locs) (hl : lv_has ls 4 [(0, .ref b), (1, .ref (ad 0)), (2, .ref (ad 80)), (3, .int x3)]) (h1 : vp_in (x3 + 1) L) (h2 : vp_in (x3 + 2) L) (kk : ∀ (M2 : Mem) (H1 : Heap) (locs1 : List Loc), INV M2 → va_P (dC, dI) vwCl (WL ad cT M2) H1 → va_S (AD ad) s.heap H1 locs1 → W p l e room_1 s m #[Value.ref b] below meth c H1 locs1 98 1715 Q (F0 m 995 ls [])) : W p l e room_1 s m #[Value.ref b] below meth c H locs 98 1715 Q (F0 m 593 ls []) := by
  obtain ⟨⟨hx, hb, hr, hml, hown, hts, hX, hbl, hlocks, hgv⟩, hWO, hnew, hL⟩ := id X
  have hbA : ¬ AD ad b := fun q => absurd (hnew b q) (Nat.not_le.mpr hbl)
  obtain ⟨a1, e1, r1⟩ := i32_ex (xs (x3 + 1).toNatClampNeg)
  obtain ⟨a2, e2, r2⟩ := i32_ex (xs (x3 + 2).toNatClampNeg)
  refine lv_aload_n hx hb dl_593 rfl (lv_at hl 1 rfl) ?_
  refine lv_aload_n hx hb dl_594 rfl (lv_at hl 0 rfl) ?_
  refine lv_iload_n hx hb dl_595 rfl (lv_at hl 3 rfl) ?_
  refine lv_iconst (v := 1) hx hb dl_596 (by decide) ?_
  refine lv_iadd hx hb dl_597 ?_
  refine sl_ld e1 hx hb hX hbl hbA hS h1 dl_598 ?_
  refine lv_aload_n hx hb dl_599 rfl (lv_at hl 0 rfl) ?_
  refine lv_iload_n hx hb dl_600 rfl (lv_at hl 3 rfl) ?_
  refine lv_iconst (v := 2) hx hb dl_601 (by decide) ?_
  refine lv_iadd hx hb dl_602 ?_
  refine sl_ld e2 hx hb hX hbl hbA hS h2 dl_603 ?_
  refine lw_call (as := [.inl a1, .inl a2]) (rest := []) X (z := 75) rfl mo_75 rfl lk_84 rfl dl_604 hl.1 (Nat.le_of_ble_eq_true rfl) (ag_set hI r1 r2) hP hS (fun v M1 H locs hC hP hS => ?_)
  refine lv_aload_n hx hb dl_607 rfl (lv_at hl 2 rfl) ?_
  refine lv_aload_n hx hb dl_608 rfl (lv_at hl 0 rfl) ?_
  refine lv_iload_n hx hb dl_609 rfl (lv_at hl 3 rfl) ?_
  refine lv_iconst (v := 1) hx hb dl_610 (by decide) ?_
  refine lv_iadd hx hb dl_611 ?_
  refine sl_ld e1 hx hb hX hbl hbA hS h1 dl_612 ?_
  refine lv_aload_n hx hb dl_613 rfl (lv_at hl 0 rfl) ?_
  refine lv_iload_n hx hb dl_614 rfl (lv_at hl 3 rfl) ?_
  refine lv_iconst (v := 2) hx hb dl_615 (by decide) ?_
  refine lv_iadd hx hb dl_616 ?_
  refine sl_ld e2 hx hb hX hbl hbA hS h2 dl_617 ?_
  refine lw_call (as := [.inl a1, .inl a2]) (rest := [.int (Int32.ofInt v)]) X (z := 173) rfl mo_173 rfl lk_87 rfl dl_618 hl.1 (Nat.le_of_ble_eq_true rfl) hC hP hS (fun v2 M2 H locs hq hP hS => ?_)
  obtain ⟨rfl, hI2⟩ := hq
  refine lv_icmp_eq (tgt := 995) hx hb dl_621 (by decide) (fun _ => ?_) (fun g => absurd rfl g)
  exact kk M2 H locs hI2 hP hS
set_option maxHeartbeats 1000000 in
theorem law_18 (X : LX ad cT dC dI adV p s m meth c b L xs) (hI : INV M) (hP : va_P (dC, dI) vwCl (WL ad cT M) H) (hS : va_S (AD ad) s.heap H locs) (hl : lv_has ls 4 [(0, .ref b), (1, .ref (ad 0)), (2, .ref (ad 80)), (3, .int x3)]) (h1 : vp_in (x3 + 1) L) (h2 : vp_in (x3 + 2) L) (kk : ∀ (M2 : Mem) (H1 : Heap) (locs1 : List Loc), INV M2 → va_P (dC, dI) vwCl (WL ad cT M2) H1 → va_S (AD ad) s.heap H1 locs1 → W p l e room_1 s m #[Value.ref b] below meth c H1 locs1 98 1715 Q (F0 m 995 ls [])) : W p l e room_1 s m #[Value.ref b] below meth c H locs 98 1715 Q (F0 m 626 ls []) := by
  obtain ⟨⟨hx, hb, hr, hml, hown, hts, hX, hbl, hlocks, hgv⟩, hWO, hnew, hL⟩ := id X
  have hbA : ¬ AD ad b := fun q => absurd (hnew b q) (Nat.not_le.mpr hbl)
  obtain ⟨a1, e1, r1⟩ := i32_ex (xs (x3 + 1).toNatClampNeg)
  obtain ⟨a2, e2, r2⟩ := i32_ex (xs (x3 + 2).toNatClampNeg)
  refine lv_aload_n hx hb dl_626 rfl (lv_at hl 1 rfl) ?_
  refine lv_aload_n hx hb dl_627 rfl (lv_at hl 0 rfl) ?_
  refine lv_iload_n hx hb dl_628 rfl (lv_at hl 3 rfl) ?_
  refine lv_iconst (v := 1) hx hb dl_629 (by decide) ?_
  refine lv_iadd hx hb dl_630 ?_
  refine sl_ld e1 hx hb hX hbl hbA hS h1 dl_631 ?_
  refine lv_aload_n hx hb dl_632 rfl (lv_at hl 0 rfl) ?_
  refine lv_iload_n hx hb dl_633 rfl (lv_at hl 3 rfl) ?_
  refine lv_iconst (v := 2) hx hb dl_634 (by decide) ?_
  refine lv_iadd hx hb dl_635 ?_
  refine sl_ld e2 hx hb hX hbl hbA hS h2 dl_636 ?_
  refine lw_call (as := [.inl a1, .inl a2]) (rest := []) X (z := 76) rfl mo_76 rfl lk_88 rfl dl_637 hl.1 (Nat.le_of_ble_eq_true rfl) (ag_rate hI r1 r2) hP hS (fun v M1 H locs hC hP hS => ?_)
  refine lv_aload_n hx hb dl_640 rfl (lv_at hl 2 rfl) ?_
  refine lv_aload_n hx hb dl_641 rfl (lv_at hl 0 rfl) ?_
  refine lv_iload_n hx hb dl_642 rfl (lv_at hl 3 rfl) ?_
  refine lv_iconst (v := 1) hx hb dl_643 (by decide) ?_
  refine lv_iadd hx hb dl_644 ?_
  refine sl_ld e1 hx hb hX hbl hbA hS h1 dl_645 ?_
  refine lv_aload_n hx hb dl_646 rfl (lv_at hl 0 rfl) ?_
  refine lv_iload_n hx hb dl_647 rfl (lv_at hl 3 rfl) ?_
  refine lv_iconst (v := 2) hx hb dl_648 (by decide) ?_
  refine lv_iadd hx hb dl_649 ?_
  refine sl_ld e2 hx hb hX hbl hbA hS h2 dl_650 ?_
  refine lw_call (as := [.inl a1, .inl a2]) (rest := [.int (Int32.ofInt v)]) X (z := 174) rfl mo_174 rfl lk_91 rfl dl_651 hl.1 (Nat.le_of_ble_eq_true rfl) hC hP hS (fun v2 M2 H locs hq hP hS => ?_)
  obtain ⟨rfl, hI2⟩ := hq
  refine lv_icmp_eq (tgt := 995) hx hb dl_654 (by decide) (fun _ => ?_) (fun g => absurd rfl g)
  exact kk M2 H locs hI2 hP hS
set_option maxHeartbeats 1000000 in
theorem law_19 (X : LX ad cT dC dI adV p s m meth c b L xs) (hI : INV M) (hP : va_P (dC, dI) vwCl (WL ad cT M) H) (hS : va_S (AD ad) s.heap H locs) (hl : lv_has ls 4 [(0, .ref b), (1, .ref (ad 0)), (2, .ref (ad 80)), (3, .int x3)]) (h1 : vp_in (x3 + 1) L) (kk : ∀ (M2 : Mem) (H1 : Heap) (locs1 : List Loc), INV M2 → va_P (dC, dI) vwCl (WL ad cT M2) H1 → va_S (AD ad) s.heap H1 locs1 → W p l e room_1 s m #[Value.ref b] below meth c H1 locs1 98 1715 Q (F0 m 995 ls [])) : W p l e room_1 s m #[Value.ref b] below meth c H locs 98 1715 Q (F0 m 659 ls []) := by
  obtain ⟨⟨hx, hb, hr, hml, hown, hts, hX, hbl, hlocks, hgv⟩, hWO, hnew, hL⟩ := id X
  have hbA : ¬ AD ad b := fun q => absurd (hnew b q) (Nat.not_le.mpr hbl)
  obtain ⟨a1, e1, r1⟩ := i32_ex (xs (x3 + 1).toNatClampNeg)
  refine lv_aload_n hx hb dl_659 rfl (lv_at hl 1 rfl) ?_
  refine lv_aload_n hx hb dl_660 rfl (lv_at hl 0 rfl) ?_
  refine lv_iload_n hx hb dl_661 rfl (lv_at hl 3 rfl) ?_
  refine lv_iconst (v := 1) hx hb dl_662 (by decide) ?_
  refine lv_iadd hx hb dl_663 ?_
  refine sl_ld e1 hx hb hX hbl hbA hS h1 dl_664 ?_
  refine lw_call (as := [.inl a1]) (rest := []) X (z := 77) rfl mo_77 rfl lk_92 rfl dl_665 hl.1 (Nat.le_of_ble_eq_true rfl) (ag_groups hI r1) hP hS (fun v M1 H locs hC hP hS => ?_)
  refine lv_aload_n hx hb dl_668 rfl (lv_at hl 2 rfl) ?_
  refine lv_aload_n hx hb dl_669 rfl (lv_at hl 0 rfl) ?_
  refine lv_iload_n hx hb dl_670 rfl (lv_at hl 3 rfl) ?_
  refine lv_iconst (v := 1) hx hb dl_671 (by decide) ?_
  refine lv_iadd hx hb dl_672 ?_
  refine sl_ld e1 hx hb hX hbl hbA hS h1 dl_673 ?_
  refine lw_call (as := [.inl a1]) (rest := [.int (Int32.ofInt v)]) X (z := 175) rfl mo_175 rfl lk_95 rfl dl_674 hl.1 (Nat.le_of_ble_eq_true rfl) hC hP hS (fun v2 M2 H locs hq hP hS => ?_)
  obtain ⟨rfl, hI2⟩ := hq
  refine lv_icmp_eq (tgt := 995) hx hb dl_677 (by decide) (fun _ => ?_) (fun g => absurd rfl g)
  exact kk M2 H locs hI2 hP hS
set_option maxHeartbeats 1000000 in
theorem law_20 (X : LX ad cT dC dI adV p s m meth c b L xs) (hI : INV M) (hP : va_P (dC, dI) vwCl (WL ad cT M) H) (hS : va_S (AD ad) s.heap H locs) (hl : lv_has ls 4 [(0, .ref b), (1, .ref (ad 0)), (2, .ref (ad 80)), (3, .int x3)]) (h1 : vp_in (x3 + 1) L) (kk : ∀ (M2 : Mem) (H1 : Heap) (locs1 : List Loc), INV M2 → va_P (dC, dI) vwCl (WL ad cT M2) H1 → va_S (AD ad) s.heap H1 locs1 → W p l e room_1 s m #[Value.ref b] below meth c H1 locs1 98 1715 Q (F0 m 995 ls [])) : W p l e room_1 s m #[Value.ref b] below meth c H locs 98 1715 Q (F0 m 682 ls []) := by
  obtain ⟨⟨hx, hb, hr, hml, hown, hts, hX, hbl, hlocks, hgv⟩, hWO, hnew, hL⟩ := id X
  have hbA : ¬ AD ad b := fun q => absurd (hnew b q) (Nat.not_le.mpr hbl)
  obtain ⟨a1, e1, r1⟩ := i32_ex (xs (x3 + 1).toNatClampNeg)
  refine lv_aload_n hx hb dl_682 rfl (lv_at hl 1 rfl) ?_
  refine lv_aload_n hx hb dl_683 rfl (lv_at hl 0 rfl) ?_
  refine lv_iload_n hx hb dl_684 rfl (lv_at hl 3 rfl) ?_
  refine lv_iconst (v := 1) hx hb dl_685 (by decide) ?_
  refine lv_iadd hx hb dl_686 ?_
  refine sl_ld e1 hx hb hX hbl hbA hS h1 dl_687 ?_
  refine lw_call (as := [.inl a1]) (rest := []) X (z := 78) rfl mo_78 rfl lk_96 rfl dl_688 hl.1 (Nat.le_of_ble_eq_true rfl) (ag_bleed hI r1) hP hS (fun v M1 H locs hC hP hS => ?_)
  refine lv_aload_n hx hb dl_691 rfl (lv_at hl 2 rfl) ?_
  refine lv_aload_n hx hb dl_692 rfl (lv_at hl 0 rfl) ?_
  refine lv_iload_n hx hb dl_693 rfl (lv_at hl 3 rfl) ?_
  refine lv_iconst (v := 1) hx hb dl_694 (by decide) ?_
  refine lv_iadd hx hb dl_695 ?_
  refine sl_ld e1 hx hb hX hbl hbA hS h1 dl_696 ?_
  refine lw_call (as := [.inl a1]) (rest := [.int (Int32.ofInt v)]) X (z := 178) rfl mo_178 rfl lk_99 rfl dl_697 hl.1 (Nat.le_of_ble_eq_true rfl) hC hP hS (fun v2 M2 H locs hq hP hS => ?_)
  obtain ⟨rfl, hI2⟩ := hq
  refine lv_icmp_eq (tgt := 995) hx hb dl_700 (by decide) (fun _ => ?_) (fun g => absurd rfl g)
  exact kk M2 H locs hI2 hP hS
set_option maxHeartbeats 1000000 in
theorem law_21 (X : LX ad cT dC dI adV p s m meth c b L xs) (hI : INV M) (hP : va_P (dC, dI) vwCl (WL ad cT M) H) (hS : va_S (AD ad) s.heap H locs) (hl : lv_has ls 4 [(0, .ref b), (1, .ref (ad 0)), (2, .ref (ad 80)), (3, .int x3)]) (h1 : vp_in (x3 + 1) L) (kk : ∀ (M2 : Mem) (H1 : Heap) (locs1 : List Loc), INV M2 → va_P (dC, dI) vwCl (WL ad cT M2) H1 → va_S (AD ad) s.heap H1 locs1 → W p l e room_1 s m #[Value.ref b] below meth c H1 locs1 98 1715 Q (F0 m 995 ls [])) : W p l e room_1 s m #[Value.ref b] below meth c H locs 98 1715 Q (F0 m 705 ls []) := by
  obtain ⟨⟨hx, hb, hr, hml, hown, hts, hX, hbl, hlocks, hgv⟩, hWO, hnew, hL⟩ := id X
  have hbA : ¬ AD ad b := fun q => absurd (hnew b q) (Nat.not_le.mpr hbl)
  obtain ⟨a1, e1, r1⟩ := i32_ex (xs (x3 + 1).toNatClampNeg)
  refine lv_aload_n hx hb dl_705 rfl (lv_at hl 1 rfl) ?_
  refine lv_aload_n hx hb dl_706 rfl (lv_at hl 0 rfl) ?_
  refine lv_iload_n hx hb dl_707 rfl (lv_at hl 3 rfl) ?_
  refine lv_iconst (v := 1) hx hb dl_708 (by decide) ?_
  refine lv_iadd hx hb dl_709 ?_
  refine sl_ld e1 hx hb hX hbl hbA hS h1 dl_710 ?_
  refine lw_call (as := [.inl a1]) (rest := []) X (z := 79) rfl mo_79 rfl lk_100 rfl dl_711 hl.1 (Nat.le_of_ble_eq_true rfl) (ag_plan hI r1) hP hS (fun v M1 H locs hC hP hS => ?_)
  refine lv_aload_n hx hb dl_714 rfl (lv_at hl 2 rfl) ?_
  refine lv_aload_n hx hb dl_715 rfl (lv_at hl 0 rfl) ?_
  refine lv_iload_n hx hb dl_716 rfl (lv_at hl 3 rfl) ?_
  refine lv_iconst (v := 1) hx hb dl_717 (by decide) ?_
  refine lv_iadd hx hb dl_718 ?_
  refine sl_ld e1 hx hb hX hbl hbA hS h1 dl_719 ?_
  refine lw_call (as := [.inl a1]) (rest := [.int (Int32.ofInt v)]) X (z := 179) rfl mo_179 rfl lk_103 rfl dl_720 hl.1 (Nat.le_of_ble_eq_true rfl) hC hP hS (fun v2 M2 H locs hq hP hS => ?_)
  obtain ⟨rfl, hI2⟩ := hq
  refine lv_icmp_eq (tgt := 995) hx hb dl_723 (by decide) (fun _ => ?_) (fun g => absurd rfl g)
  exact kk M2 H locs hI2 hP hS
set_option maxHeartbeats 1000000 in
theorem law_22 (X : LX ad cT dC dI adV p s m meth c b L xs) (hI : INV M) (hP : va_P (dC, dI) vwCl (WL ad cT M) H) (hS : va_S (AD ad) s.heap H locs) (hl : lv_has ls 4 [(0, .ref b), (1, .ref (ad 0)), (2, .ref (ad 80)), (3, .int x3)])  (kk : ∀ (M2 : Mem) (H1 : Heap) (locs1 : List Loc), INV M2 → va_P (dC, dI) vwCl (WL ad cT M2) H1 → va_S (AD ad) s.heap H1 locs1 → W p l e room_1 s m #[Value.ref b] below meth c H1 locs1 98 1715 Q (F0 m 995 ls [])) : W p l e room_1 s m #[Value.ref b] below meth c H locs 98 1715 Q (F0 m 728 ls []) := by
  obtain ⟨⟨hx, hb, hr, hml, hown, hts, hX, hbl, hlocks, hgv⟩, hWO, hnew, hL⟩ := id X
  have hbA : ¬ AD ad b := fun q => absurd (hnew b q) (Nat.not_le.mpr hbl)
  refine lv_aload_n hx hb dl_728 rfl (lv_at hl 1 rfl) ?_
  refine lw_call (as := []) (rest := []) X (z := 80) rfl mo_80 rfl lk_104 rfl dl_729 hl.1 (Nat.le_of_ble_eq_true rfl) (ag_fill hI ) hP hS (fun v M1 H locs hC hP hS => ?_)
  refine lv_aload_n hx hb dl_732 rfl (lv_at hl 2 rfl) ?_
  refine lw_call (as := []) (rest := [.int (Int32.ofInt v)]) X (z := 180) rfl mo_180 rfl lk_107 rfl dl_733 hl.1 (Nat.le_of_ble_eq_true rfl) hC hP hS (fun v2 M2 H locs hq hP hS => ?_)
  obtain ⟨rfl, hI2⟩ := hq
  refine lv_icmp_eq (tgt := 995) hx hb dl_736 (by decide) (fun _ => ?_) (fun g => absurd rfl g)
  exact kk M2 H locs hI2 hP hS
set_option maxHeartbeats 1000000 in
theorem law_23 (X : LX ad cT dC dI adV p s m meth c b L xs) (hI : INV M) (hP : va_P (dC, dI) vwCl (WL ad cT M) H) (hS : va_S (AD ad) s.heap H locs) (hl : lv_has ls 4 [(0, .ref b), (1, .ref (ad 0)), (2, .ref (ad 80)), (3, .int x3)]) (h1 : vp_in (x3 + 1) L) (h2 : vp_in (x3 + 2) L) (kk : ∀ (M2 : Mem) (H1 : Heap) (locs1 : List Loc), INV M2 → va_P (dC, dI) vwCl (WL ad cT M2) H1 → va_S (AD ad) s.heap H1 locs1 → W p l e room_1 s m #[Value.ref b] below meth c H1 locs1 98 1715 Q (F0 m 995 ls [])) : W p l e room_1 s m #[Value.ref b] below meth c H locs 98 1715 Q (F0 m 741 ls []) := by
  obtain ⟨⟨hx, hb, hr, hml, hown, hts, hX, hbl, hlocks, hgv⟩, hWO, hnew, hL⟩ := id X
  have hbA : ¬ AD ad b := fun q => absurd (hnew b q) (Nat.not_le.mpr hbl)
  obtain ⟨a1, e1, r1⟩ := i32_ex (xs (x3 + 1).toNatClampNeg)
  obtain ⟨a2, e2, r2⟩ := i32_ex (xs (x3 + 2).toNatClampNeg)
  refine lv_aload_n hx hb dl_741 rfl (lv_at hl 1 rfl) ?_
  refine lv_aload_n hx hb dl_742 rfl (lv_at hl 0 rfl) ?_
  refine lv_iload_n hx hb dl_743 rfl (lv_at hl 3 rfl) ?_
  refine lv_iconst (v := 1) hx hb dl_744 (by decide) ?_
  refine lv_iadd hx hb dl_745 ?_
  refine sl_ld e1 hx hb hX hbl hbA hS h1 dl_746 ?_
  refine lv_aload_n hx hb dl_747 rfl (lv_at hl 0 rfl) ?_
  refine lv_iload_n hx hb dl_748 rfl (lv_at hl 3 rfl) ?_
  refine lv_iconst (v := 2) hx hb dl_749 (by decide) ?_
  refine lv_iadd hx hb dl_750 ?_
  refine sl_ld e2 hx hb hX hbl hbA hS h2 dl_751 ?_
  refine lw_call (as := [.inl a1, .inl a2]) (rest := []) X (z := 81) rfl mo_81 rfl lk_108 rfl dl_752 hl.1 (Nat.le_of_ble_eq_true rfl) (ag_draw hI r2) hP hS (fun v M1 H locs hC hP hS => ?_)
  refine lv_aload_n hx hb dl_755 rfl (lv_at hl 2 rfl) ?_
  refine lv_aload_n hx hb dl_756 rfl (lv_at hl 0 rfl) ?_
  refine lv_iload_n hx hb dl_757 rfl (lv_at hl 3 rfl) ?_
  refine lv_iconst (v := 1) hx hb dl_758 (by decide) ?_
  refine lv_iadd hx hb dl_759 ?_
  refine sl_ld e1 hx hb hX hbl hbA hS h1 dl_760 ?_
  refine lv_aload_n hx hb dl_761 rfl (lv_at hl 0 rfl) ?_
  refine lv_iload_n hx hb dl_762 rfl (lv_at hl 3 rfl) ?_
  refine lv_iconst (v := 2) hx hb dl_763 (by decide) ?_
  refine lv_iadd hx hb dl_764 ?_
  refine sl_ld e2 hx hb hX hbl hbA hS h2 dl_765 ?_
  refine lw_call (as := [.inl a1, .inl a2]) (rest := [.int (Int32.ofInt v)]) X (z := 181) rfl mo_181 rfl lk_111 rfl dl_766 hl.1 (Nat.le_of_ble_eq_true rfl) hC hP hS (fun v2 M2 H locs hq hP hS => ?_)
  obtain ⟨rfl, hI2⟩ := hq
  refine lv_icmp_eq (tgt := 995) hx hb dl_769 (by decide) (fun _ => ?_) (fun g => absurd rfl g)
  exact kk M2 H locs hI2 hP hS
set_option maxHeartbeats 1000000 in
theorem law_24 (X : LX ad cT dC dI adV p s m meth c b L xs) (hI : INV M) (hP : va_P (dC, dI) vwCl (WL ad cT M) H) (hS : va_S (AD ad) s.heap H locs) (hl : lv_has ls 4 [(0, .ref b), (1, .ref (ad 0)), (2, .ref (ad 80)), (3, .int x3)]) (h1 : vp_in (x3 + 1) L) (kk : ∀ (M2 : Mem) (H1 : Heap) (locs1 : List Loc), INV M2 → va_P (dC, dI) vwCl (WL ad cT M2) H1 → va_S (AD ad) s.heap H1 locs1 → W p l e room_1 s m #[Value.ref b] below meth c H1 locs1 98 1715 Q (F0 m 995 ls [])) : W p l e room_1 s m #[Value.ref b] below meth c H locs 98 1715 Q (F0 m 774 ls []) := by
  obtain ⟨⟨hx, hb, hr, hml, hown, hts, hX, hbl, hlocks, hgv⟩, hWO, hnew, hL⟩ := id X
  have hbA : ¬ AD ad b := fun q => absurd (hnew b q) (Nat.not_le.mpr hbl)
  obtain ⟨a1, e1, r1⟩ := i32_ex (xs (x3 + 1).toNatClampNeg)
  refine lv_aload_n hx hb dl_774 rfl (lv_at hl 1 rfl) ?_
  refine lv_aload_n hx hb dl_775 rfl (lv_at hl 0 rfl) ?_
  refine lv_iload_n hx hb dl_776 rfl (lv_at hl 3 rfl) ?_
  refine lv_iconst (v := 1) hx hb dl_777 (by decide) ?_
  refine lv_iadd hx hb dl_778 ?_
  refine sl_ld e1 hx hb hX hbl hbA hS h1 dl_779 ?_
  refine lw_call (as := [.inl a1]) (rest := []) X (z := 82) rfl mo_82 rfl lk_112 rfl dl_780 hl.1 (Nat.le_of_ble_eq_true rfl) (ag_keep hI r1) hP hS (fun v M1 H locs hC hP hS => ?_)
  refine lv_aload_n hx hb dl_783 rfl (lv_at hl 2 rfl) ?_
  refine lv_aload_n hx hb dl_784 rfl (lv_at hl 0 rfl) ?_
  refine lv_iload_n hx hb dl_785 rfl (lv_at hl 3 rfl) ?_
  refine lv_iconst (v := 1) hx hb dl_786 (by decide) ?_
  refine lv_iadd hx hb dl_787 ?_
  refine sl_ld e1 hx hb hX hbl hbA hS h1 dl_788 ?_
  refine lw_call (as := [.inl a1]) (rest := [.int (Int32.ofInt v)]) X (z := 184) rfl mo_184 rfl lk_115 rfl dl_789 hl.1 (Nat.le_of_ble_eq_true rfl) hC hP hS (fun v2 M2 H locs hq hP hS => ?_)
  obtain ⟨rfl, hI2⟩ := hq
  refine lv_icmp_eq (tgt := 995) hx hb dl_792 (by decide) (fun _ => ?_) (fun g => absurd rfl g)
  exact kk M2 H locs hI2 hP hS
set_option maxHeartbeats 1000000 in
theorem law_25 (X : LX ad cT dC dI adV p s m meth c b L xs) (hI : INV M) (hP : va_P (dC, dI) vwCl (WL ad cT M) H) (hS : va_S (AD ad) s.heap H locs) (hl : lv_has ls 4 [(0, .ref b), (1, .ref (ad 0)), (2, .ref (ad 80)), (3, .int x3)]) (h1 : vp_in (x3 + 1) L) (kk : ∀ (M2 : Mem) (H1 : Heap) (locs1 : List Loc), INV M2 → va_P (dC, dI) vwCl (WL ad cT M2) H1 → va_S (AD ad) s.heap H1 locs1 → W p l e room_1 s m #[Value.ref b] below meth c H1 locs1 98 1715 Q (F0 m 995 ls [])) : W p l e room_1 s m #[Value.ref b] below meth c H locs 98 1715 Q (F0 m 797 ls []) := by
  obtain ⟨⟨hx, hb, hr, hml, hown, hts, hX, hbl, hlocks, hgv⟩, hWO, hnew, hL⟩ := id X
  have hbA : ¬ AD ad b := fun q => absurd (hnew b q) (Nat.not_le.mpr hbl)
  obtain ⟨a1, e1, r1⟩ := i32_ex (xs (x3 + 1).toNatClampNeg)
  refine lv_aload_n hx hb dl_797 rfl (lv_at hl 1 rfl) ?_
  refine lv_aload_n hx hb dl_798 rfl (lv_at hl 0 rfl) ?_
  refine lv_iload_n hx hb dl_799 rfl (lv_at hl 3 rfl) ?_
  refine lv_iconst (v := 1) hx hb dl_800 (by decide) ?_
  refine lv_iadd hx hb dl_801 ?_
  refine sl_ld e1 hx hb hX hbl hbA hS h1 dl_802 ?_
  refine lw_call (as := [.inl a1]) (rest := []) X (z := 83) rfl mo_83 rfl lk_116 rfl dl_803 hl.1 (Nat.le_of_ble_eq_true rfl) (ag_back hI r1) hP hS (fun v M1 H locs hC hP hS => ?_)
  refine lv_aload_n hx hb dl_806 rfl (lv_at hl 2 rfl) ?_
  refine lv_aload_n hx hb dl_807 rfl (lv_at hl 0 rfl) ?_
  refine lv_iload_n hx hb dl_808 rfl (lv_at hl 3 rfl) ?_
  refine lv_iconst (v := 1) hx hb dl_809 (by decide) ?_
  refine lv_iadd hx hb dl_810 ?_
  refine sl_ld e1 hx hb hX hbl hbA hS h1 dl_811 ?_
  refine lw_call (as := [.inl a1]) (rest := [.int (Int32.ofInt v)]) X (z := 185) rfl mo_185 rfl lk_119 rfl dl_812 hl.1 (Nat.le_of_ble_eq_true rfl) hC hP hS (fun v2 M2 H locs hq hP hS => ?_)
  obtain ⟨rfl, hI2⟩ := hq
  refine lv_icmp_eq (tgt := 995) hx hb dl_815 (by decide) (fun _ => ?_) (fun g => absurd rfl g)
  exact kk M2 H locs hI2 hP hS
set_option maxHeartbeats 1000000 in
theorem law_26 (X : LX ad cT dC dI adV p s m meth c b L xs) (hI : INV M) (hP : va_P (dC, dI) vwCl (WL ad cT M) H) (hS : va_S (AD ad) s.heap H locs) (hl : lv_has ls 4 [(0, .ref b), (1, .ref (ad 0)), (2, .ref (ad 80)), (3, .int x3)]) (h1 : vp_in (x3 + 1) L) (h2 : vp_in (x3 + 2) L) (h3 : vp_in (x3 + 3) L) (kk : ∀ (M2 : Mem) (H1 : Heap) (locs1 : List Loc), INV M2 → va_P (dC, dI) vwCl (WL ad cT M2) H1 → va_S (AD ad) s.heap H1 locs1 → W p l e room_1 s m #[Value.ref b] below meth c H1 locs1 98 1715 Q (F0 m 995 ls [])) : W p l e room_1 s m #[Value.ref b] below meth c H locs 98 1715 Q (F0 m 820 ls []) := by
  obtain ⟨⟨hx, hb, hr, hml, hown, hts, hX, hbl, hlocks, hgv⟩, hWO, hnew, hL⟩ := id X
  have hbA : ¬ AD ad b := fun q => absurd (hnew b q) (Nat.not_le.mpr hbl)
  obtain ⟨a1, e1, r1⟩ := i32_ex (xs (x3 + 1).toNatClampNeg)
  obtain ⟨a2, e2, r2⟩ := i32_ex (xs (x3 + 2).toNatClampNeg)
  obtain ⟨a3, e3, r3⟩ := i32_ex (xs (x3 + 3).toNatClampNeg)
  refine lv_aload_n hx hb dl_820 rfl (lv_at hl 1 rfl) ?_
  refine lv_aload_n hx hb dl_821 rfl (lv_at hl 0 rfl) ?_
  refine lv_iload_n hx hb dl_822 rfl (lv_at hl 3 rfl) ?_
  refine lv_iconst (v := 1) hx hb dl_823 (by decide) ?_
  refine lv_iadd hx hb dl_824 ?_
  refine sl_ld e1 hx hb hX hbl hbA hS h1 dl_825 ?_
  refine lv_aload_n hx hb dl_826 rfl (lv_at hl 0 rfl) ?_
  refine lv_iload_n hx hb dl_827 rfl (lv_at hl 3 rfl) ?_
  refine lv_iconst (v := 2) hx hb dl_828 (by decide) ?_
  refine lv_iadd hx hb dl_829 ?_
  refine sl_ld e2 hx hb hX hbl hbA hS h2 dl_830 ?_
  refine lv_aload_n hx hb dl_831 rfl (lv_at hl 0 rfl) ?_
  refine lv_iload_n hx hb dl_832 rfl (lv_at hl 3 rfl) ?_
  refine lv_iconst (v := 3) hx hb dl_833 (by decide) ?_
  refine lv_iadd hx hb dl_834 ?_
  refine sl_ld e3 hx hb hX hbl hbA hS h3 dl_835 ?_
  refine lw_call (as := [.inl a1, .inl a2, .inl a3]) (rest := []) X (z := 84) rfl mo_84 rfl lk_120 rfl dl_836 hl.1 (Nat.le_of_ble_eq_true rfl) (ag_sheet hI r1 r2 r3) hP hS (fun v M1 H locs hC hP hS => ?_)
  refine lv_aload_n hx hb dl_839 rfl (lv_at hl 2 rfl) ?_
  refine lv_aload_n hx hb dl_840 rfl (lv_at hl 0 rfl) ?_
  refine lv_iload_n hx hb dl_841 rfl (lv_at hl 3 rfl) ?_
  refine lv_iconst (v := 1) hx hb dl_842 (by decide) ?_
  refine lv_iadd hx hb dl_843 ?_
  refine sl_ld e1 hx hb hX hbl hbA hS h1 dl_844 ?_
  refine lv_aload_n hx hb dl_845 rfl (lv_at hl 0 rfl) ?_
  refine lv_iload_n hx hb dl_846 rfl (lv_at hl 3 rfl) ?_
  refine lv_iconst (v := 2) hx hb dl_847 (by decide) ?_
  refine lv_iadd hx hb dl_848 ?_
  refine sl_ld e2 hx hb hX hbl hbA hS h2 dl_849 ?_
  refine lv_aload_n hx hb dl_850 rfl (lv_at hl 0 rfl) ?_
  refine lv_iload_n hx hb dl_851 rfl (lv_at hl 3 rfl) ?_
  refine lv_iconst (v := 3) hx hb dl_852 (by decide) ?_
  refine lv_iadd hx hb dl_853 ?_
  refine sl_ld e3 hx hb hX hbl hbA hS h3 dl_854 ?_
  refine lw_call (as := [.inl a1, .inl a2, .inl a3]) (rest := [.int (Int32.ofInt v)]) X (z := 187) rfl mo_187 rfl lk_124 rfl dl_855 hl.1 (Nat.le_of_ble_eq_true rfl) hC hP hS (fun v2 M2 H locs hq hP hS => ?_)
  obtain ⟨rfl, hI2⟩ := hq
  refine lv_icmp_eq (tgt := 995) hx hb dl_858 (by decide) (fun _ => ?_) (fun g => absurd rfl g)
  exact kk M2 H locs hI2 hP hS
set_option maxHeartbeats 1000000 in
theorem law_27 (X : LX ad cT dC dI adV p s m meth c b L xs) (hI : INV M) (hP : va_P (dC, dI) vwCl (WL ad cT M) H) (hS : va_S (AD ad) s.heap H locs) (hl : lv_has ls 4 [(0, .ref b), (1, .ref (ad 0)), (2, .ref (ad 80)), (3, .int x3)]) (h1 : vp_in (x3 + 1) L) (h2 : vp_in (x3 + 2) L) (h3 : vp_in (x3 + 3) L) (kk : ∀ (M2 : Mem) (H1 : Heap) (locs1 : List Loc), INV M2 → va_P (dC, dI) vwCl (WL ad cT M2) H1 → va_S (AD ad) s.heap H1 locs1 → W p l e room_1 s m #[Value.ref b] below meth c H1 locs1 98 1715 Q (F0 m 995 ls [])) : W p l e room_1 s m #[Value.ref b] below meth c H locs 98 1715 Q (F0 m 863 ls []) := by
  obtain ⟨⟨hx, hb, hr, hml, hown, hts, hX, hbl, hlocks, hgv⟩, hWO, hnew, hL⟩ := id X
  have hbA : ¬ AD ad b := fun q => absurd (hnew b q) (Nat.not_le.mpr hbl)
  obtain ⟨a1, e1, r1⟩ := i32_ex (xs (x3 + 1).toNatClampNeg)
  obtain ⟨a2, e2, r2⟩ := i32_ex (xs (x3 + 2).toNatClampNeg)
  obtain ⟨a3, e3, r3⟩ := i32_ex (xs (x3 + 3).toNatClampNeg)
  refine lv_aload_n hx hb dl_863 rfl (lv_at hl 1 rfl) ?_
  refine lv_aload_n hx hb dl_864 rfl (lv_at hl 0 rfl) ?_
  refine lv_iload_n hx hb dl_865 rfl (lv_at hl 3 rfl) ?_
  refine lv_iconst (v := 1) hx hb dl_866 (by decide) ?_
  refine lv_iadd hx hb dl_867 ?_
  refine sl_ld e1 hx hb hX hbl hbA hS h1 dl_868 ?_
  refine lv_aload_n hx hb dl_869 rfl (lv_at hl 0 rfl) ?_
  refine lv_iload_n hx hb dl_870 rfl (lv_at hl 3 rfl) ?_
  refine lv_iconst (v := 2) hx hb dl_871 (by decide) ?_
  refine lv_iadd hx hb dl_872 ?_
  refine sl_ld e2 hx hb hX hbl hbA hS h2 dl_873 ?_
  refine lv_aload_n hx hb dl_874 rfl (lv_at hl 0 rfl) ?_
  refine lv_iload_n hx hb dl_875 rfl (lv_at hl 3 rfl) ?_
  refine lv_iconst (v := 3) hx hb dl_876 (by decide) ?_
  refine lv_iadd hx hb dl_877 ?_
  refine sl_ld e3 hx hb hX hbl hbA hS h3 dl_878 ?_
  refine lw_call (as := [.inl a1, .inl a2, .inl a3]) (rest := []) X (z := 85) rfl mo_85 rfl lk_125 rfl dl_879 hl.1 (Nat.le_of_ble_eq_true rfl) (ag_lay hI r1 r2 r3) hP hS (fun v M1 H locs hC hP hS => ?_)
  refine lv_aload_n hx hb dl_882 rfl (lv_at hl 2 rfl) ?_
  refine lv_aload_n hx hb dl_883 rfl (lv_at hl 0 rfl) ?_
  refine lv_iload_n hx hb dl_884 rfl (lv_at hl 3 rfl) ?_
  refine lv_iconst (v := 1) hx hb dl_885 (by decide) ?_
  refine lv_iadd hx hb dl_886 ?_
  refine sl_ld e1 hx hb hX hbl hbA hS h1 dl_887 ?_
  refine lv_aload_n hx hb dl_888 rfl (lv_at hl 0 rfl) ?_
  refine lv_iload_n hx hb dl_889 rfl (lv_at hl 3 rfl) ?_
  refine lv_iconst (v := 2) hx hb dl_890 (by decide) ?_
  refine lv_iadd hx hb dl_891 ?_
  refine sl_ld e2 hx hb hX hbl hbA hS h2 dl_892 ?_
  refine lv_aload_n hx hb dl_893 rfl (lv_at hl 0 rfl) ?_
  refine lv_iload_n hx hb dl_894 rfl (lv_at hl 3 rfl) ?_
  refine lv_iconst (v := 3) hx hb dl_895 (by decide) ?_
  refine lv_iadd hx hb dl_896 ?_
  refine sl_ld e3 hx hb hX hbl hbA hS h3 dl_897 ?_
  refine lw_call (as := [.inl a1, .inl a2, .inl a3]) (rest := [.int (Int32.ofInt v)]) X (z := 188) rfl mo_188 rfl lk_128 rfl dl_898 hl.1 (Nat.le_of_ble_eq_true rfl) hC hP hS (fun v2 M2 H locs hq hP hS => ?_)
  obtain ⟨rfl, hI2⟩ := hq
  refine lv_icmp_eq (tgt := 995) hx hb dl_901 (by decide) (fun _ => ?_) (fun g => absurd rfl g)
  exact kk M2 H locs hI2 hP hS
set_option maxHeartbeats 1000000 in
theorem law_28 (X : LX ad cT dC dI adV p s m meth c b L xs) (hI : INV M) (hP : va_P (dC, dI) vwCl (WL ad cT M) H) (hS : va_S (AD ad) s.heap H locs) (hl : lv_has ls 4 [(0, .ref b), (1, .ref (ad 0)), (2, .ref (ad 80)), (3, .int x3)]) (h1 : vp_in (x3 + 1) L) (h2 : vp_in (x3 + 2) L) (h3 : vp_in (x3 + 3) L) (h4 : vp_in (x3 + 4) L) (kk : ∀ (M2 : Mem) (H1 : Heap) (locs1 : List Loc), INV M2 → va_P (dC, dI) vwCl (WL ad cT M2) H1 → va_S (AD ad) s.heap H1 locs1 → W p l e room_1 s m #[Value.ref b] below meth c H1 locs1 98 1715 Q (F0 m 995 ls [])) : W p l e room_1 s m #[Value.ref b] below meth c H locs 98 1715 Q (F0 m 906 ls []) := by
  obtain ⟨⟨hx, hb, hr, hml, hown, hts, hX, hbl, hlocks, hgv⟩, hWO, hnew, hL⟩ := id X
  have hbA : ¬ AD ad b := fun q => absurd (hnew b q) (Nat.not_le.mpr hbl)
  obtain ⟨a1, e1, r1⟩ := i32_ex (xs (x3 + 1).toNatClampNeg)
  obtain ⟨a2, e2, r2⟩ := i32_ex (xs (x3 + 2).toNatClampNeg)
  obtain ⟨a3, e3, r3⟩ := i32_ex (xs (x3 + 3).toNatClampNeg)
  obtain ⟨a4, e4, r4⟩ := i32_ex (xs (x3 + 4).toNatClampNeg)
  refine lv_aload_n hx hb dl_906 rfl (lv_at hl 1 rfl) ?_
  refine lv_aload_n hx hb dl_907 rfl (lv_at hl 0 rfl) ?_
  refine lv_iload_n hx hb dl_908 rfl (lv_at hl 3 rfl) ?_
  refine lv_iconst (v := 1) hx hb dl_909 (by decide) ?_
  refine lv_iadd hx hb dl_910 ?_
  refine sl_ld e1 hx hb hX hbl hbA hS h1 dl_911 ?_
  refine lv_aload_n hx hb dl_912 rfl (lv_at hl 0 rfl) ?_
  refine lv_iload_n hx hb dl_913 rfl (lv_at hl 3 rfl) ?_
  refine lv_iconst (v := 2) hx hb dl_914 (by decide) ?_
  refine lv_iadd hx hb dl_915 ?_
  refine sl_ld e2 hx hb hX hbl hbA hS h2 dl_916 ?_
  refine lv_aload_n hx hb dl_917 rfl (lv_at hl 0 rfl) ?_
  refine lv_iload_n hx hb dl_918 rfl (lv_at hl 3 rfl) ?_
  refine lv_iconst (v := 3) hx hb dl_919 (by decide) ?_
  refine lv_iadd hx hb dl_920 ?_
  refine sl_ld e3 hx hb hX hbl hbA hS h3 dl_921 ?_
  refine lv_aload_n hx hb dl_922 rfl (lv_at hl 0 rfl) ?_
  refine lv_iload_n hx hb dl_923 rfl (lv_at hl 3 rfl) ?_
  refine lv_iconst (v := 4) hx hb dl_924 (by decide) ?_
  refine lv_iadd hx hb dl_925 ?_
  refine sl_ld e4 hx hb hX hbl hbA hS h4 dl_926 ?_
  refine lw_call (as := [.inl a1, .inl a2, .inl a3, .inl a4]) (rest := []) X (z := 86) rfl mo_86 rfl lk_129 rfl dl_927 hl.1 (Nat.le_of_ble_eq_true rfl) (ag_read hI r1 r2 r3 r4) hP hS (fun v M1 H locs hC hP hS => ?_)
  refine lv_aload_n hx hb dl_930 rfl (lv_at hl 2 rfl) ?_
  refine lv_aload_n hx hb dl_931 rfl (lv_at hl 0 rfl) ?_
  refine lv_iload_n hx hb dl_932 rfl (lv_at hl 3 rfl) ?_
  refine lv_iconst (v := 1) hx hb dl_933 (by decide) ?_
  refine lv_iadd hx hb dl_934 ?_
  refine sl_ld e1 hx hb hX hbl hbA hS h1 dl_935 ?_
  refine lv_aload_n hx hb dl_936 rfl (lv_at hl 0 rfl) ?_
  refine lv_iload_n hx hb dl_937 rfl (lv_at hl 3 rfl) ?_
  refine lv_iconst (v := 2) hx hb dl_938 (by decide) ?_
  refine lv_iadd hx hb dl_939 ?_
  refine sl_ld e2 hx hb hX hbl hbA hS h2 dl_940 ?_
  refine lv_aload_n hx hb dl_941 rfl (lv_at hl 0 rfl) ?_
  refine lv_iload_n hx hb dl_942 rfl (lv_at hl 3 rfl) ?_
  refine lv_iconst (v := 3) hx hb dl_943 (by decide) ?_
  refine lv_iadd hx hb dl_944 ?_
  refine sl_ld e3 hx hb hX hbl hbA hS h3 dl_945 ?_
  refine lv_aload_n hx hb dl_946 rfl (lv_at hl 0 rfl) ?_
  refine lv_iload_n hx hb dl_947 rfl (lv_at hl 3 rfl) ?_
  refine lv_iconst (v := 4) hx hb dl_948 (by decide) ?_
  refine lv_iadd hx hb dl_949 ?_
  refine sl_ld e4 hx hb hX hbl hbA hS h4 dl_950 ?_
  refine lw_call (as := [.inl a1, .inl a2, .inl a3, .inl a4]) (rest := [.int (Int32.ofInt v)]) X (z := 189) rfl mo_189 rfl lk_133 rfl dl_951 hl.1 (Nat.le_of_ble_eq_true rfl) hC hP hS (fun v2 M2 H locs hq hP hS => ?_)
  obtain ⟨rfl, hI2⟩ := hq
  refine lv_icmp_eq (tgt := 995) hx hb dl_954 (by decide) (fun _ => ?_) (fun g => absurd rfl g)
  exact kk M2 H locs hI2 hP hS
set_option maxHeartbeats 1000000 in
theorem law_29 (X : LX ad cT dC dI adV p s m meth c b L xs) (hI : INV M) (hP : va_P (dC, dI) vwCl (WL ad cT M) H) (hS : va_S (AD ad) s.heap H locs) (hl : lv_has ls 4 [(0, .ref b), (1, .ref (ad 0)), (2, .ref (ad 80)), (3, .int x3)])  (kk : ∀ (M2 : Mem) (H1 : Heap) (locs1 : List Loc), INV M2 → va_P (dC, dI) vwCl (WL ad cT M2) H1 → va_S (AD ad) s.heap H1 locs1 → W p l e room_1 s m #[Value.ref b] below meth c H1 locs1 98 1715 Q (F0 m 995 ls [])) : W p l e room_1 s m #[Value.ref b] below meth c H locs 98 1715 Q (F0 m 959 ls []) := by
  obtain ⟨⟨hx, hb, hr, hml, hown, hts, hX, hbl, hlocks, hgv⟩, hWO, hnew, hL⟩ := id X
  have hbA : ¬ AD ad b := fun q => absurd (hnew b q) (Nat.not_le.mpr hbl)
  refine lv_aload_n hx hb dl_959 rfl (lv_at hl 1 rfl) ?_
  refine lw_call (as := []) (rest := []) X (z := 87) rfl mo_87 rfl lk_134 rfl dl_960 hl.1 (Nat.le_of_ble_eq_true rfl) (ag_torn hI ) hP hS (fun v M1 H locs hC hP hS => ?_)
  refine lv_aload_n hx hb dl_963 rfl (lv_at hl 2 rfl) ?_
  refine lw_call (as := []) (rest := [.int (Int32.ofInt v)]) X (z := 190) rfl mo_190 rfl lk_137 rfl dl_964 hl.1 (Nat.le_of_ble_eq_true rfl) hC hP hS (fun v2 M2 H locs hq hP hS => ?_)
  obtain ⟨rfl, hI2⟩ := hq
  refine lv_icmp_eq (tgt := 995) hx hb dl_967 (by decide) (fun _ => ?_) (fun g => absurd rfl g)
  exact kk M2 H locs hI2 hP hS
set_option maxHeartbeats 1000000 in
theorem law_30 (X : LX ad cT dC dI adV p s m meth c b L xs) (hI : INV M) (hP : va_P (dC, dI) vwCl (WL ad cT M) H) (hS : va_S (AD ad) s.heap H locs) (hl : lv_has ls 4 [(0, .ref b), (1, .ref (ad 0)), (2, .ref (ad 80)), (3, .int x3)]) (h1 : vp_in (x3 + 1) L) (kk : ∀ (M2 : Mem) (H1 : Heap) (locs1 : List Loc), INV M2 → va_P (dC, dI) vwCl (WL ad cT M2) H1 → va_S (AD ad) s.heap H1 locs1 → W p l e room_1 s m #[Value.ref b] below meth c H1 locs1 98 1715 Q (F0 m 995 ls [])) : W p l e room_1 s m #[Value.ref b] below meth c H locs 98 1715 Q (F0 m 972 ls []) := by
  obtain ⟨⟨hx, hb, hr, hml, hown, hts, hX, hbl, hlocks, hgv⟩, hWO, hnew, hL⟩ := id X
  have hbA : ¬ AD ad b := fun q => absurd (hnew b q) (Nat.not_le.mpr hbl)
  obtain ⟨a1, e1, r1⟩ := i32_ex (xs (x3 + 1).toNatClampNeg)
  refine lv_aload_n hx hb dl_972 rfl (lv_at hl 1 rfl) ?_
  refine lv_aload_n hx hb dl_973 rfl (lv_at hl 0 rfl) ?_
  refine lv_iload_n hx hb dl_974 rfl (lv_at hl 3 rfl) ?_
  refine lv_iconst (v := 1) hx hb dl_975 (by decide) ?_
  refine lv_iadd hx hb dl_976 ?_
  refine sl_ld e1 hx hb hX hbl hbA hS h1 dl_977 ?_
  refine lw_call (as := [.inl a1]) (rest := []) X (z := 88) rfl mo_88 rfl lk_138 rfl dl_978 hl.1 (Nat.le_of_ble_eq_true rfl) (ag_count hI r1) hP hS (fun v M1 H locs hC hP hS => ?_)
  refine lv_aload_n hx hb dl_981 rfl (lv_at hl 2 rfl) ?_
  refine lv_aload_n hx hb dl_982 rfl (lv_at hl 0 rfl) ?_
  refine lv_iload_n hx hb dl_983 rfl (lv_at hl 3 rfl) ?_
  refine lv_iconst (v := 1) hx hb dl_984 (by decide) ?_
  refine lv_iadd hx hb dl_985 ?_
  refine sl_ld e1 hx hb hX hbl hbA hS h1 dl_986 ?_
  refine lw_call (as := [.inl a1]) (rest := [.int (Int32.ofInt v)]) X (z := 194) rfl mo_194 rfl lk_141 rfl dl_987 hl.1 (Nat.le_of_ble_eq_true rfl) hC hP hS (fun v2 M2 H locs hq hP hS => ?_)
  obtain ⟨rfl, hI2⟩ := hq
  refine lv_icmp_eq (tgt := 995) hx hb dl_990 (by decide) (fun _ => ?_) (fun g => absurd rfl g)
  exact kk M2 H locs hI2 hP hS
end LAWC
