/-! the law: its instructions -/
theorem dl_0 : decode code 0 = .ok (.new 7, 3) := by decide +kernel
theorem dl_3 : decode code 3 = .ok (.dup, 1) := by decide +kernel
theorem dl_4 : decode code 4 = .ok (.invokespecial 9, 3) := by decide +kernel
theorem dl_7 : decode code 7 = .ok (.astore_n 1, 1) := by decide +kernel
theorem dl_8 : decode code 8 = .ok (.new 10, 3) := by decide +kernel
theorem dl_11 : decode code 11 = .ok (.dup, 1) := by decide +kernel
theorem dl_12 : decode code 12 = .ok (.invokespecial 12, 3) := by decide +kernel
theorem dl_15 : decode code 15 = .ok (.astore_n 2, 1) := by decide +kernel
theorem dl_16 : decode code 16 = .ok (.iconst 0, 1) := by decide +kernel
theorem dl_17 : decode code 17 = .ok (.istore_n 3, 1) := by decide +kernel
theorem dl_18 : decode code 18 = .ok (.iload_n 3, 1) := by decide +kernel
theorem dl_19 : decode code 19 = .ok (.aload_n 0, 1) := by decide +kernel
theorem dl_20 : decode code 20 = .ok (.arraylength, 1) := by decide +kernel
theorem dl_21 : decode code 21 = .ok (.bipush 6, 2) := by decide +kernel
theorem dl_23 : decode code 23 = .ok (.isub, 1) := by decide +kernel
theorem dl_24 : decode code 24 = .ok (.if_icmp .gt 979, 3) := by decide +kernel
theorem dl_27 : decode code 27 = .ok (.aload_n 0, 1) := by decide +kernel
theorem dl_28 : decode code 28 = .ok (.iload_n 3, 1) := by decide +kernel
theorem dl_29 : decode code 29 = .ok (.iaload, 1) := by decide +kernel
theorem dl_30 : decode code 30 = .ok (.bipush 31, 2) := by decide +kernel
theorem dl_32 : decode code 32 = .ok (.iand, 1) := by decide +kernel
theorem dl_33 : decode code 33 = .ok (.tableswitch 964 0 27 #[127, 150, 163, 176, 189, 212, 245, 258, 281, 314, 337, 360, 373, 416, 439, 462, 495, 528, 591, 640, 683, 696, 719, 762, 841, 895, 918, 941], 127) := by decide +kernel
theorem dl_160 : decode code 160 = .ok (.aload_n 1, 1) := by decide +kernel
theorem dl_161 : decode code 161 = .ok (.aload_n 0, 1) := by decide +kernel
theorem dl_162 : decode code 162 = .ok (.iload_n 3, 1) := by decide +kernel
theorem dl_163 : decode code 163 = .ok (.iconst 1, 1) := by decide +kernel
theorem dl_164 : decode code 164 = .ok (.iadd, 1) := by decide +kernel
theorem dl_165 : decode code 165 = .ok (.iaload, 1) := by decide +kernel
theorem dl_166 : decode code 166 = .ok (.invokevirtual 13, 3) := by decide +kernel
theorem dl_169 : decode code 169 = .ok (.aload_n 2, 1) := by decide +kernel
theorem dl_170 : decode code 170 = .ok (.aload_n 0, 1) := by decide +kernel
theorem dl_171 : decode code 171 = .ok (.iload_n 3, 1) := by decide +kernel
theorem dl_172 : decode code 172 = .ok (.iconst 1, 1) := by decide +kernel
theorem dl_173 : decode code 173 = .ok (.iadd, 1) := by decide +kernel
theorem dl_174 : decode code 174 = .ok (.iaload, 1) := by decide +kernel
theorem dl_175 : decode code 175 = .ok (.invokevirtual 17, 3) := by decide +kernel
theorem dl_178 : decode code 178 = .ok (.if_icmp .eq 819, 3) := by decide +kernel
theorem dl_181 : decode code 181 = .ok (.iconst 0, 1) := by decide +kernel
theorem dl_182 : decode code 182 = .ok (.ireturn, 1) := by decide +kernel
theorem dl_183 : decode code 183 = .ok (.aload_n 1, 1) := by decide +kernel
theorem dl_184 : decode code 184 = .ok (.invokevirtual 18, 3) := by decide +kernel
theorem dl_187 : decode code 187 = .ok (.aload_n 2, 1) := by decide +kernel
theorem dl_188 : decode code 188 = .ok (.invokevirtual 22, 3) := by decide +kernel
theorem dl_191 : decode code 191 = .ok (.if_icmp .eq 806, 3) := by decide +kernel
theorem dl_194 : decode code 194 = .ok (.iconst 0, 1) := by decide +kernel
theorem dl_195 : decode code 195 = .ok (.ireturn, 1) := by decide +kernel
theorem dl_196 : decode code 196 = .ok (.aload_n 1, 1) := by decide +kernel
theorem dl_197 : decode code 197 = .ok (.invokevirtual 23, 3) := by decide +kernel
theorem dl_200 : decode code 200 = .ok (.aload_n 2, 1) := by decide +kernel
theorem dl_201 : decode code 201 = .ok (.invokevirtual 26, 3) := by decide +kernel
theorem dl_204 : decode code 204 = .ok (.if_icmp .eq 793, 3) := by decide +kernel
theorem dl_207 : decode code 207 = .ok (.iconst 0, 1) := by decide +kernel
theorem dl_208 : decode code 208 = .ok (.ireturn, 1) := by decide +kernel
theorem dl_209 : decode code 209 = .ok (.aload_n 1, 1) := by decide +kernel
theorem dl_210 : decode code 210 = .ok (.invokevirtual 27, 3) := by decide +kernel
theorem dl_213 : decode code 213 = .ok (.aload_n 2, 1) := by decide +kernel
theorem dl_214 : decode code 214 = .ok (.invokevirtual 30, 3) := by decide +kernel
theorem dl_217 : decode code 217 = .ok (.if_icmp .eq 780, 3) := by decide +kernel
theorem dl_220 : decode code 220 = .ok (.iconst 0, 1) := by decide +kernel
theorem dl_221 : decode code 221 = .ok (.ireturn, 1) := by decide +kernel
theorem dl_222 : decode code 222 = .ok (.aload_n 1, 1) := by decide +kernel
theorem dl_223 : decode code 223 = .ok (.aload_n 0, 1) := by decide +kernel
theorem dl_224 : decode code 224 = .ok (.iload_n 3, 1) := by decide +kernel
theorem dl_225 : decode code 225 = .ok (.iconst 1, 1) := by decide +kernel
theorem dl_226 : decode code 226 = .ok (.iadd, 1) := by decide +kernel
theorem dl_227 : decode code 227 = .ok (.iaload, 1) := by decide +kernel
theorem dl_228 : decode code 228 = .ok (.invokevirtual 31, 3) := by decide +kernel
theorem dl_231 : decode code 231 = .ok (.aload_n 2, 1) := by decide +kernel
theorem dl_232 : decode code 232 = .ok (.aload_n 0, 1) := by decide +kernel
theorem dl_233 : decode code 233 = .ok (.iload_n 3, 1) := by decide +kernel
theorem dl_234 : decode code 234 = .ok (.iconst 1, 1) := by decide +kernel
theorem dl_235 : decode code 235 = .ok (.iadd, 1) := by decide +kernel
theorem dl_236 : decode code 236 = .ok (.iaload, 1) := by decide +kernel
theorem dl_237 : decode code 237 = .ok (.invokevirtual 34, 3) := by decide +kernel
theorem dl_240 : decode code 240 = .ok (.if_icmp .eq 757, 3) := by decide +kernel
theorem dl_243 : decode code 243 = .ok (.iconst 0, 1) := by decide +kernel
theorem dl_244 : decode code 244 = .ok (.ireturn, 1) := by decide +kernel
theorem dl_245 : decode code 245 = .ok (.aload_n 1, 1) := by decide +kernel
theorem dl_246 : decode code 246 = .ok (.aload_n 0, 1) := by decide +kernel
theorem dl_247 : decode code 247 = .ok (.iload_n 3, 1) := by decide +kernel
theorem dl_248 : decode code 248 = .ok (.iconst 1, 1) := by decide +kernel
theorem dl_249 : decode code 249 = .ok (.iadd, 1) := by decide +kernel
theorem dl_250 : decode code 250 = .ok (.iaload, 1) := by decide +kernel
theorem dl_251 : decode code 251 = .ok (.aload_n 0, 1) := by decide +kernel
theorem dl_252 : decode code 252 = .ok (.iload_n 3, 1) := by decide +kernel
theorem dl_253 : decode code 253 = .ok (.iconst 2, 1) := by decide +kernel
theorem dl_254 : decode code 254 = .ok (.iadd, 1) := by decide +kernel
theorem dl_255 : decode code 255 = .ok (.iaload, 1) := by decide +kernel
theorem dl_256 : decode code 256 = .ok (.invokevirtual 35, 3) := by decide +kernel
theorem dl_259 : decode code 259 = .ok (.aload_n 2, 1) := by decide +kernel
theorem dl_260 : decode code 260 = .ok (.aload_n 0, 1) := by decide +kernel
theorem dl_261 : decode code 261 = .ok (.iload_n 3, 1) := by decide +kernel
theorem dl_262 : decode code 262 = .ok (.iconst 1, 1) := by decide +kernel
theorem dl_263 : decode code 263 = .ok (.iadd, 1) := by decide +kernel
theorem dl_264 : decode code 264 = .ok (.iaload, 1) := by decide +kernel
theorem dl_265 : decode code 265 = .ok (.aload_n 0, 1) := by decide +kernel
theorem dl_266 : decode code 266 = .ok (.iload_n 3, 1) := by decide +kernel
theorem dl_267 : decode code 267 = .ok (.iconst 2, 1) := by decide +kernel
theorem dl_268 : decode code 268 = .ok (.iadd, 1) := by decide +kernel
theorem dl_269 : decode code 269 = .ok (.iaload, 1) := by decide +kernel
theorem dl_270 : decode code 270 = .ok (.invokevirtual 39, 3) := by decide +kernel
theorem dl_273 : decode code 273 = .ok (.if_icmp .eq 724, 3) := by decide +kernel
theorem dl_276 : decode code 276 = .ok (.iconst 0, 1) := by decide +kernel
theorem dl_277 : decode code 277 = .ok (.ireturn, 1) := by decide +kernel
theorem dl_278 : decode code 278 = .ok (.aload_n 1, 1) := by decide +kernel
theorem dl_279 : decode code 279 = .ok (.invokevirtual 40, 3) := by decide +kernel
theorem dl_282 : decode code 282 = .ok (.aload_n 2, 1) := by decide +kernel
theorem dl_283 : decode code 283 = .ok (.invokevirtual 43, 3) := by decide +kernel
theorem dl_286 : decode code 286 = .ok (.if_icmp .eq 711, 3) := by decide +kernel
theorem dl_289 : decode code 289 = .ok (.iconst 0, 1) := by decide +kernel
theorem dl_290 : decode code 290 = .ok (.ireturn, 1) := by decide +kernel
theorem dl_291 : decode code 291 = .ok (.aload_n 1, 1) := by decide +kernel
theorem dl_292 : decode code 292 = .ok (.aload_n 0, 1) := by decide +kernel
theorem dl_293 : decode code 293 = .ok (.iload_n 3, 1) := by decide +kernel
theorem dl_294 : decode code 294 = .ok (.iconst 1, 1) := by decide +kernel
theorem dl_295 : decode code 295 = .ok (.iadd, 1) := by decide +kernel
theorem dl_296 : decode code 296 = .ok (.iaload, 1) := by decide +kernel
theorem dl_297 : decode code 297 = .ok (.invokevirtual 44, 3) := by decide +kernel
theorem dl_300 : decode code 300 = .ok (.aload_n 2, 1) := by decide +kernel
theorem dl_301 : decode code 301 = .ok (.aload_n 0, 1) := by decide +kernel
theorem dl_302 : decode code 302 = .ok (.iload_n 3, 1) := by decide +kernel
theorem dl_303 : decode code 303 = .ok (.iconst 1, 1) := by decide +kernel
theorem dl_304 : decode code 304 = .ok (.iadd, 1) := by decide +kernel
theorem dl_305 : decode code 305 = .ok (.iaload, 1) := by decide +kernel
theorem dl_306 : decode code 306 = .ok (.invokevirtual 47, 3) := by decide +kernel
theorem dl_309 : decode code 309 = .ok (.if_icmp .eq 688, 3) := by decide +kernel
theorem dl_312 : decode code 312 = .ok (.iconst 0, 1) := by decide +kernel
theorem dl_313 : decode code 313 = .ok (.ireturn, 1) := by decide +kernel
theorem dl_314 : decode code 314 = .ok (.aload_n 1, 1) := by decide +kernel
theorem dl_315 : decode code 315 = .ok (.aload_n 0, 1) := by decide +kernel
theorem dl_316 : decode code 316 = .ok (.iload_n 3, 1) := by decide +kernel
theorem dl_317 : decode code 317 = .ok (.iconst 1, 1) := by decide +kernel
theorem dl_318 : decode code 318 = .ok (.iadd, 1) := by decide +kernel
theorem dl_319 : decode code 319 = .ok (.iaload, 1) := by decide +kernel
theorem dl_320 : decode code 320 = .ok (.aload_n 0, 1) := by decide +kernel
theorem dl_321 : decode code 321 = .ok (.iload_n 3, 1) := by decide +kernel
theorem dl_322 : decode code 322 = .ok (.iconst 2, 1) := by decide +kernel
theorem dl_323 : decode code 323 = .ok (.iadd, 1) := by decide +kernel
theorem dl_324 : decode code 324 = .ok (.iaload, 1) := by decide +kernel
theorem dl_325 : decode code 325 = .ok (.invokevirtual 48, 3) := by decide +kernel
theorem dl_328 : decode code 328 = .ok (.aload_n 2, 1) := by decide +kernel
theorem dl_329 : decode code 329 = .ok (.aload_n 0, 1) := by decide +kernel
theorem dl_330 : decode code 330 = .ok (.iload_n 3, 1) := by decide +kernel
theorem dl_331 : decode code 331 = .ok (.iconst 1, 1) := by decide +kernel
theorem dl_332 : decode code 332 = .ok (.iadd, 1) := by decide +kernel
theorem dl_333 : decode code 333 = .ok (.iaload, 1) := by decide +kernel
theorem dl_334 : decode code 334 = .ok (.aload_n 0, 1) := by decide +kernel
theorem dl_335 : decode code 335 = .ok (.iload_n 3, 1) := by decide +kernel
theorem dl_336 : decode code 336 = .ok (.iconst 2, 1) := by decide +kernel
theorem dl_337 : decode code 337 = .ok (.iadd, 1) := by decide +kernel
theorem dl_338 : decode code 338 = .ok (.iaload, 1) := by decide +kernel
theorem dl_339 : decode code 339 = .ok (.invokevirtual 51, 3) := by decide +kernel
theorem dl_342 : decode code 342 = .ok (.if_icmp .eq 655, 3) := by decide +kernel
theorem dl_345 : decode code 345 = .ok (.iconst 0, 1) := by decide +kernel
theorem dl_346 : decode code 346 = .ok (.ireturn, 1) := by decide +kernel
theorem dl_347 : decode code 347 = .ok (.aload_n 1, 1) := by decide +kernel
theorem dl_348 : decode code 348 = .ok (.aload_n 0, 1) := by decide +kernel
theorem dl_349 : decode code 349 = .ok (.iload_n 3, 1) := by decide +kernel
theorem dl_350 : decode code 350 = .ok (.iconst 1, 1) := by decide +kernel
theorem dl_351 : decode code 351 = .ok (.iadd, 1) := by decide +kernel
theorem dl_352 : decode code 352 = .ok (.iaload, 1) := by decide +kernel
theorem dl_353 : decode code 353 = .ok (.invokevirtual 52, 3) := by decide +kernel
theorem dl_356 : decode code 356 = .ok (.aload_n 2, 1) := by decide +kernel
theorem dl_357 : decode code 357 = .ok (.aload_n 0, 1) := by decide +kernel
theorem dl_358 : decode code 358 = .ok (.iload_n 3, 1) := by decide +kernel
theorem dl_359 : decode code 359 = .ok (.iconst 1, 1) := by decide +kernel
theorem dl_360 : decode code 360 = .ok (.iadd, 1) := by decide +kernel
theorem dl_361 : decode code 361 = .ok (.iaload, 1) := by decide +kernel
theorem dl_362 : decode code 362 = .ok (.invokevirtual 55, 3) := by decide +kernel
theorem dl_365 : decode code 365 = .ok (.if_icmp .eq 632, 3) := by decide +kernel
theorem dl_368 : decode code 368 = .ok (.iconst 0, 1) := by decide +kernel
theorem dl_369 : decode code 369 = .ok (.ireturn, 1) := by decide +kernel
theorem dl_370 : decode code 370 = .ok (.aload_n 1, 1) := by decide +kernel
theorem dl_371 : decode code 371 = .ok (.aload_n 0, 1) := by decide +kernel
theorem dl_372 : decode code 372 = .ok (.iload_n 3, 1) := by decide +kernel
theorem dl_373 : decode code 373 = .ok (.iconst 1, 1) := by decide +kernel
theorem dl_374 : decode code 374 = .ok (.iadd, 1) := by decide +kernel
theorem dl_375 : decode code 375 = .ok (.iaload, 1) := by decide +kernel
theorem dl_376 : decode code 376 = .ok (.invokevirtual 56, 3) := by decide +kernel
theorem dl_379 : decode code 379 = .ok (.aload_n 2, 1) := by decide +kernel
theorem dl_380 : decode code 380 = .ok (.aload_n 0, 1) := by decide +kernel
theorem dl_381 : decode code 381 = .ok (.iload_n 3, 1) := by decide +kernel
theorem dl_382 : decode code 382 = .ok (.iconst 1, 1) := by decide +kernel
theorem dl_383 : decode code 383 = .ok (.iadd, 1) := by decide +kernel
theorem dl_384 : decode code 384 = .ok (.iaload, 1) := by decide +kernel
theorem dl_385 : decode code 385 = .ok (.invokevirtual 59, 3) := by decide +kernel
theorem dl_388 : decode code 388 = .ok (.if_icmp .eq 609, 3) := by decide +kernel
theorem dl_391 : decode code 391 = .ok (.iconst 0, 1) := by decide +kernel
theorem dl_392 : decode code 392 = .ok (.ireturn, 1) := by decide +kernel
theorem dl_393 : decode code 393 = .ok (.aload_n 1, 1) := by decide +kernel
theorem dl_394 : decode code 394 = .ok (.invokevirtual 60, 3) := by decide +kernel
theorem dl_397 : decode code 397 = .ok (.aload_n 2, 1) := by decide +kernel
theorem dl_398 : decode code 398 = .ok (.invokevirtual 63, 3) := by decide +kernel
theorem dl_401 : decode code 401 = .ok (.if_icmp .eq 596, 3) := by decide +kernel
theorem dl_404 : decode code 404 = .ok (.iconst 0, 1) := by decide +kernel
theorem dl_405 : decode code 405 = .ok (.ireturn, 1) := by decide +kernel
theorem dl_406 : decode code 406 = .ok (.aload_n 1, 1) := by decide +kernel
theorem dl_407 : decode code 407 = .ok (.aload_n 0, 1) := by decide +kernel
theorem dl_408 : decode code 408 = .ok (.iload_n 3, 1) := by decide +kernel
theorem dl_409 : decode code 409 = .ok (.iconst 1, 1) := by decide +kernel
theorem dl_410 : decode code 410 = .ok (.iadd, 1) := by decide +kernel
theorem dl_411 : decode code 411 = .ok (.iaload, 1) := by decide +kernel
theorem dl_412 : decode code 412 = .ok (.aload_n 0, 1) := by decide +kernel
theorem dl_413 : decode code 413 = .ok (.iload_n 3, 1) := by decide +kernel
theorem dl_414 : decode code 414 = .ok (.iconst 2, 1) := by decide +kernel
theorem dl_415 : decode code 415 = .ok (.iadd, 1) := by decide +kernel
theorem dl_416 : decode code 416 = .ok (.iaload, 1) := by decide +kernel
theorem dl_417 : decode code 417 = .ok (.aload_n 0, 1) := by decide +kernel
theorem dl_418 : decode code 418 = .ok (.iload_n 3, 1) := by decide +kernel
theorem dl_419 : decode code 419 = .ok (.iconst 3, 1) := by decide +kernel
theorem dl_420 : decode code 420 = .ok (.iadd, 1) := by decide +kernel
theorem dl_421 : decode code 421 = .ok (.iaload, 1) := by decide +kernel
theorem dl_422 : decode code 422 = .ok (.invokevirtual 64, 3) := by decide +kernel
theorem dl_425 : decode code 425 = .ok (.aload_n 2, 1) := by decide +kernel
theorem dl_426 : decode code 426 = .ok (.aload_n 0, 1) := by decide +kernel
theorem dl_427 : decode code 427 = .ok (.iload_n 3, 1) := by decide +kernel
theorem dl_428 : decode code 428 = .ok (.iconst 1, 1) := by decide +kernel
theorem dl_429 : decode code 429 = .ok (.iadd, 1) := by decide +kernel
theorem dl_430 : decode code 430 = .ok (.iaload, 1) := by decide +kernel
theorem dl_431 : decode code 431 = .ok (.aload_n 0, 1) := by decide +kernel
theorem dl_432 : decode code 432 = .ok (.iload_n 3, 1) := by decide +kernel
theorem dl_433 : decode code 433 = .ok (.iconst 2, 1) := by decide +kernel
theorem dl_434 : decode code 434 = .ok (.iadd, 1) := by decide +kernel
theorem dl_435 : decode code 435 = .ok (.iaload, 1) := by decide +kernel
theorem dl_436 : decode code 436 = .ok (.aload_n 0, 1) := by decide +kernel
theorem dl_437 : decode code 437 = .ok (.iload_n 3, 1) := by decide +kernel
theorem dl_438 : decode code 438 = .ok (.iconst 3, 1) := by decide +kernel
theorem dl_439 : decode code 439 = .ok (.iadd, 1) := by decide +kernel
theorem dl_440 : decode code 440 = .ok (.iaload, 1) := by decide +kernel
theorem dl_441 : decode code 441 = .ok (.invokevirtual 68, 3) := by decide +kernel
theorem dl_444 : decode code 444 = .ok (.if_icmp .eq 553, 3) := by decide +kernel
theorem dl_447 : decode code 447 = .ok (.iconst 0, 1) := by decide +kernel
theorem dl_448 : decode code 448 = .ok (.ireturn, 1) := by decide +kernel
theorem dl_449 : decode code 449 = .ok (.aload_n 1, 1) := by decide +kernel
theorem dl_450 : decode code 450 = .ok (.aload_n 0, 1) := by decide +kernel
theorem dl_451 : decode code 451 = .ok (.iload_n 3, 1) := by decide +kernel
theorem dl_452 : decode code 452 = .ok (.iconst 1, 1) := by decide +kernel
theorem dl_453 : decode code 453 = .ok (.iadd, 1) := by decide +kernel
theorem dl_454 : decode code 454 = .ok (.iaload, 1) := by decide +kernel
theorem dl_455 : decode code 455 = .ok (.invokevirtual 69, 3) := by decide +kernel
theorem dl_458 : decode code 458 = .ok (.aload_n 2, 1) := by decide +kernel
theorem dl_459 : decode code 459 = .ok (.aload_n 0, 1) := by decide +kernel
theorem dl_460 : decode code 460 = .ok (.iload_n 3, 1) := by decide +kernel
theorem dl_461 : decode code 461 = .ok (.iconst 1, 1) := by decide +kernel
theorem dl_462 : decode code 462 = .ok (.iadd, 1) := by decide +kernel
theorem dl_463 : decode code 463 = .ok (.iaload, 1) := by decide +kernel
theorem dl_464 : decode code 464 = .ok (.invokevirtual 72, 3) := by decide +kernel
theorem dl_467 : decode code 467 = .ok (.if_icmp .eq 530, 3) := by decide +kernel
theorem dl_470 : decode code 470 = .ok (.iconst 0, 1) := by decide +kernel
theorem dl_471 : decode code 471 = .ok (.ireturn, 1) := by decide +kernel
theorem dl_472 : decode code 472 = .ok (.aload_n 1, 1) := by decide +kernel
theorem dl_473 : decode code 473 = .ok (.aload_n 0, 1) := by decide +kernel
theorem dl_474 : decode code 474 = .ok (.iload_n 3, 1) := by decide +kernel
theorem dl_475 : decode code 475 = .ok (.iconst 1, 1) := by decide +kernel
theorem dl_476 : decode code 476 = .ok (.iadd, 1) := by decide +kernel
theorem dl_477 : decode code 477 = .ok (.iaload, 1) := by decide +kernel
theorem dl_478 : decode code 478 = .ok (.invokevirtual 73, 3) := by decide +kernel
theorem dl_481 : decode code 481 = .ok (.aload_n 2, 1) := by decide +kernel
theorem dl_482 : decode code 482 = .ok (.aload_n 0, 1) := by decide +kernel
theorem dl_483 : decode code 483 = .ok (.iload_n 3, 1) := by decide +kernel
theorem dl_484 : decode code 484 = .ok (.iconst 1, 1) := by decide +kernel
theorem dl_485 : decode code 485 = .ok (.iadd, 1) := by decide +kernel
theorem dl_486 : decode code 486 = .ok (.iaload, 1) := by decide +kernel
theorem dl_487 : decode code 487 = .ok (.invokevirtual 76, 3) := by decide +kernel
theorem dl_490 : decode code 490 = .ok (.if_icmp .eq 507, 3) := by decide +kernel
theorem dl_493 : decode code 493 = .ok (.iconst 0, 1) := by decide +kernel
theorem dl_494 : decode code 494 = .ok (.ireturn, 1) := by decide +kernel
theorem dl_495 : decode code 495 = .ok (.aload_n 1, 1) := by decide +kernel
theorem dl_496 : decode code 496 = .ok (.aload_n 0, 1) := by decide +kernel
theorem dl_497 : decode code 497 = .ok (.iload_n 3, 1) := by decide +kernel
theorem dl_498 : decode code 498 = .ok (.iconst 1, 1) := by decide +kernel
theorem dl_499 : decode code 499 = .ok (.iadd, 1) := by decide +kernel
theorem dl_500 : decode code 500 = .ok (.iaload, 1) := by decide +kernel
theorem dl_501 : decode code 501 = .ok (.aload_n 0, 1) := by decide +kernel
theorem dl_502 : decode code 502 = .ok (.iload_n 3, 1) := by decide +kernel
theorem dl_503 : decode code 503 = .ok (.iconst 2, 1) := by decide +kernel
theorem dl_504 : decode code 504 = .ok (.iadd, 1) := by decide +kernel
theorem dl_505 : decode code 505 = .ok (.iaload, 1) := by decide +kernel
theorem dl_506 : decode code 506 = .ok (.invokevirtual 77, 3) := by decide +kernel
theorem dl_509 : decode code 509 = .ok (.aload_n 2, 1) := by decide +kernel
theorem dl_510 : decode code 510 = .ok (.aload_n 0, 1) := by decide +kernel
theorem dl_511 : decode code 511 = .ok (.iload_n 3, 1) := by decide +kernel
theorem dl_512 : decode code 512 = .ok (.iconst 1, 1) := by decide +kernel
theorem dl_513 : decode code 513 = .ok (.iadd, 1) := by decide +kernel
theorem dl_514 : decode code 514 = .ok (.iaload, 1) := by decide +kernel
theorem dl_515 : decode code 515 = .ok (.aload_n 0, 1) := by decide +kernel
theorem dl_516 : decode code 516 = .ok (.iload_n 3, 1) := by decide +kernel
theorem dl_517 : decode code 517 = .ok (.iconst 2, 1) := by decide +kernel
theorem dl_518 : decode code 518 = .ok (.iadd, 1) := by decide +kernel
theorem dl_519 : decode code 519 = .ok (.iaload, 1) := by decide +kernel
theorem dl_520 : decode code 520 = .ok (.invokevirtual 80, 3) := by decide +kernel
theorem dl_523 : decode code 523 = .ok (.if_icmp .eq 474, 3) := by decide +kernel
theorem dl_526 : decode code 526 = .ok (.iconst 0, 1) := by decide +kernel
theorem dl_527 : decode code 527 = .ok (.ireturn, 1) := by decide +kernel
theorem dl_528 : decode code 528 = .ok (.aload_n 1, 1) := by decide +kernel
theorem dl_529 : decode code 529 = .ok (.aload_n 0, 1) := by decide +kernel
theorem dl_530 : decode code 530 = .ok (.iload_n 3, 1) := by decide +kernel
theorem dl_531 : decode code 531 = .ok (.iconst 1, 1) := by decide +kernel
theorem dl_532 : decode code 532 = .ok (.iadd, 1) := by decide +kernel
theorem dl_533 : decode code 533 = .ok (.iaload, 1) := by decide +kernel
theorem dl_534 : decode code 534 = .ok (.aload_n 0, 1) := by decide +kernel
theorem dl_535 : decode code 535 = .ok (.iload_n 3, 1) := by decide +kernel
theorem dl_536 : decode code 536 = .ok (.iconst 2, 1) := by decide +kernel
theorem dl_537 : decode code 537 = .ok (.iadd, 1) := by decide +kernel
theorem dl_538 : decode code 538 = .ok (.iaload, 1) := by decide +kernel
theorem dl_539 : decode code 539 = .ok (.invokevirtual 81, 3) := by decide +kernel
theorem dl_542 : decode code 542 = .ok (.aload_n 2, 1) := by decide +kernel
theorem dl_543 : decode code 543 = .ok (.aload_n 0, 1) := by decide +kernel
theorem dl_544 : decode code 544 = .ok (.iload_n 3, 1) := by decide +kernel
theorem dl_545 : decode code 545 = .ok (.iconst 1, 1) := by decide +kernel
theorem dl_546 : decode code 546 = .ok (.iadd, 1) := by decide +kernel
theorem dl_547 : decode code 547 = .ok (.iaload, 1) := by decide +kernel
theorem dl_548 : decode code 548 = .ok (.aload_n 0, 1) := by decide +kernel
theorem dl_549 : decode code 549 = .ok (.iload_n 3, 1) := by decide +kernel
theorem dl_550 : decode code 550 = .ok (.iconst 2, 1) := by decide +kernel
theorem dl_551 : decode code 551 = .ok (.iadd, 1) := by decide +kernel
theorem dl_552 : decode code 552 = .ok (.iaload, 1) := by decide +kernel
theorem dl_553 : decode code 553 = .ok (.invokevirtual 84, 3) := by decide +kernel
theorem dl_556 : decode code 556 = .ok (.if_icmp .eq 441, 3) := by decide +kernel
theorem dl_559 : decode code 559 = .ok (.iconst 0, 1) := by decide +kernel
theorem dl_560 : decode code 560 = .ok (.ireturn, 1) := by decide +kernel
theorem dl_561 : decode code 561 = .ok (.aload_n 1, 1) := by decide +kernel
theorem dl_562 : decode code 562 = .ok (.aload_n 0, 1) := by decide +kernel
theorem dl_563 : decode code 563 = .ok (.iload_n 3, 1) := by decide +kernel
theorem dl_564 : decode code 564 = .ok (.iconst 1, 1) := by decide +kernel
theorem dl_565 : decode code 565 = .ok (.iadd, 1) := by decide +kernel
theorem dl_566 : decode code 566 = .ok (.iaload, 1) := by decide +kernel
theorem dl_567 : decode code 567 = .ok (.aload_n 0, 1) := by decide +kernel
theorem dl_568 : decode code 568 = .ok (.iload_n 3, 1) := by decide +kernel
theorem dl_569 : decode code 569 = .ok (.iconst 2, 1) := by decide +kernel
theorem dl_570 : decode code 570 = .ok (.iadd, 1) := by decide +kernel
theorem dl_571 : decode code 571 = .ok (.iaload, 1) := by decide +kernel
theorem dl_572 : decode code 572 = .ok (.i2l, 1) := by decide +kernel
theorem dl_573 : decode code 573 = .ok (.bipush 32, 2) := by decide +kernel
theorem dl_575 : decode code 575 = .ok (.lshl, 1) := by decide +kernel
theorem dl_576 : decode code 576 = .ok (.aload_n 0, 1) := by decide +kernel
theorem dl_577 : decode code 577 = .ok (.iload_n 3, 1) := by decide +kernel
theorem dl_578 : decode code 578 = .ok (.iconst 3, 1) := by decide +kernel
theorem dl_579 : decode code 579 = .ok (.iadd, 1) := by decide +kernel
theorem dl_580 : decode code 580 = .ok (.iaload, 1) := by decide +kernel
theorem dl_581 : decode code 581 = .ok (.i2l, 1) := by decide +kernel
theorem dl_582 : decode code 582 = .ok (.ldc2_w 85, 3) := by decide +kernel
theorem dl_585 : decode code 585 = .ok (.land, 1) := by decide +kernel
theorem dl_586 : decode code 586 = .ok (.lor, 1) := by decide +kernel
theorem dl_587 : decode code 587 = .ok (.invokevirtual 87, 3) := by decide +kernel
theorem dl_590 : decode code 590 = .ok (.aload_n 2, 1) := by decide +kernel
theorem dl_591 : decode code 591 = .ok (.aload_n 0, 1) := by decide +kernel
theorem dl_592 : decode code 592 = .ok (.iload_n 3, 1) := by decide +kernel
theorem dl_593 : decode code 593 = .ok (.iconst 1, 1) := by decide +kernel
theorem dl_594 : decode code 594 = .ok (.iadd, 1) := by decide +kernel
theorem dl_595 : decode code 595 = .ok (.iaload, 1) := by decide +kernel
theorem dl_596 : decode code 596 = .ok (.aload_n 0, 1) := by decide +kernel
theorem dl_597 : decode code 597 = .ok (.iload_n 3, 1) := by decide +kernel
theorem dl_598 : decode code 598 = .ok (.iconst 2, 1) := by decide +kernel
theorem dl_599 : decode code 599 = .ok (.iadd, 1) := by decide +kernel
theorem dl_600 : decode code 600 = .ok (.iaload, 1) := by decide +kernel
theorem dl_601 : decode code 601 = .ok (.i2l, 1) := by decide +kernel
theorem dl_602 : decode code 602 = .ok (.bipush 32, 2) := by decide +kernel
theorem dl_604 : decode code 604 = .ok (.lshl, 1) := by decide +kernel
theorem dl_605 : decode code 605 = .ok (.aload_n 0, 1) := by decide +kernel
theorem dl_606 : decode code 606 = .ok (.iload_n 3, 1) := by decide +kernel
theorem dl_607 : decode code 607 = .ok (.iconst 3, 1) := by decide +kernel
theorem dl_608 : decode code 608 = .ok (.iadd, 1) := by decide +kernel
theorem dl_609 : decode code 609 = .ok (.iaload, 1) := by decide +kernel
theorem dl_610 : decode code 610 = .ok (.i2l, 1) := by decide +kernel
theorem dl_611 : decode code 611 = .ok (.ldc2_w 85, 3) := by decide +kernel
theorem dl_614 : decode code 614 = .ok (.land, 1) := by decide +kernel
theorem dl_615 : decode code 615 = .ok (.lor, 1) := by decide +kernel
theorem dl_616 : decode code 616 = .ok (.invokevirtual 91, 3) := by decide +kernel
theorem dl_619 : decode code 619 = .ok (.if_icmp .eq 378, 3) := by decide +kernel
theorem dl_622 : decode code 622 = .ok (.iconst 0, 1) := by decide +kernel
theorem dl_623 : decode code 623 = .ok (.ireturn, 1) := by decide +kernel
theorem dl_624 : decode code 624 = .ok (.aload_n 1, 1) := by decide +kernel
theorem dl_625 : decode code 625 = .ok (.aload_n 0, 1) := by decide +kernel
theorem dl_626 : decode code 626 = .ok (.iload_n 3, 1) := by decide +kernel
theorem dl_627 : decode code 627 = .ok (.iconst 1, 1) := by decide +kernel
theorem dl_628 : decode code 628 = .ok (.iadd, 1) := by decide +kernel
theorem dl_629 : decode code 629 = .ok (.iaload, 1) := by decide +kernel
theorem dl_630 : decode code 630 = .ok (.aload_n 0, 1) := by decide +kernel
theorem dl_631 : decode code 631 = .ok (.iload_n 3, 1) := by decide +kernel
theorem dl_632 : decode code 632 = .ok (.iconst 2, 1) := by decide +kernel
theorem dl_633 : decode code 633 = .ok (.iadd, 1) := by decide +kernel
theorem dl_634 : decode code 634 = .ok (.iaload, 1) := by decide +kernel
theorem dl_635 : decode code 635 = .ok (.ifCond .eq 7, 3) := by decide +kernel
theorem dl_638 : decode code 638 = .ok (.iconst 1, 1) := by decide +kernel
theorem dl_639 : decode code 639 = .ok (.goto 4, 3) := by decide +kernel
theorem dl_642 : decode code 642 = .ok (.iconst 0, 1) := by decide +kernel
theorem dl_643 : decode code 643 = .ok (.invokevirtual 92, 3) := by decide +kernel
theorem dl_646 : decode code 646 = .ok (.aload_n 2, 1) := by decide +kernel
theorem dl_647 : decode code 647 = .ok (.aload_n 0, 1) := by decide +kernel
theorem dl_648 : decode code 648 = .ok (.iload_n 3, 1) := by decide +kernel
theorem dl_649 : decode code 649 = .ok (.iconst 1, 1) := by decide +kernel
theorem dl_650 : decode code 650 = .ok (.iadd, 1) := by decide +kernel
theorem dl_651 : decode code 651 = .ok (.iaload, 1) := by decide +kernel
theorem dl_652 : decode code 652 = .ok (.aload_n 0, 1) := by decide +kernel
theorem dl_653 : decode code 653 = .ok (.iload_n 3, 1) := by decide +kernel
theorem dl_654 : decode code 654 = .ok (.iconst 2, 1) := by decide +kernel
theorem dl_655 : decode code 655 = .ok (.iadd, 1) := by decide +kernel
theorem dl_656 : decode code 656 = .ok (.iaload, 1) := by decide +kernel
theorem dl_657 : decode code 657 = .ok (.ifCond .eq 7, 3) := by decide +kernel
theorem dl_660 : decode code 660 = .ok (.iconst 1, 1) := by decide +kernel
theorem dl_661 : decode code 661 = .ok (.goto 4, 3) := by decide +kernel
theorem dl_664 : decode code 664 = .ok (.iconst 0, 1) := by decide +kernel
theorem dl_665 : decode code 665 = .ok (.invokevirtual 96, 3) := by decide +kernel
theorem dl_668 : decode code 668 = .ok (.if_icmp .eq 329, 3) := by decide +kernel
theorem dl_671 : decode code 671 = .ok (.iconst 0, 1) := by decide +kernel
theorem dl_672 : decode code 672 = .ok (.ireturn, 1) := by decide +kernel
theorem dl_673 : decode code 673 = .ok (.aload_n 1, 1) := by decide +kernel
theorem dl_674 : decode code 674 = .ok (.aload_n 0, 1) := by decide +kernel
theorem dl_675 : decode code 675 = .ok (.iload_n 3, 1) := by decide +kernel
theorem dl_676 : decode code 676 = .ok (.iconst 1, 1) := by decide +kernel
theorem dl_677 : decode code 677 = .ok (.iadd, 1) := by decide +kernel
theorem dl_678 : decode code 678 = .ok (.iaload, 1) := by decide +kernel
theorem dl_679 : decode code 679 = .ok (.aload_n 0, 1) := by decide +kernel
theorem dl_680 : decode code 680 = .ok (.iload_n 3, 1) := by decide +kernel
theorem dl_681 : decode code 681 = .ok (.iconst 2, 1) := by decide +kernel
theorem dl_682 : decode code 682 = .ok (.iadd, 1) := by decide +kernel
theorem dl_683 : decode code 683 = .ok (.iaload, 1) := by decide +kernel
theorem dl_684 : decode code 684 = .ok (.aload_n 0, 1) := by decide +kernel
theorem dl_685 : decode code 685 = .ok (.iload_n 3, 1) := by decide +kernel
theorem dl_686 : decode code 686 = .ok (.iconst 3, 1) := by decide +kernel
theorem dl_687 : decode code 687 = .ok (.iadd, 1) := by decide +kernel
theorem dl_688 : decode code 688 = .ok (.iaload, 1) := by decide +kernel
theorem dl_689 : decode code 689 = .ok (.invokevirtual 97, 3) := by decide +kernel
theorem dl_692 : decode code 692 = .ok (.aload_n 2, 1) := by decide +kernel
theorem dl_693 : decode code 693 = .ok (.aload_n 0, 1) := by decide +kernel
theorem dl_694 : decode code 694 = .ok (.iload_n 3, 1) := by decide +kernel
theorem dl_695 : decode code 695 = .ok (.iconst 1, 1) := by decide +kernel
theorem dl_696 : decode code 696 = .ok (.iadd, 1) := by decide +kernel
theorem dl_697 : decode code 697 = .ok (.iaload, 1) := by decide +kernel
theorem dl_698 : decode code 698 = .ok (.aload_n 0, 1) := by decide +kernel
theorem dl_699 : decode code 699 = .ok (.iload_n 3, 1) := by decide +kernel
theorem dl_700 : decode code 700 = .ok (.iconst 2, 1) := by decide +kernel
theorem dl_701 : decode code 701 = .ok (.iadd, 1) := by decide +kernel
theorem dl_702 : decode code 702 = .ok (.iaload, 1) := by decide +kernel
theorem dl_703 : decode code 703 = .ok (.aload_n 0, 1) := by decide +kernel
theorem dl_704 : decode code 704 = .ok (.iload_n 3, 1) := by decide +kernel
theorem dl_705 : decode code 705 = .ok (.iconst 3, 1) := by decide +kernel
theorem dl_706 : decode code 706 = .ok (.iadd, 1) := by decide +kernel
theorem dl_707 : decode code 707 = .ok (.iaload, 1) := by decide +kernel
theorem dl_708 : decode code 708 = .ok (.invokevirtual 100, 3) := by decide +kernel
theorem dl_711 : decode code 711 = .ok (.if_icmp .eq 286, 3) := by decide +kernel
theorem dl_714 : decode code 714 = .ok (.iconst 0, 1) := by decide +kernel
theorem dl_715 : decode code 715 = .ok (.ireturn, 1) := by decide +kernel
theorem dl_716 : decode code 716 = .ok (.aload_n 1, 1) := by decide +kernel
theorem dl_717 : decode code 717 = .ok (.invokevirtual 101, 3) := by decide +kernel
theorem dl_720 : decode code 720 = .ok (.aload_n 2, 1) := by decide +kernel
theorem dl_721 : decode code 721 = .ok (.invokevirtual 104, 3) := by decide +kernel
theorem dl_724 : decode code 724 = .ok (.if_icmp .eq 273, 3) := by decide +kernel
theorem dl_727 : decode code 727 = .ok (.iconst 0, 1) := by decide +kernel
theorem dl_728 : decode code 728 = .ok (.ireturn, 1) := by decide +kernel
theorem dl_729 : decode code 729 = .ok (.aload_n 1, 1) := by decide +kernel
theorem dl_730 : decode code 730 = .ok (.aload_n 0, 1) := by decide +kernel
theorem dl_731 : decode code 731 = .ok (.iload_n 3, 1) := by decide +kernel
theorem dl_732 : decode code 732 = .ok (.iconst 1, 1) := by decide +kernel
theorem dl_733 : decode code 733 = .ok (.iadd, 1) := by decide +kernel
theorem dl_734 : decode code 734 = .ok (.iaload, 1) := by decide +kernel
theorem dl_735 : decode code 735 = .ok (.invokevirtual 105, 3) := by decide +kernel
theorem dl_738 : decode code 738 = .ok (.aload_n 2, 1) := by decide +kernel
theorem dl_739 : decode code 739 = .ok (.aload_n 0, 1) := by decide +kernel
theorem dl_740 : decode code 740 = .ok (.iload_n 3, 1) := by decide +kernel
theorem dl_741 : decode code 741 = .ok (.iconst 1, 1) := by decide +kernel
theorem dl_742 : decode code 742 = .ok (.iadd, 1) := by decide +kernel
theorem dl_743 : decode code 743 = .ok (.iaload, 1) := by decide +kernel
theorem dl_744 : decode code 744 = .ok (.invokevirtual 108, 3) := by decide +kernel
theorem dl_747 : decode code 747 = .ok (.if_icmp .eq 250, 3) := by decide +kernel
theorem dl_750 : decode code 750 = .ok (.iconst 0, 1) := by decide +kernel
theorem dl_751 : decode code 751 = .ok (.ireturn, 1) := by decide +kernel
theorem dl_752 : decode code 752 = .ok (.aload_n 1, 1) := by decide +kernel
theorem dl_753 : decode code 753 = .ok (.aload_n 0, 1) := by decide +kernel
theorem dl_754 : decode code 754 = .ok (.iload_n 3, 1) := by decide +kernel
theorem dl_755 : decode code 755 = .ok (.iconst 1, 1) := by decide +kernel
theorem dl_756 : decode code 756 = .ok (.iadd, 1) := by decide +kernel
theorem dl_757 : decode code 757 = .ok (.iaload, 1) := by decide +kernel
theorem dl_758 : decode code 758 = .ok (.aload_n 0, 1) := by decide +kernel
theorem dl_759 : decode code 759 = .ok (.iload_n 3, 1) := by decide +kernel
theorem dl_760 : decode code 760 = .ok (.iconst 2, 1) := by decide +kernel
theorem dl_761 : decode code 761 = .ok (.iadd, 1) := by decide +kernel
theorem dl_762 : decode code 762 = .ok (.iaload, 1) := by decide +kernel
theorem dl_763 : decode code 763 = .ok (.aload_n 0, 1) := by decide +kernel
theorem dl_764 : decode code 764 = .ok (.iload_n 3, 1) := by decide +kernel
theorem dl_765 : decode code 765 = .ok (.iconst 3, 1) := by decide +kernel
theorem dl_766 : decode code 766 = .ok (.iadd, 1) := by decide +kernel
theorem dl_767 : decode code 767 = .ok (.iaload, 1) := by decide +kernel
theorem dl_768 : decode code 768 = .ok (.invokevirtual 109, 3) := by decide +kernel
theorem dl_771 : decode code 771 = .ok (.aload_n 2, 1) := by decide +kernel
theorem dl_772 : decode code 772 = .ok (.aload_n 0, 1) := by decide +kernel
theorem dl_773 : decode code 773 = .ok (.iload_n 3, 1) := by decide +kernel
theorem dl_774 : decode code 774 = .ok (.iconst 1, 1) := by decide +kernel
theorem dl_775 : decode code 775 = .ok (.iadd, 1) := by decide +kernel
theorem dl_776 : decode code 776 = .ok (.iaload, 1) := by decide +kernel
theorem dl_777 : decode code 777 = .ok (.aload_n 0, 1) := by decide +kernel
theorem dl_778 : decode code 778 = .ok (.iload_n 3, 1) := by decide +kernel
theorem dl_779 : decode code 779 = .ok (.iconst 2, 1) := by decide +kernel
theorem dl_780 : decode code 780 = .ok (.iadd, 1) := by decide +kernel
theorem dl_781 : decode code 781 = .ok (.iaload, 1) := by decide +kernel
theorem dl_782 : decode code 782 = .ok (.aload_n 0, 1) := by decide +kernel
theorem dl_783 : decode code 783 = .ok (.iload_n 3, 1) := by decide +kernel
theorem dl_784 : decode code 784 = .ok (.iconst 3, 1) := by decide +kernel
theorem dl_785 : decode code 785 = .ok (.iadd, 1) := by decide +kernel
theorem dl_786 : decode code 786 = .ok (.iaload, 1) := by decide +kernel
theorem dl_787 : decode code 787 = .ok (.invokevirtual 112, 3) := by decide +kernel
theorem dl_790 : decode code 790 = .ok (.if_icmp .eq 207, 3) := by decide +kernel
theorem dl_793 : decode code 793 = .ok (.iconst 0, 1) := by decide +kernel
theorem dl_794 : decode code 794 = .ok (.ireturn, 1) := by decide +kernel
theorem dl_795 : decode code 795 = .ok (.aload_n 1, 1) := by decide +kernel
theorem dl_796 : decode code 796 = .ok (.aload_n 0, 1) := by decide +kernel
theorem dl_797 : decode code 797 = .ok (.iload_n 3, 1) := by decide +kernel
theorem dl_798 : decode code 798 = .ok (.iconst 1, 1) := by decide +kernel
theorem dl_799 : decode code 799 = .ok (.iadd, 1) := by decide +kernel
theorem dl_800 : decode code 800 = .ok (.iaload, 1) := by decide +kernel
theorem dl_801 : decode code 801 = .ok (.aload_n 0, 1) := by decide +kernel
theorem dl_802 : decode code 802 = .ok (.iload_n 3, 1) := by decide +kernel
theorem dl_803 : decode code 803 = .ok (.iconst 2, 1) := by decide +kernel
theorem dl_804 : decode code 804 = .ok (.iadd, 1) := by decide +kernel
theorem dl_805 : decode code 805 = .ok (.iaload, 1) := by decide +kernel
theorem dl_806 : decode code 806 = .ok (.aload_n 0, 1) := by decide +kernel
theorem dl_807 : decode code 807 = .ok (.iload_n 3, 1) := by decide +kernel
theorem dl_808 : decode code 808 = .ok (.iconst 3, 1) := by decide +kernel
theorem dl_809 : decode code 809 = .ok (.iadd, 1) := by decide +kernel
theorem dl_810 : decode code 810 = .ok (.iaload, 1) := by decide +kernel
theorem dl_811 : decode code 811 = .ok (.aload_n 0, 1) := by decide +kernel
theorem dl_812 : decode code 812 = .ok (.iload_n 3, 1) := by decide +kernel
theorem dl_813 : decode code 813 = .ok (.iconst 4, 1) := by decide +kernel
theorem dl_814 : decode code 814 = .ok (.iadd, 1) := by decide +kernel
theorem dl_815 : decode code 815 = .ok (.iaload, 1) := by decide +kernel
theorem dl_816 : decode code 816 = .ok (.aload_n 0, 1) := by decide +kernel
theorem dl_817 : decode code 817 = .ok (.iload_n 3, 1) := by decide +kernel
theorem dl_818 : decode code 818 = .ok (.iconst 5, 1) := by decide +kernel
theorem dl_819 : decode code 819 = .ok (.iadd, 1) := by decide +kernel
theorem dl_820 : decode code 820 = .ok (.iaload, 1) := by decide +kernel
theorem dl_821 : decode code 821 = .ok (.ifCond .eq 7, 3) := by decide +kernel
theorem dl_824 : decode code 824 = .ok (.iconst 1, 1) := by decide +kernel
theorem dl_825 : decode code 825 = .ok (.goto 4, 3) := by decide +kernel
theorem dl_828 : decode code 828 = .ok (.iconst 0, 1) := by decide +kernel
theorem dl_829 : decode code 829 = .ok (.invokevirtual 113, 3) := by decide +kernel
theorem dl_832 : decode code 832 = .ok (.aload_n 2, 1) := by decide +kernel
theorem dl_833 : decode code 833 = .ok (.aload_n 0, 1) := by decide +kernel
theorem dl_834 : decode code 834 = .ok (.iload_n 3, 1) := by decide +kernel
theorem dl_835 : decode code 835 = .ok (.iconst 1, 1) := by decide +kernel
theorem dl_836 : decode code 836 = .ok (.iadd, 1) := by decide +kernel
theorem dl_837 : decode code 837 = .ok (.iaload, 1) := by decide +kernel
theorem dl_838 : decode code 838 = .ok (.aload_n 0, 1) := by decide +kernel
theorem dl_839 : decode code 839 = .ok (.iload_n 3, 1) := by decide +kernel
theorem dl_840 : decode code 840 = .ok (.iconst 2, 1) := by decide +kernel
theorem dl_841 : decode code 841 = .ok (.iadd, 1) := by decide +kernel
theorem dl_842 : decode code 842 = .ok (.iaload, 1) := by decide +kernel
theorem dl_843 : decode code 843 = .ok (.aload_n 0, 1) := by decide +kernel
theorem dl_844 : decode code 844 = .ok (.iload_n 3, 1) := by decide +kernel
theorem dl_845 : decode code 845 = .ok (.iconst 3, 1) := by decide +kernel
theorem dl_846 : decode code 846 = .ok (.iadd, 1) := by decide +kernel
theorem dl_847 : decode code 847 = .ok (.iaload, 1) := by decide +kernel
theorem dl_848 : decode code 848 = .ok (.aload_n 0, 1) := by decide +kernel
theorem dl_849 : decode code 849 = .ok (.iload_n 3, 1) := by decide +kernel
theorem dl_850 : decode code 850 = .ok (.iconst 4, 1) := by decide +kernel
theorem dl_851 : decode code 851 = .ok (.iadd, 1) := by decide +kernel
theorem dl_852 : decode code 852 = .ok (.iaload, 1) := by decide +kernel
theorem dl_853 : decode code 853 = .ok (.aload_n 0, 1) := by decide +kernel
theorem dl_854 : decode code 854 = .ok (.iload_n 3, 1) := by decide +kernel
theorem dl_855 : decode code 855 = .ok (.iconst 5, 1) := by decide +kernel
theorem dl_856 : decode code 856 = .ok (.iadd, 1) := by decide +kernel
theorem dl_857 : decode code 857 = .ok (.iaload, 1) := by decide +kernel
theorem dl_858 : decode code 858 = .ok (.ifCond .eq 7, 3) := by decide +kernel
theorem dl_861 : decode code 861 = .ok (.iconst 1, 1) := by decide +kernel
theorem dl_862 : decode code 862 = .ok (.goto 4, 3) := by decide +kernel
theorem dl_865 : decode code 865 = .ok (.iconst 0, 1) := by decide +kernel
theorem dl_866 : decode code 866 = .ok (.invokevirtual 117, 3) := by decide +kernel
theorem dl_869 : decode code 869 = .ok (.if_icmp .eq 128, 3) := by decide +kernel
theorem dl_872 : decode code 872 = .ok (.iconst 0, 1) := by decide +kernel
theorem dl_873 : decode code 873 = .ok (.ireturn, 1) := by decide +kernel
theorem dl_874 : decode code 874 = .ok (.aload_n 1, 1) := by decide +kernel
theorem dl_875 : decode code 875 = .ok (.aload_n 0, 1) := by decide +kernel
theorem dl_876 : decode code 876 = .ok (.iload_n 3, 1) := by decide +kernel
theorem dl_877 : decode code 877 = .ok (.iconst 1, 1) := by decide +kernel
theorem dl_878 : decode code 878 = .ok (.iadd, 1) := by decide +kernel
theorem dl_879 : decode code 879 = .ok (.iaload, 1) := by decide +kernel
theorem dl_880 : decode code 880 = .ok (.i2l, 1) := by decide +kernel
theorem dl_881 : decode code 881 = .ok (.bipush 32, 2) := by decide +kernel
theorem dl_883 : decode code 883 = .ok (.lshl, 1) := by decide +kernel
theorem dl_884 : decode code 884 = .ok (.aload_n 0, 1) := by decide +kernel
theorem dl_885 : decode code 885 = .ok (.iload_n 3, 1) := by decide +kernel
theorem dl_886 : decode code 886 = .ok (.iconst 2, 1) := by decide +kernel
theorem dl_887 : decode code 887 = .ok (.iadd, 1) := by decide +kernel
theorem dl_888 : decode code 888 = .ok (.iaload, 1) := by decide +kernel
theorem dl_889 : decode code 889 = .ok (.i2l, 1) := by decide +kernel
theorem dl_890 : decode code 890 = .ok (.ldc2_w 85, 3) := by decide +kernel
theorem dl_893 : decode code 893 = .ok (.land, 1) := by decide +kernel
theorem dl_894 : decode code 894 = .ok (.lor, 1) := by decide +kernel
theorem dl_895 : decode code 895 = .ok (.invokevirtual 118, 3) := by decide +kernel
theorem dl_898 : decode code 898 = .ok (.aload_n 2, 1) := by decide +kernel
theorem dl_899 : decode code 899 = .ok (.aload_n 0, 1) := by decide +kernel
theorem dl_900 : decode code 900 = .ok (.iload_n 3, 1) := by decide +kernel
theorem dl_901 : decode code 901 = .ok (.iconst 1, 1) := by decide +kernel
theorem dl_902 : decode code 902 = .ok (.iadd, 1) := by decide +kernel
theorem dl_903 : decode code 903 = .ok (.iaload, 1) := by decide +kernel
theorem dl_904 : decode code 904 = .ok (.i2l, 1) := by decide +kernel
theorem dl_905 : decode code 905 = .ok (.bipush 32, 2) := by decide +kernel
theorem dl_907 : decode code 907 = .ok (.lshl, 1) := by decide +kernel
theorem dl_908 : decode code 908 = .ok (.aload_n 0, 1) := by decide +kernel
theorem dl_909 : decode code 909 = .ok (.iload_n 3, 1) := by decide +kernel
theorem dl_910 : decode code 910 = .ok (.iconst 2, 1) := by decide +kernel
theorem dl_911 : decode code 911 = .ok (.iadd, 1) := by decide +kernel
theorem dl_912 : decode code 912 = .ok (.iaload, 1) := by decide +kernel
theorem dl_913 : decode code 913 = .ok (.i2l, 1) := by decide +kernel
theorem dl_914 : decode code 914 = .ok (.ldc2_w 85, 3) := by decide +kernel
theorem dl_917 : decode code 917 = .ok (.land, 1) := by decide +kernel
theorem dl_918 : decode code 918 = .ok (.lor, 1) := by decide +kernel
theorem dl_919 : decode code 919 = .ok (.invokevirtual 122, 3) := by decide +kernel
theorem dl_922 : decode code 922 = .ok (.lcmp, 1) := by decide +kernel
theorem dl_923 : decode code 923 = .ok (.ifCond .eq 74, 3) := by decide +kernel
theorem dl_926 : decode code 926 = .ok (.iconst 0, 1) := by decide +kernel
theorem dl_927 : decode code 927 = .ok (.ireturn, 1) := by decide +kernel
theorem dl_928 : decode code 928 = .ok (.aload_n 1, 1) := by decide +kernel
theorem dl_929 : decode code 929 = .ok (.aload_n 0, 1) := by decide +kernel
theorem dl_930 : decode code 930 = .ok (.iload_n 3, 1) := by decide +kernel
theorem dl_931 : decode code 931 = .ok (.iconst 1, 1) := by decide +kernel
theorem dl_932 : decode code 932 = .ok (.iadd, 1) := by decide +kernel
theorem dl_933 : decode code 933 = .ok (.iaload, 1) := by decide +kernel
theorem dl_934 : decode code 934 = .ok (.invokevirtual 123, 3) := by decide +kernel
theorem dl_937 : decode code 937 = .ok (.aload_n 2, 1) := by decide +kernel
theorem dl_938 : decode code 938 = .ok (.aload_n 0, 1) := by decide +kernel
theorem dl_939 : decode code 939 = .ok (.iload_n 3, 1) := by decide +kernel
theorem dl_940 : decode code 940 = .ok (.iconst 1, 1) := by decide +kernel
theorem dl_941 : decode code 941 = .ok (.iadd, 1) := by decide +kernel
theorem dl_942 : decode code 942 = .ok (.iaload, 1) := by decide +kernel
theorem dl_943 : decode code 943 = .ok (.invokevirtual 126, 3) := by decide +kernel
theorem dl_946 : decode code 946 = .ok (.if_icmp .eq 51, 3) := by decide +kernel
theorem dl_949 : decode code 949 = .ok (.iconst 0, 1) := by decide +kernel
theorem dl_950 : decode code 950 = .ok (.ireturn, 1) := by decide +kernel
theorem dl_951 : decode code 951 = .ok (.aload_n 1, 1) := by decide +kernel
theorem dl_952 : decode code 952 = .ok (.aload_n 0, 1) := by decide +kernel
theorem dl_953 : decode code 953 = .ok (.iload_n 3, 1) := by decide +kernel
theorem dl_954 : decode code 954 = .ok (.iconst 1, 1) := by decide +kernel
theorem dl_955 : decode code 955 = .ok (.iadd, 1) := by decide +kernel
theorem dl_956 : decode code 956 = .ok (.iaload, 1) := by decide +kernel
theorem dl_957 : decode code 957 = .ok (.invokevirtual 127, 3) := by decide +kernel
theorem dl_960 : decode code 960 = .ok (.aload_n 2, 1) := by decide +kernel
theorem dl_961 : decode code 961 = .ok (.aload_n 0, 1) := by decide +kernel
theorem dl_962 : decode code 962 = .ok (.iload_n 3, 1) := by decide +kernel
theorem dl_963 : decode code 963 = .ok (.iconst 1, 1) := by decide +kernel
theorem dl_964 : decode code 964 = .ok (.iadd, 1) := by decide +kernel
theorem dl_965 : decode code 965 = .ok (.iaload, 1) := by decide +kernel
theorem dl_966 : decode code 966 = .ok (.invokevirtual 130, 3) := by decide +kernel
theorem dl_969 : decode code 969 = .ok (.if_icmp .eq 28, 3) := by decide +kernel
theorem dl_972 : decode code 972 = .ok (.iconst 0, 1) := by decide +kernel
theorem dl_973 : decode code 973 = .ok (.ireturn, 1) := by decide +kernel
theorem dl_974 : decode code 974 = .ok (.aload_n 1, 1) := by decide +kernel
theorem dl_975 : decode code 975 = .ok (.aload_n 0, 1) := by decide +kernel
theorem dl_976 : decode code 976 = .ok (.iload_n 3, 1) := by decide +kernel
theorem dl_977 : decode code 977 = .ok (.iconst 1, 1) := by decide +kernel
theorem dl_978 : decode code 978 = .ok (.iadd, 1) := by decide +kernel
theorem dl_979 : decode code 979 = .ok (.iaload, 1) := by decide +kernel
theorem dl_980 : decode code 980 = .ok (.invokevirtual 131, 3) := by decide +kernel
theorem dl_983 : decode code 983 = .ok (.aload_n 2, 1) := by decide +kernel
theorem dl_984 : decode code 984 = .ok (.aload_n 0, 1) := by decide +kernel
theorem dl_985 : decode code 985 = .ok (.iload_n 3, 1) := by decide +kernel
theorem dl_986 : decode code 986 = .ok (.iconst 1, 1) := by decide +kernel
theorem dl_987 : decode code 987 = .ok (.iadd, 1) := by decide +kernel
theorem dl_988 : decode code 988 = .ok (.iaload, 1) := by decide +kernel
theorem dl_989 : decode code 989 = .ok (.invokevirtual 134, 3) := by decide +kernel
theorem dl_992 : decode code 992 = .ok (.if_icmp .eq 5, 3) := by decide +kernel
theorem dl_995 : decode code 995 = .ok (.iconst 0, 1) := by decide +kernel
theorem dl_996 : decode code 996 = .ok (.ireturn, 1) := by decide +kernel
theorem dl_997 : decode code 997 = .ok (.iinc 3 6, 3) := by decide +kernel
theorem dl_1000 : decode code 1000 = .ok (.goto (-982), 3) := by decide +kernel
theorem dl_1003 : decode code 1003 = .ok (.iconst 1, 1) := by decide +kernel
theorem dl_1004 : decode code 1004 = .ok (.ireturn, 1) := by decide +kernel
