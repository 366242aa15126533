theorem d_lw_16 : decode code 16 = .ok (.iconst 0, 1) := by decide +kernel
theorem d_lw_17 : decode code 17 = .ok (.istore_n 3, 1) := by decide +kernel
theorem d_lw_18 : decode code 18 = .ok (.iload_n 3, 1) := by decide +kernel
theorem d_lw_19 : decode code 19 = .ok (.aload_n 0, 1) := by decide +kernel
theorem d_lw_20 : decode code 20 = .ok (.arraylength, 1) := by decide +kernel
theorem d_lw_21 : decode code 21 = .ok (.bipush 6, 2) := by decide +kernel
theorem d_lw_23 : decode code 23 = .ok (.isub, 1) := by decide +kernel
theorem d_lw_24 : decode code 24 = .ok (.if_icmp .gt 1171, 3) := by decide +kernel
theorem d_lw_27 : decode code 27 = .ok (.aload_n 0, 1) := by decide +kernel
theorem d_lw_28 : decode code 28 = .ok (.iload_n 3, 1) := by decide +kernel
theorem d_lw_29 : decode code 29 = .ok (.iaload, 1) := by decide +kernel
theorem d_lw_30 : decode code 30 = .ok (.bipush 63, 2) := by decide +kernel
theorem d_lw_32 : decode code 32 = .ok (.iand, 1) := by decide +kernel
theorem d_lw_33 : decode code 33 = .ok (.tableswitch 1156 0 36 #[163, 226, 249, 262, 275, 298, 347, 380, 429, 442, 475, 488, 521, 554, 597, 630, 653, 676, 689, 702, 725, 758, 801, 844, 857, 880, 903, 926, 949, 962, 975, 998, 1011, 1054, 1087, 1110, 1133], 163) := by decide +kernel
theorem d_lw_196 : decode code 196 = .ok (.aload_n 1, 1) := by decide +kernel
theorem d_lw_197 : decode code 197 = .ok (.aload_n 0, 1) := by decide +kernel
theorem d_lw_198 : decode code 198 = .ok (.iload_n 3, 1) := by decide +kernel
theorem d_lw_199 : decode code 199 = .ok (.iconst 1, 1) := by decide +kernel
theorem d_lw_200 : decode code 200 = .ok (.iadd, 1) := by decide +kernel
theorem d_lw_201 : decode code 201 = .ok (.iaload, 1) := by decide +kernel
theorem d_lw_202 : decode code 202 = .ok (.aload_n 0, 1) := by decide +kernel
theorem d_lw_203 : decode code 203 = .ok (.iload_n 3, 1) := by decide +kernel
theorem d_lw_204 : decode code 204 = .ok (.iconst 2, 1) := by decide +kernel
theorem d_lw_205 : decode code 205 = .ok (.iadd, 1) := by decide +kernel
theorem d_lw_206 : decode code 206 = .ok (.iaload, 1) := by decide +kernel
theorem d_lw_207 : decode code 207 = .ok (.aload_n 0, 1) := by decide +kernel
theorem d_lw_208 : decode code 208 = .ok (.iload_n 3, 1) := by decide +kernel
theorem d_lw_209 : decode code 209 = .ok (.iconst 3, 1) := by decide +kernel
theorem d_lw_210 : decode code 210 = .ok (.iadd, 1) := by decide +kernel
theorem d_lw_211 : decode code 211 = .ok (.iaload, 1) := by decide +kernel
theorem d_lw_212 : decode code 212 = .ok (.aload_n 0, 1) := by decide +kernel
theorem d_lw_213 : decode code 213 = .ok (.iload_n 3, 1) := by decide +kernel
theorem d_lw_214 : decode code 214 = .ok (.iconst 4, 1) := by decide +kernel
theorem d_lw_215 : decode code 215 = .ok (.iadd, 1) := by decide +kernel
theorem d_lw_216 : decode code 216 = .ok (.iaload, 1) := by decide +kernel
theorem d_lw_217 : decode code 217 = .ok (.aload_n 0, 1) := by decide +kernel
theorem d_lw_218 : decode code 218 = .ok (.iload_n 3, 1) := by decide +kernel
theorem d_lw_219 : decode code 219 = .ok (.iconst 5, 1) := by decide +kernel
theorem d_lw_220 : decode code 220 = .ok (.iadd, 1) := by decide +kernel
theorem d_lw_221 : decode code 221 = .ok (.iaload, 1) := by decide +kernel
theorem d_lw_222 : decode code 222 = .ok (.invokevirtual 13, 3) := by decide +kernel
theorem d_lw_225 : decode code 225 = .ok (.aload_n 2, 1) := by decide +kernel
theorem d_lw_226 : decode code 226 = .ok (.aload_n 0, 1) := by decide +kernel
theorem d_lw_227 : decode code 227 = .ok (.iload_n 3, 1) := by decide +kernel
theorem d_lw_228 : decode code 228 = .ok (.iconst 1, 1) := by decide +kernel
theorem d_lw_229 : decode code 229 = .ok (.iadd, 1) := by decide +kernel
theorem d_lw_230 : decode code 230 = .ok (.iaload, 1) := by decide +kernel
theorem d_lw_231 : decode code 231 = .ok (.aload_n 0, 1) := by decide +kernel
theorem d_lw_232 : decode code 232 = .ok (.iload_n 3, 1) := by decide +kernel
theorem d_lw_233 : decode code 233 = .ok (.iconst 2, 1) := by decide +kernel
theorem d_lw_234 : decode code 234 = .ok (.iadd, 1) := by decide +kernel
theorem d_lw_235 : decode code 235 = .ok (.iaload, 1) := by decide +kernel
theorem d_lw_236 : decode code 236 = .ok (.aload_n 0, 1) := by decide +kernel
theorem d_lw_237 : decode code 237 = .ok (.iload_n 3, 1) := by decide +kernel
theorem d_lw_238 : decode code 238 = .ok (.iconst 3, 1) := by decide +kernel
theorem d_lw_239 : decode code 239 = .ok (.iadd, 1) := by decide +kernel
theorem d_lw_240 : decode code 240 = .ok (.iaload, 1) := by decide +kernel
theorem d_lw_241 : decode code 241 = .ok (.aload_n 0, 1) := by decide +kernel
theorem d_lw_242 : decode code 242 = .ok (.iload_n 3, 1) := by decide +kernel
theorem d_lw_243 : decode code 243 = .ok (.iconst 4, 1) := by decide +kernel
theorem d_lw_244 : decode code 244 = .ok (.iadd, 1) := by decide +kernel
theorem d_lw_245 : decode code 245 = .ok (.iaload, 1) := by decide +kernel
theorem d_lw_246 : decode code 246 = .ok (.aload_n 0, 1) := by decide +kernel
theorem d_lw_247 : decode code 247 = .ok (.iload_n 3, 1) := by decide +kernel
theorem d_lw_248 : decode code 248 = .ok (.iconst 5, 1) := by decide +kernel
theorem d_lw_249 : decode code 249 = .ok (.iadd, 1) := by decide +kernel
theorem d_lw_250 : decode code 250 = .ok (.iaload, 1) := by decide +kernel
theorem d_lw_251 : decode code 251 = .ok (.invokevirtual 17, 3) := by decide +kernel
theorem d_lw_254 : decode code 254 = .ok (.if_icmp .eq 935, 3) := by decide +kernel
theorem d_lw_257 : decode code 257 = .ok (.iconst 0, 1) := by decide +kernel
theorem d_lw_258 : decode code 258 = .ok (.ireturn, 1) := by decide +kernel
theorem d_lw_259 : decode code 259 = .ok (.aload_n 1, 1) := by decide +kernel
theorem d_lw_260 : decode code 260 = .ok (.aload_n 0, 1) := by decide +kernel
theorem d_lw_261 : decode code 261 = .ok (.iload_n 3, 1) := by decide +kernel
theorem d_lw_262 : decode code 262 = .ok (.iconst 1, 1) := by decide +kernel
theorem d_lw_263 : decode code 263 = .ok (.iadd, 1) := by decide +kernel
theorem d_lw_264 : decode code 264 = .ok (.iaload, 1) := by decide +kernel
theorem d_lw_265 : decode code 265 = .ok (.invokevirtual 18, 3) := by decide +kernel
theorem d_lw_268 : decode code 268 = .ok (.aload_n 2, 1) := by decide +kernel
theorem d_lw_269 : decode code 269 = .ok (.aload_n 0, 1) := by decide +kernel
theorem d_lw_270 : decode code 270 = .ok (.iload_n 3, 1) := by decide +kernel
theorem d_lw_271 : decode code 271 = .ok (.iconst 1, 1) := by decide +kernel
theorem d_lw_272 : decode code 272 = .ok (.iadd, 1) := by decide +kernel
theorem d_lw_273 : decode code 273 = .ok (.iaload, 1) := by decide +kernel
theorem d_lw_274 : decode code 274 = .ok (.invokevirtual 22, 3) := by decide +kernel
theorem d_lw_277 : decode code 277 = .ok (.if_icmp .eq 912, 3) := by decide +kernel
theorem d_lw_280 : decode code 280 = .ok (.iconst 0, 1) := by decide +kernel
theorem d_lw_281 : decode code 281 = .ok (.ireturn, 1) := by decide +kernel
theorem d_lw_282 : decode code 282 = .ok (.aload_n 1, 1) := by decide +kernel
theorem d_lw_283 : decode code 283 = .ok (.invokevirtual 23, 3) := by decide +kernel
theorem d_lw_286 : decode code 286 = .ok (.aload_n 2, 1) := by decide +kernel
theorem d_lw_287 : decode code 287 = .ok (.invokevirtual 27, 3) := by decide +kernel
theorem d_lw_290 : decode code 290 = .ok (.if_icmp .eq 899, 3) := by decide +kernel
theorem d_lw_293 : decode code 293 = .ok (.iconst 0, 1) := by decide +kernel
theorem d_lw_294 : decode code 294 = .ok (.ireturn, 1) := by decide +kernel
theorem d_lw_295 : decode code 295 = .ok (.aload_n 1, 1) := by decide +kernel
theorem d_lw_296 : decode code 296 = .ok (.invokevirtual 28, 3) := by decide +kernel
theorem d_lw_299 : decode code 299 = .ok (.aload_n 2, 1) := by decide +kernel
theorem d_lw_300 : decode code 300 = .ok (.invokevirtual 31, 3) := by decide +kernel
theorem d_lw_303 : decode code 303 = .ok (.if_icmp .eq 886, 3) := by decide +kernel
theorem d_lw_306 : decode code 306 = .ok (.iconst 0, 1) := by decide +kernel
theorem d_lw_307 : decode code 307 = .ok (.ireturn, 1) := by decide +kernel
theorem d_lw_308 : decode code 308 = .ok (.aload_n 1, 1) := by decide +kernel
theorem d_lw_309 : decode code 309 = .ok (.aload_n 0, 1) := by decide +kernel
theorem d_lw_310 : decode code 310 = .ok (.iload_n 3, 1) := by decide +kernel
theorem d_lw_311 : decode code 311 = .ok (.iconst 1, 1) := by decide +kernel
theorem d_lw_312 : decode code 312 = .ok (.iadd, 1) := by decide +kernel
theorem d_lw_313 : decode code 313 = .ok (.iaload, 1) := by decide +kernel
theorem d_lw_314 : decode code 314 = .ok (.invokevirtual 32, 3) := by decide +kernel
theorem d_lw_317 : decode code 317 = .ok (.aload_n 2, 1) := by decide +kernel
theorem d_lw_318 : decode code 318 = .ok (.aload_n 0, 1) := by decide +kernel
theorem d_lw_319 : decode code 319 = .ok (.iload_n 3, 1) := by decide +kernel
theorem d_lw_320 : decode code 320 = .ok (.iconst 1, 1) := by decide +kernel
theorem d_lw_321 : decode code 321 = .ok (.iadd, 1) := by decide +kernel
theorem d_lw_322 : decode code 322 = .ok (.iaload, 1) := by decide +kernel
theorem d_lw_323 : decode code 323 = .ok (.invokevirtual 35, 3) := by decide +kernel
theorem d_lw_326 : decode code 326 = .ok (.if_icmp .eq 863, 3) := by decide +kernel
theorem d_lw_329 : decode code 329 = .ok (.iconst 0, 1) := by decide +kernel
theorem d_lw_330 : decode code 330 = .ok (.ireturn, 1) := by decide +kernel
theorem d_lw_331 : decode code 331 = .ok (.aload_n 1, 1) := by decide +kernel
theorem d_lw_332 : decode code 332 = .ok (.aload_n 0, 1) := by decide +kernel
theorem d_lw_333 : decode code 333 = .ok (.iload_n 3, 1) := by decide +kernel
theorem d_lw_334 : decode code 334 = .ok (.iconst 1, 1) := by decide +kernel
theorem d_lw_335 : decode code 335 = .ok (.iadd, 1) := by decide +kernel
theorem d_lw_336 : decode code 336 = .ok (.iaload, 1) := by decide +kernel
theorem d_lw_337 : decode code 337 = .ok (.aload_n 0, 1) := by decide +kernel
theorem d_lw_338 : decode code 338 = .ok (.iload_n 3, 1) := by decide +kernel
theorem d_lw_339 : decode code 339 = .ok (.iconst 2, 1) := by decide +kernel
theorem d_lw_340 : decode code 340 = .ok (.iadd, 1) := by decide +kernel
theorem d_lw_341 : decode code 341 = .ok (.iaload, 1) := by decide +kernel
theorem d_lw_342 : decode code 342 = .ok (.ifCond .eq 7, 3) := by decide +kernel
theorem d_lw_345 : decode code 345 = .ok (.iconst 1, 1) := by decide +kernel
theorem d_lw_346 : decode code 346 = .ok (.goto 4, 3) := by decide +kernel
theorem d_lw_349 : decode code 349 = .ok (.iconst 0, 1) := by decide +kernel
theorem d_lw_350 : decode code 350 = .ok (.invokevirtual 36, 3) := by decide +kernel
theorem d_lw_353 : decode code 353 = .ok (.aload_n 2, 1) := by decide +kernel
theorem d_lw_354 : decode code 354 = .ok (.aload_n 0, 1) := by decide +kernel
theorem d_lw_355 : decode code 355 = .ok (.iload_n 3, 1) := by decide +kernel
theorem d_lw_356 : decode code 356 = .ok (.iconst 1, 1) := by decide +kernel
theorem d_lw_357 : decode code 357 = .ok (.iadd, 1) := by decide +kernel
theorem d_lw_358 : decode code 358 = .ok (.iaload, 1) := by decide +kernel
theorem d_lw_359 : decode code 359 = .ok (.aload_n 0, 1) := by decide +kernel
theorem d_lw_360 : decode code 360 = .ok (.iload_n 3, 1) := by decide +kernel
theorem d_lw_361 : decode code 361 = .ok (.iconst 2, 1) := by decide +kernel
theorem d_lw_362 : decode code 362 = .ok (.iadd, 1) := by decide +kernel
theorem d_lw_363 : decode code 363 = .ok (.iaload, 1) := by decide +kernel
theorem d_lw_364 : decode code 364 = .ok (.ifCond .eq 7, 3) := by decide +kernel
theorem d_lw_367 : decode code 367 = .ok (.iconst 1, 1) := by decide +kernel
theorem d_lw_368 : decode code 368 = .ok (.goto 4, 3) := by decide +kernel
theorem d_lw_371 : decode code 371 = .ok (.iconst 0, 1) := by decide +kernel
theorem d_lw_372 : decode code 372 = .ok (.invokevirtual 40, 3) := by decide +kernel
theorem d_lw_375 : decode code 375 = .ok (.if_icmp .eq 814, 3) := by decide +kernel
theorem d_lw_378 : decode code 378 = .ok (.iconst 0, 1) := by decide +kernel
theorem d_lw_379 : decode code 379 = .ok (.ireturn, 1) := by decide +kernel
theorem d_lw_380 : decode code 380 = .ok (.aload_n 1, 1) := by decide +kernel
theorem d_lw_381 : decode code 381 = .ok (.aload_n 0, 1) := by decide +kernel
theorem d_lw_382 : decode code 382 = .ok (.iload_n 3, 1) := by decide +kernel
theorem d_lw_383 : decode code 383 = .ok (.iconst 1, 1) := by decide +kernel
theorem d_lw_384 : decode code 384 = .ok (.iadd, 1) := by decide +kernel
theorem d_lw_385 : decode code 385 = .ok (.iaload, 1) := by decide +kernel
theorem d_lw_386 : decode code 386 = .ok (.aload_n 0, 1) := by decide +kernel
theorem d_lw_387 : decode code 387 = .ok (.iload_n 3, 1) := by decide +kernel
theorem d_lw_388 : decode code 388 = .ok (.iconst 2, 1) := by decide +kernel
theorem d_lw_389 : decode code 389 = .ok (.iadd, 1) := by decide +kernel
theorem d_lw_390 : decode code 390 = .ok (.iaload, 1) := by decide +kernel
theorem d_lw_391 : decode code 391 = .ok (.invokevirtual 41, 3) := by decide +kernel
theorem d_lw_394 : decode code 394 = .ok (.aload_n 2, 1) := by decide +kernel
theorem d_lw_395 : decode code 395 = .ok (.aload_n 0, 1) := by decide +kernel
theorem d_lw_396 : decode code 396 = .ok (.iload_n 3, 1) := by decide +kernel
theorem d_lw_397 : decode code 397 = .ok (.iconst 1, 1) := by decide +kernel
theorem d_lw_398 : decode code 398 = .ok (.iadd, 1) := by decide +kernel
theorem d_lw_399 : decode code 399 = .ok (.iaload, 1) := by decide +kernel
theorem d_lw_400 : decode code 400 = .ok (.aload_n 0, 1) := by decide +kernel
theorem d_lw_401 : decode code 401 = .ok (.iload_n 3, 1) := by decide +kernel
theorem d_lw_402 : decode code 402 = .ok (.iconst 2, 1) := by decide +kernel
theorem d_lw_403 : decode code 403 = .ok (.iadd, 1) := by decide +kernel
theorem d_lw_404 : decode code 404 = .ok (.iaload, 1) := by decide +kernel
theorem d_lw_405 : decode code 405 = .ok (.invokevirtual 45, 3) := by decide +kernel
theorem d_lw_408 : decode code 408 = .ok (.if_icmp .eq 781, 3) := by decide +kernel
theorem d_lw_411 : decode code 411 = .ok (.iconst 0, 1) := by decide +kernel
theorem d_lw_412 : decode code 412 = .ok (.ireturn, 1) := by decide +kernel
theorem d_lw_413 : decode code 413 = .ok (.aload_n 1, 1) := by decide +kernel
theorem d_lw_414 : decode code 414 = .ok (.aload_n 0, 1) := by decide +kernel
theorem d_lw_415 : decode code 415 = .ok (.iload_n 3, 1) := by decide +kernel
theorem d_lw_416 : decode code 416 = .ok (.iconst 1, 1) := by decide +kernel
theorem d_lw_417 : decode code 417 = .ok (.iadd, 1) := by decide +kernel
theorem d_lw_418 : decode code 418 = .ok (.iaload, 1) := by decide +kernel
theorem d_lw_419 : decode code 419 = .ok (.aload_n 0, 1) := by decide +kernel
theorem d_lw_420 : decode code 420 = .ok (.iload_n 3, 1) := by decide +kernel
theorem d_lw_421 : decode code 421 = .ok (.iconst 2, 1) := by decide +kernel
theorem d_lw_422 : decode code 422 = .ok (.iadd, 1) := by decide +kernel
theorem d_lw_423 : decode code 423 = .ok (.iaload, 1) := by decide +kernel
theorem d_lw_424 : decode code 424 = .ok (.ifCond .eq 7, 3) := by decide +kernel
theorem d_lw_427 : decode code 427 = .ok (.iconst 1, 1) := by decide +kernel
theorem d_lw_428 : decode code 428 = .ok (.goto 4, 3) := by decide +kernel
theorem d_lw_431 : decode code 431 = .ok (.iconst 0, 1) := by decide +kernel
theorem d_lw_432 : decode code 432 = .ok (.invokevirtual 46, 3) := by decide +kernel
theorem d_lw_435 : decode code 435 = .ok (.aload_n 2, 1) := by decide +kernel
theorem d_lw_436 : decode code 436 = .ok (.aload_n 0, 1) := by decide +kernel
theorem d_lw_437 : decode code 437 = .ok (.iload_n 3, 1) := by decide +kernel
theorem d_lw_438 : decode code 438 = .ok (.iconst 1, 1) := by decide +kernel
theorem d_lw_439 : decode code 439 = .ok (.iadd, 1) := by decide +kernel
theorem d_lw_440 : decode code 440 = .ok (.iaload, 1) := by decide +kernel
theorem d_lw_441 : decode code 441 = .ok (.aload_n 0, 1) := by decide +kernel
theorem d_lw_442 : decode code 442 = .ok (.iload_n 3, 1) := by decide +kernel
theorem d_lw_443 : decode code 443 = .ok (.iconst 2, 1) := by decide +kernel
theorem d_lw_444 : decode code 444 = .ok (.iadd, 1) := by decide +kernel
theorem d_lw_445 : decode code 445 = .ok (.iaload, 1) := by decide +kernel
theorem d_lw_446 : decode code 446 = .ok (.ifCond .eq 7, 3) := by decide +kernel
theorem d_lw_449 : decode code 449 = .ok (.iconst 1, 1) := by decide +kernel
theorem d_lw_450 : decode code 450 = .ok (.goto 4, 3) := by decide +kernel
theorem d_lw_453 : decode code 453 = .ok (.iconst 0, 1) := by decide +kernel
theorem d_lw_454 : decode code 454 = .ok (.invokevirtual 49, 3) := by decide +kernel
theorem d_lw_457 : decode code 457 = .ok (.if_icmp .eq 732, 3) := by decide +kernel
theorem d_lw_460 : decode code 460 = .ok (.iconst 0, 1) := by decide +kernel
theorem d_lw_461 : decode code 461 = .ok (.ireturn, 1) := by decide +kernel
theorem d_lw_462 : decode code 462 = .ok (.aload_n 1, 1) := by decide +kernel
theorem d_lw_463 : decode code 463 = .ok (.invokevirtual 50, 3) := by decide +kernel
theorem d_lw_466 : decode code 466 = .ok (.aload_n 2, 1) := by decide +kernel
theorem d_lw_467 : decode code 467 = .ok (.invokevirtual 53, 3) := by decide +kernel
theorem d_lw_470 : decode code 470 = .ok (.if_icmp .eq 719, 3) := by decide +kernel
theorem d_lw_473 : decode code 473 = .ok (.iconst 0, 1) := by decide +kernel
theorem d_lw_474 : decode code 474 = .ok (.ireturn, 1) := by decide +kernel
theorem d_lw_475 : decode code 475 = .ok (.aload_n 1, 1) := by decide +kernel
theorem d_lw_476 : decode code 476 = .ok (.aload_n 0, 1) := by decide +kernel
theorem d_lw_477 : decode code 477 = .ok (.iload_n 3, 1) := by decide +kernel
theorem d_lw_478 : decode code 478 = .ok (.iconst 1, 1) := by decide +kernel
theorem d_lw_479 : decode code 479 = .ok (.iadd, 1) := by decide +kernel
theorem d_lw_480 : decode code 480 = .ok (.iaload, 1) := by decide +kernel
theorem d_lw_481 : decode code 481 = .ok (.aload_n 0, 1) := by decide +kernel
theorem d_lw_482 : decode code 482 = .ok (.iload_n 3, 1) := by decide +kernel
theorem d_lw_483 : decode code 483 = .ok (.iconst 2, 1) := by decide +kernel
theorem d_lw_484 : decode code 484 = .ok (.iadd, 1) := by decide +kernel
theorem d_lw_485 : decode code 485 = .ok (.iaload, 1) := by decide +kernel
theorem d_lw_486 : decode code 486 = .ok (.invokevirtual 54, 3) := by decide +kernel
theorem d_lw_489 : decode code 489 = .ok (.aload_n 2, 1) := by decide +kernel
theorem d_lw_490 : decode code 490 = .ok (.aload_n 0, 1) := by decide +kernel
theorem d_lw_491 : decode code 491 = .ok (.iload_n 3, 1) := by decide +kernel
theorem d_lw_492 : decode code 492 = .ok (.iconst 1, 1) := by decide +kernel
theorem d_lw_493 : decode code 493 = .ok (.iadd, 1) := by decide +kernel
theorem d_lw_494 : decode code 494 = .ok (.iaload, 1) := by decide +kernel
theorem d_lw_495 : decode code 495 = .ok (.aload_n 0, 1) := by decide +kernel
theorem d_lw_496 : decode code 496 = .ok (.iload_n 3, 1) := by decide +kernel
theorem d_lw_497 : decode code 497 = .ok (.iconst 2, 1) := by decide +kernel
theorem d_lw_498 : decode code 498 = .ok (.iadd, 1) := by decide +kernel
theorem d_lw_499 : decode code 499 = .ok (.iaload, 1) := by decide +kernel
theorem d_lw_500 : decode code 500 = .ok (.invokevirtual 58, 3) := by decide +kernel
theorem d_lw_503 : decode code 503 = .ok (.if_icmp .eq 686, 3) := by decide +kernel
theorem d_lw_506 : decode code 506 = .ok (.iconst 0, 1) := by decide +kernel
theorem d_lw_507 : decode code 507 = .ok (.ireturn, 1) := by decide +kernel
theorem d_lw_508 : decode code 508 = .ok (.aload_n 1, 1) := by decide +kernel
theorem d_lw_509 : decode code 509 = .ok (.invokevirtual 59, 3) := by decide +kernel
theorem d_lw_512 : decode code 512 = .ok (.aload_n 2, 1) := by decide +kernel
theorem d_lw_513 : decode code 513 = .ok (.invokevirtual 63, 3) := by decide +kernel
theorem d_lw_516 : decode code 516 = .ok (.if_icmp .eq 673, 3) := by decide +kernel
theorem d_lw_519 : decode code 519 = .ok (.iconst 0, 1) := by decide +kernel
theorem d_lw_520 : decode code 520 = .ok (.ireturn, 1) := by decide +kernel
theorem d_lw_521 : decode code 521 = .ok (.aload_n 1, 1) := by decide +kernel
theorem d_lw_522 : decode code 522 = .ok (.aload_n 0, 1) := by decide +kernel
theorem d_lw_523 : decode code 523 = .ok (.iload_n 3, 1) := by decide +kernel
theorem d_lw_524 : decode code 524 = .ok (.iconst 1, 1) := by decide +kernel
theorem d_lw_525 : decode code 525 = .ok (.iadd, 1) := by decide +kernel
theorem d_lw_526 : decode code 526 = .ok (.iaload, 1) := by decide +kernel
theorem d_lw_527 : decode code 527 = .ok (.aload_n 0, 1) := by decide +kernel
theorem d_lw_528 : decode code 528 = .ok (.iload_n 3, 1) := by decide +kernel
theorem d_lw_529 : decode code 529 = .ok (.iconst 2, 1) := by decide +kernel
theorem d_lw_530 : decode code 530 = .ok (.iadd, 1) := by decide +kernel
theorem d_lw_531 : decode code 531 = .ok (.iaload, 1) := by decide +kernel
theorem d_lw_532 : decode code 532 = .ok (.invokevirtual 64, 3) := by decide +kernel
theorem d_lw_535 : decode code 535 = .ok (.aload_n 2, 1) := by decide +kernel
theorem d_lw_536 : decode code 536 = .ok (.aload_n 0, 1) := by decide +kernel
theorem d_lw_537 : decode code 537 = .ok (.iload_n 3, 1) := by decide +kernel
theorem d_lw_538 : decode code 538 = .ok (.iconst 1, 1) := by decide +kernel
theorem d_lw_539 : decode code 539 = .ok (.iadd, 1) := by decide +kernel
theorem d_lw_540 : decode code 540 = .ok (.iaload, 1) := by decide +kernel
theorem d_lw_541 : decode code 541 = .ok (.aload_n 0, 1) := by decide +kernel
theorem d_lw_542 : decode code 542 = .ok (.iload_n 3, 1) := by decide +kernel
theorem d_lw_543 : decode code 543 = .ok (.iconst 2, 1) := by decide +kernel
theorem d_lw_544 : decode code 544 = .ok (.iadd, 1) := by decide +kernel
theorem d_lw_545 : decode code 545 = .ok (.iaload, 1) := by decide +kernel
theorem d_lw_546 : decode code 546 = .ok (.invokevirtual 67, 3) := by decide +kernel
theorem d_lw_549 : decode code 549 = .ok (.if_icmp .eq 640, 3) := by decide +kernel
theorem d_lw_552 : decode code 552 = .ok (.iconst 0, 1) := by decide +kernel
theorem d_lw_553 : decode code 553 = .ok (.ireturn, 1) := by decide +kernel
theorem d_lw_554 : decode code 554 = .ok (.aload_n 1, 1) := by decide +kernel
theorem d_lw_555 : decode code 555 = .ok (.aload_n 0, 1) := by decide +kernel
theorem d_lw_556 : decode code 556 = .ok (.iload_n 3, 1) := by decide +kernel
theorem d_lw_557 : decode code 557 = .ok (.iconst 1, 1) := by decide +kernel
theorem d_lw_558 : decode code 558 = .ok (.iadd, 1) := by decide +kernel
theorem d_lw_559 : decode code 559 = .ok (.iaload, 1) := by decide +kernel
theorem d_lw_560 : decode code 560 = .ok (.aload_n 0, 1) := by decide +kernel
theorem d_lw_561 : decode code 561 = .ok (.iload_n 3, 1) := by decide +kernel
theorem d_lw_562 : decode code 562 = .ok (.iconst 2, 1) := by decide +kernel
theorem d_lw_563 : decode code 563 = .ok (.iadd, 1) := by decide +kernel
theorem d_lw_564 : decode code 564 = .ok (.iaload, 1) := by decide +kernel
theorem d_lw_565 : decode code 565 = .ok (.invokevirtual 68, 3) := by decide +kernel
theorem d_lw_568 : decode code 568 = .ok (.aload_n 2, 1) := by decide +kernel
theorem d_lw_569 : decode code 569 = .ok (.aload_n 0, 1) := by decide +kernel
theorem d_lw_570 : decode code 570 = .ok (.iload_n 3, 1) := by decide +kernel
theorem d_lw_571 : decode code 571 = .ok (.iconst 1, 1) := by decide +kernel
theorem d_lw_572 : decode code 572 = .ok (.iadd, 1) := by decide +kernel
theorem d_lw_573 : decode code 573 = .ok (.iaload, 1) := by decide +kernel
theorem d_lw_574 : decode code 574 = .ok (.aload_n 0, 1) := by decide +kernel
theorem d_lw_575 : decode code 575 = .ok (.iload_n 3, 1) := by decide +kernel
theorem d_lw_576 : decode code 576 = .ok (.iconst 2, 1) := by decide +kernel
theorem d_lw_577 : decode code 577 = .ok (.iadd, 1) := by decide +kernel
theorem d_lw_578 : decode code 578 = .ok (.iaload, 1) := by decide +kernel
theorem d_lw_579 : decode code 579 = .ok (.invokevirtual 71, 3) := by decide +kernel
theorem d_lw_582 : decode code 582 = .ok (.if_icmp .eq 607, 3) := by decide +kernel
theorem d_lw_585 : decode code 585 = .ok (.iconst 0, 1) := by decide +kernel
theorem d_lw_586 : decode code 586 = .ok (.ireturn, 1) := by decide +kernel
theorem d_lw_587 : decode code 587 = .ok (.aload_n 1, 1) := by decide +kernel
theorem d_lw_588 : decode code 588 = .ok (.aload_n 0, 1) := by decide +kernel
theorem d_lw_589 : decode code 589 = .ok (.iload_n 3, 1) := by decide +kernel
theorem d_lw_590 : decode code 590 = .ok (.iconst 1, 1) := by decide +kernel
theorem d_lw_591 : decode code 591 = .ok (.iadd, 1) := by decide +kernel
theorem d_lw_592 : decode code 592 = .ok (.iaload, 1) := by decide +kernel
theorem d_lw_593 : decode code 593 = .ok (.aload_n 0, 1) := by decide +kernel
theorem d_lw_594 : decode code 594 = .ok (.iload_n 3, 1) := by decide +kernel
theorem d_lw_595 : decode code 595 = .ok (.iconst 2, 1) := by decide +kernel
theorem d_lw_596 : decode code 596 = .ok (.iadd, 1) := by decide +kernel
theorem d_lw_597 : decode code 597 = .ok (.iaload, 1) := by decide +kernel
theorem d_lw_598 : decode code 598 = .ok (.aload_n 0, 1) := by decide +kernel
theorem d_lw_599 : decode code 599 = .ok (.iload_n 3, 1) := by decide +kernel
theorem d_lw_600 : decode code 600 = .ok (.iconst 3, 1) := by decide +kernel
theorem d_lw_601 : decode code 601 = .ok (.iadd, 1) := by decide +kernel
theorem d_lw_602 : decode code 602 = .ok (.iaload, 1) := by decide +kernel
theorem d_lw_603 : decode code 603 = .ok (.invokevirtual 72, 3) := by decide +kernel
theorem d_lw_606 : decode code 606 = .ok (.aload_n 2, 1) := by decide +kernel
theorem d_lw_607 : decode code 607 = .ok (.aload_n 0, 1) := by decide +kernel
theorem d_lw_608 : decode code 608 = .ok (.iload_n 3, 1) := by decide +kernel
theorem d_lw_609 : decode code 609 = .ok (.iconst 1, 1) := by decide +kernel
theorem d_lw_610 : decode code 610 = .ok (.iadd, 1) := by decide +kernel
theorem d_lw_611 : decode code 611 = .ok (.iaload, 1) := by decide +kernel
theorem d_lw_612 : decode code 612 = .ok (.aload_n 0, 1) := by decide +kernel
theorem d_lw_613 : decode code 613 = .ok (.iload_n 3, 1) := by decide +kernel
theorem d_lw_614 : decode code 614 = .ok (.iconst 2, 1) := by decide +kernel
theorem d_lw_615 : decode code 615 = .ok (.iadd, 1) := by decide +kernel
theorem d_lw_616 : decode code 616 = .ok (.iaload, 1) := by decide +kernel
theorem d_lw_617 : decode code 617 = .ok (.aload_n 0, 1) := by decide +kernel
theorem d_lw_618 : decode code 618 = .ok (.iload_n 3, 1) := by decide +kernel
theorem d_lw_619 : decode code 619 = .ok (.iconst 3, 1) := by decide +kernel
theorem d_lw_620 : decode code 620 = .ok (.iadd, 1) := by decide +kernel
theorem d_lw_621 : decode code 621 = .ok (.iaload, 1) := by decide +kernel
theorem d_lw_622 : decode code 622 = .ok (.invokevirtual 76, 3) := by decide +kernel
theorem d_lw_625 : decode code 625 = .ok (.if_icmp .eq 564, 3) := by decide +kernel
theorem d_lw_628 : decode code 628 = .ok (.iconst 0, 1) := by decide +kernel
theorem d_lw_629 : decode code 629 = .ok (.ireturn, 1) := by decide +kernel
theorem d_lw_630 : decode code 630 = .ok (.aload_n 1, 1) := by decide +kernel
theorem d_lw_631 : decode code 631 = .ok (.aload_n 0, 1) := by decide +kernel
theorem d_lw_632 : decode code 632 = .ok (.iload_n 3, 1) := by decide +kernel
theorem d_lw_633 : decode code 633 = .ok (.iconst 1, 1) := by decide +kernel
theorem d_lw_634 : decode code 634 = .ok (.iadd, 1) := by decide +kernel
theorem d_lw_635 : decode code 635 = .ok (.iaload, 1) := by decide +kernel
theorem d_lw_636 : decode code 636 = .ok (.aload_n 0, 1) := by decide +kernel
theorem d_lw_637 : decode code 637 = .ok (.iload_n 3, 1) := by decide +kernel
theorem d_lw_638 : decode code 638 = .ok (.iconst 2, 1) := by decide +kernel
theorem d_lw_639 : decode code 639 = .ok (.iadd, 1) := by decide +kernel
theorem d_lw_640 : decode code 640 = .ok (.iaload, 1) := by decide +kernel
theorem d_lw_641 : decode code 641 = .ok (.invokevirtual 77, 3) := by decide +kernel
theorem d_lw_644 : decode code 644 = .ok (.aload_n 2, 1) := by decide +kernel
theorem d_lw_645 : decode code 645 = .ok (.aload_n 0, 1) := by decide +kernel
theorem d_lw_646 : decode code 646 = .ok (.iload_n 3, 1) := by decide +kernel
theorem d_lw_647 : decode code 647 = .ok (.iconst 1, 1) := by decide +kernel
theorem d_lw_648 : decode code 648 = .ok (.iadd, 1) := by decide +kernel
theorem d_lw_649 : decode code 649 = .ok (.iaload, 1) := by decide +kernel
theorem d_lw_650 : decode code 650 = .ok (.aload_n 0, 1) := by decide +kernel
theorem d_lw_651 : decode code 651 = .ok (.iload_n 3, 1) := by decide +kernel
theorem d_lw_652 : decode code 652 = .ok (.iconst 2, 1) := by decide +kernel
theorem d_lw_653 : decode code 653 = .ok (.iadd, 1) := by decide +kernel
theorem d_lw_654 : decode code 654 = .ok (.iaload, 1) := by decide +kernel
theorem d_lw_655 : decode code 655 = .ok (.invokevirtual 80, 3) := by decide +kernel
theorem d_lw_658 : decode code 658 = .ok (.if_icmp .eq 531, 3) := by decide +kernel
theorem d_lw_661 : decode code 661 = .ok (.iconst 0, 1) := by decide +kernel
theorem d_lw_662 : decode code 662 = .ok (.ireturn, 1) := by decide +kernel
theorem d_lw_663 : decode code 663 = .ok (.aload_n 1, 1) := by decide +kernel
theorem d_lw_664 : decode code 664 = .ok (.aload_n 0, 1) := by decide +kernel
theorem d_lw_665 : decode code 665 = .ok (.iload_n 3, 1) := by decide +kernel
theorem d_lw_666 : decode code 666 = .ok (.iconst 1, 1) := by decide +kernel
theorem d_lw_667 : decode code 667 = .ok (.iadd, 1) := by decide +kernel
theorem d_lw_668 : decode code 668 = .ok (.iaload, 1) := by decide +kernel
theorem d_lw_669 : decode code 669 = .ok (.invokevirtual 81, 3) := by decide +kernel
theorem d_lw_672 : decode code 672 = .ok (.aload_n 2, 1) := by decide +kernel
theorem d_lw_673 : decode code 673 = .ok (.aload_n 0, 1) := by decide +kernel
theorem d_lw_674 : decode code 674 = .ok (.iload_n 3, 1) := by decide +kernel
theorem d_lw_675 : decode code 675 = .ok (.iconst 1, 1) := by decide +kernel
theorem d_lw_676 : decode code 676 = .ok (.iadd, 1) := by decide +kernel
theorem d_lw_677 : decode code 677 = .ok (.iaload, 1) := by decide +kernel
theorem d_lw_678 : decode code 678 = .ok (.invokevirtual 84, 3) := by decide +kernel
theorem d_lw_681 : decode code 681 = .ok (.if_icmp .eq 508, 3) := by decide +kernel
theorem d_lw_684 : decode code 684 = .ok (.iconst 0, 1) := by decide +kernel
theorem d_lw_685 : decode code 685 = .ok (.ireturn, 1) := by decide +kernel
theorem d_lw_686 : decode code 686 = .ok (.aload_n 1, 1) := by decide +kernel
theorem d_lw_687 : decode code 687 = .ok (.aload_n 0, 1) := by decide +kernel
theorem d_lw_688 : decode code 688 = .ok (.iload_n 3, 1) := by decide +kernel
theorem d_lw_689 : decode code 689 = .ok (.iconst 1, 1) := by decide +kernel
theorem d_lw_690 : decode code 690 = .ok (.iadd, 1) := by decide +kernel
theorem d_lw_691 : decode code 691 = .ok (.iaload, 1) := by decide +kernel
theorem d_lw_692 : decode code 692 = .ok (.invokevirtual 85, 3) := by decide +kernel
theorem d_lw_695 : decode code 695 = .ok (.aload_n 2, 1) := by decide +kernel
theorem d_lw_696 : decode code 696 = .ok (.aload_n 0, 1) := by decide +kernel
theorem d_lw_697 : decode code 697 = .ok (.iload_n 3, 1) := by decide +kernel
theorem d_lw_698 : decode code 698 = .ok (.iconst 1, 1) := by decide +kernel
theorem d_lw_699 : decode code 699 = .ok (.iadd, 1) := by decide +kernel
theorem d_lw_700 : decode code 700 = .ok (.iaload, 1) := by decide +kernel
theorem d_lw_701 : decode code 701 = .ok (.invokevirtual 88, 3) := by decide +kernel
theorem d_lw_704 : decode code 704 = .ok (.if_icmp .eq 485, 3) := by decide +kernel
theorem d_lw_707 : decode code 707 = .ok (.iconst 0, 1) := by decide +kernel
theorem d_lw_708 : decode code 708 = .ok (.ireturn, 1) := by decide +kernel
theorem d_lw_709 : decode code 709 = .ok (.aload_n 1, 1) := by decide +kernel
theorem d_lw_710 : decode code 710 = .ok (.invokevirtual 89, 3) := by decide +kernel
theorem d_lw_713 : decode code 713 = .ok (.aload_n 2, 1) := by decide +kernel
theorem d_lw_714 : decode code 714 = .ok (.invokevirtual 92, 3) := by decide +kernel
theorem d_lw_717 : decode code 717 = .ok (.if_icmp .eq 472, 3) := by decide +kernel
theorem d_lw_720 : decode code 720 = .ok (.iconst 0, 1) := by decide +kernel
theorem d_lw_721 : decode code 721 = .ok (.ireturn, 1) := by decide +kernel
theorem d_lw_722 : decode code 722 = .ok (.aload_n 1, 1) := by decide +kernel
theorem d_lw_723 : decode code 723 = .ok (.invokevirtual 93, 3) := by decide +kernel
theorem d_lw_726 : decode code 726 = .ok (.aload_n 2, 1) := by decide +kernel
theorem d_lw_727 : decode code 727 = .ok (.invokevirtual 96, 3) := by decide +kernel
theorem d_lw_730 : decode code 730 = .ok (.if_icmp .eq 459, 3) := by decide +kernel
theorem d_lw_733 : decode code 733 = .ok (.iconst 0, 1) := by decide +kernel
theorem d_lw_734 : decode code 734 = .ok (.ireturn, 1) := by decide +kernel
theorem d_lw_735 : decode code 735 = .ok (.aload_n 1, 1) := by decide +kernel
theorem d_lw_736 : decode code 736 = .ok (.aload_n 0, 1) := by decide +kernel
theorem d_lw_737 : decode code 737 = .ok (.iload_n 3, 1) := by decide +kernel
theorem d_lw_738 : decode code 738 = .ok (.iconst 1, 1) := by decide +kernel
theorem d_lw_739 : decode code 739 = .ok (.iadd, 1) := by decide +kernel
theorem d_lw_740 : decode code 740 = .ok (.iaload, 1) := by decide +kernel
theorem d_lw_741 : decode code 741 = .ok (.invokevirtual 97, 3) := by decide +kernel
theorem d_lw_744 : decode code 744 = .ok (.aload_n 2, 1) := by decide +kernel
theorem d_lw_745 : decode code 745 = .ok (.aload_n 0, 1) := by decide +kernel
theorem d_lw_746 : decode code 746 = .ok (.iload_n 3, 1) := by decide +kernel
theorem d_lw_747 : decode code 747 = .ok (.iconst 1, 1) := by decide +kernel
theorem d_lw_748 : decode code 748 = .ok (.iadd, 1) := by decide +kernel
theorem d_lw_749 : decode code 749 = .ok (.iaload, 1) := by decide +kernel
theorem d_lw_750 : decode code 750 = .ok (.invokevirtual 100, 3) := by decide +kernel
theorem d_lw_753 : decode code 753 = .ok (.if_icmp .eq 436, 3) := by decide +kernel
theorem d_lw_756 : decode code 756 = .ok (.iconst 0, 1) := by decide +kernel
theorem d_lw_757 : decode code 757 = .ok (.ireturn, 1) := by decide +kernel
theorem d_lw_758 : decode code 758 = .ok (.aload_n 1, 1) := by decide +kernel
theorem d_lw_759 : decode code 759 = .ok (.aload_n 0, 1) := by decide +kernel
theorem d_lw_760 : decode code 760 = .ok (.iload_n 3, 1) := by decide +kernel
theorem d_lw_761 : decode code 761 = .ok (.iconst 1, 1) := by decide +kernel
theorem d_lw_762 : decode code 762 = .ok (.iadd, 1) := by decide +kernel
theorem d_lw_763 : decode code 763 = .ok (.iaload, 1) := by decide +kernel
theorem d_lw_764 : decode code 764 = .ok (.aload_n 0, 1) := by decide +kernel
theorem d_lw_765 : decode code 765 = .ok (.iload_n 3, 1) := by decide +kernel
theorem d_lw_766 : decode code 766 = .ok (.iconst 2, 1) := by decide +kernel
theorem d_lw_767 : decode code 767 = .ok (.iadd, 1) := by decide +kernel
theorem d_lw_768 : decode code 768 = .ok (.iaload, 1) := by decide +kernel
theorem d_lw_769 : decode code 769 = .ok (.invokevirtual 101, 3) := by decide +kernel
theorem d_lw_772 : decode code 772 = .ok (.aload_n 2, 1) := by decide +kernel
theorem d_lw_773 : decode code 773 = .ok (.aload_n 0, 1) := by decide +kernel
theorem d_lw_774 : decode code 774 = .ok (.iload_n 3, 1) := by decide +kernel
theorem d_lw_775 : decode code 775 = .ok (.iconst 1, 1) := by decide +kernel
theorem d_lw_776 : decode code 776 = .ok (.iadd, 1) := by decide +kernel
theorem d_lw_777 : decode code 777 = .ok (.iaload, 1) := by decide +kernel
theorem d_lw_778 : decode code 778 = .ok (.aload_n 0, 1) := by decide +kernel
theorem d_lw_779 : decode code 779 = .ok (.iload_n 3, 1) := by decide +kernel
theorem d_lw_780 : decode code 780 = .ok (.iconst 2, 1) := by decide +kernel
theorem d_lw_781 : decode code 781 = .ok (.iadd, 1) := by decide +kernel
theorem d_lw_782 : decode code 782 = .ok (.iaload, 1) := by decide +kernel
theorem d_lw_783 : decode code 783 = .ok (.invokevirtual 104, 3) := by decide +kernel
theorem d_lw_786 : decode code 786 = .ok (.if_icmp .eq 403, 3) := by decide +kernel
theorem d_lw_789 : decode code 789 = .ok (.iconst 0, 1) := by decide +kernel
theorem d_lw_790 : decode code 790 = .ok (.ireturn, 1) := by decide +kernel
theorem d_lw_791 : decode code 791 = .ok (.aload_n 1, 1) := by decide +kernel
theorem d_lw_792 : decode code 792 = .ok (.aload_n 0, 1) := by decide +kernel
theorem d_lw_793 : decode code 793 = .ok (.iload_n 3, 1) := by decide +kernel
theorem d_lw_794 : decode code 794 = .ok (.iconst 1, 1) := by decide +kernel
theorem d_lw_795 : decode code 795 = .ok (.iadd, 1) := by decide +kernel
theorem d_lw_796 : decode code 796 = .ok (.iaload, 1) := by decide +kernel
theorem d_lw_797 : decode code 797 = .ok (.aload_n 0, 1) := by decide +kernel
theorem d_lw_798 : decode code 798 = .ok (.iload_n 3, 1) := by decide +kernel
theorem d_lw_799 : decode code 799 = .ok (.iconst 2, 1) := by decide +kernel
theorem d_lw_800 : decode code 800 = .ok (.iadd, 1) := by decide +kernel
theorem d_lw_801 : decode code 801 = .ok (.iaload, 1) := by decide +kernel
theorem d_lw_802 : decode code 802 = .ok (.aload_n 0, 1) := by decide +kernel
theorem d_lw_803 : decode code 803 = .ok (.iload_n 3, 1) := by decide +kernel
theorem d_lw_804 : decode code 804 = .ok (.iconst 3, 1) := by decide +kernel
theorem d_lw_805 : decode code 805 = .ok (.iadd, 1) := by decide +kernel
theorem d_lw_806 : decode code 806 = .ok (.iaload, 1) := by decide +kernel
theorem d_lw_807 : decode code 807 = .ok (.invokevirtual 105, 3) := by decide +kernel
theorem d_lw_810 : decode code 810 = .ok (.aload_n 2, 1) := by decide +kernel
theorem d_lw_811 : decode code 811 = .ok (.aload_n 0, 1) := by decide +kernel
theorem d_lw_812 : decode code 812 = .ok (.iload_n 3, 1) := by decide +kernel
theorem d_lw_813 : decode code 813 = .ok (.iconst 1, 1) := by decide +kernel
theorem d_lw_814 : decode code 814 = .ok (.iadd, 1) := by decide +kernel
theorem d_lw_815 : decode code 815 = .ok (.iaload, 1) := by decide +kernel
theorem d_lw_816 : decode code 816 = .ok (.aload_n 0, 1) := by decide +kernel
theorem d_lw_817 : decode code 817 = .ok (.iload_n 3, 1) := by decide +kernel
theorem d_lw_818 : decode code 818 = .ok (.iconst 2, 1) := by decide +kernel
theorem d_lw_819 : decode code 819 = .ok (.iadd, 1) := by decide +kernel
theorem d_lw_820 : decode code 820 = .ok (.iaload, 1) := by decide +kernel
theorem d_lw_821 : decode code 821 = .ok (.aload_n 0, 1) := by decide +kernel
theorem d_lw_822 : decode code 822 = .ok (.iload_n 3, 1) := by decide +kernel
theorem d_lw_823 : decode code 823 = .ok (.iconst 3, 1) := by decide +kernel
theorem d_lw_824 : decode code 824 = .ok (.iadd, 1) := by decide +kernel
theorem d_lw_825 : decode code 825 = .ok (.iaload, 1) := by decide +kernel
theorem d_lw_826 : decode code 826 = .ok (.invokevirtual 108, 3) := by decide +kernel
theorem d_lw_829 : decode code 829 = .ok (.if_icmp .eq 360, 3) := by decide +kernel
theorem d_lw_832 : decode code 832 = .ok (.iconst 0, 1) := by decide +kernel
theorem d_lw_833 : decode code 833 = .ok (.ireturn, 1) := by decide +kernel
theorem d_lw_834 : decode code 834 = .ok (.aload_n 1, 1) := by decide +kernel
theorem d_lw_835 : decode code 835 = .ok (.aload_n 0, 1) := by decide +kernel
theorem d_lw_836 : decode code 836 = .ok (.iload_n 3, 1) := by decide +kernel
theorem d_lw_837 : decode code 837 = .ok (.iconst 1, 1) := by decide +kernel
theorem d_lw_838 : decode code 838 = .ok (.iadd, 1) := by decide +kernel
theorem d_lw_839 : decode code 839 = .ok (.iaload, 1) := by decide +kernel
theorem d_lw_840 : decode code 840 = .ok (.aload_n 0, 1) := by decide +kernel
theorem d_lw_841 : decode code 841 = .ok (.iload_n 3, 1) := by decide +kernel
theorem d_lw_842 : decode code 842 = .ok (.iconst 2, 1) := by decide +kernel
theorem d_lw_843 : decode code 843 = .ok (.iadd, 1) := by decide +kernel
theorem d_lw_844 : decode code 844 = .ok (.iaload, 1) := by decide +kernel
theorem d_lw_845 : decode code 845 = .ok (.aload_n 0, 1) := by decide +kernel
theorem d_lw_846 : decode code 846 = .ok (.iload_n 3, 1) := by decide +kernel
theorem d_lw_847 : decode code 847 = .ok (.iconst 3, 1) := by decide +kernel
theorem d_lw_848 : decode code 848 = .ok (.iadd, 1) := by decide +kernel
theorem d_lw_849 : decode code 849 = .ok (.iaload, 1) := by decide +kernel
theorem d_lw_850 : decode code 850 = .ok (.invokevirtual 109, 3) := by decide +kernel
theorem d_lw_853 : decode code 853 = .ok (.aload_n 2, 1) := by decide +kernel
theorem d_lw_854 : decode code 854 = .ok (.aload_n 0, 1) := by decide +kernel
theorem d_lw_855 : decode code 855 = .ok (.iload_n 3, 1) := by decide +kernel
theorem d_lw_856 : decode code 856 = .ok (.iconst 1, 1) := by decide +kernel
theorem d_lw_857 : decode code 857 = .ok (.iadd, 1) := by decide +kernel
theorem d_lw_858 : decode code 858 = .ok (.iaload, 1) := by decide +kernel
theorem d_lw_859 : decode code 859 = .ok (.aload_n 0, 1) := by decide +kernel
theorem d_lw_860 : decode code 860 = .ok (.iload_n 3, 1) := by decide +kernel
theorem d_lw_861 : decode code 861 = .ok (.iconst 2, 1) := by decide +kernel
theorem d_lw_862 : decode code 862 = .ok (.iadd, 1) := by decide +kernel
theorem d_lw_863 : decode code 863 = .ok (.iaload, 1) := by decide +kernel
theorem d_lw_864 : decode code 864 = .ok (.aload_n 0, 1) := by decide +kernel
theorem d_lw_865 : decode code 865 = .ok (.iload_n 3, 1) := by decide +kernel
theorem d_lw_866 : decode code 866 = .ok (.iconst 3, 1) := by decide +kernel
theorem d_lw_867 : decode code 867 = .ok (.iadd, 1) := by decide +kernel
theorem d_lw_868 : decode code 868 = .ok (.iaload, 1) := by decide +kernel
theorem d_lw_869 : decode code 869 = .ok (.invokevirtual 112, 3) := by decide +kernel
theorem d_lw_872 : decode code 872 = .ok (.if_icmp .eq 317, 3) := by decide +kernel
theorem d_lw_875 : decode code 875 = .ok (.iconst 0, 1) := by decide +kernel
theorem d_lw_876 : decode code 876 = .ok (.ireturn, 1) := by decide +kernel
theorem d_lw_877 : decode code 877 = .ok (.aload_n 1, 1) := by decide +kernel
theorem d_lw_878 : decode code 878 = .ok (.invokevirtual 113, 3) := by decide +kernel
theorem d_lw_881 : decode code 881 = .ok (.aload_n 2, 1) := by decide +kernel
theorem d_lw_882 : decode code 882 = .ok (.invokevirtual 116, 3) := by decide +kernel
theorem d_lw_885 : decode code 885 = .ok (.if_icmp .eq 304, 3) := by decide +kernel
theorem d_lw_888 : decode code 888 = .ok (.iconst 0, 1) := by decide +kernel
theorem d_lw_889 : decode code 889 = .ok (.ireturn, 1) := by decide +kernel
theorem d_lw_890 : decode code 890 = .ok (.aload_n 1, 1) := by decide +kernel
theorem d_lw_891 : decode code 891 = .ok (.aload_n 0, 1) := by decide +kernel
theorem d_lw_892 : decode code 892 = .ok (.iload_n 3, 1) := by decide +kernel
theorem d_lw_893 : decode code 893 = .ok (.iconst 1, 1) := by decide +kernel
theorem d_lw_894 : decode code 894 = .ok (.iadd, 1) := by decide +kernel
theorem d_lw_895 : decode code 895 = .ok (.iaload, 1) := by decide +kernel
theorem d_lw_896 : decode code 896 = .ok (.invokevirtual 117, 3) := by decide +kernel
theorem d_lw_899 : decode code 899 = .ok (.aload_n 2, 1) := by decide +kernel
theorem d_lw_900 : decode code 900 = .ok (.aload_n 0, 1) := by decide +kernel
theorem d_lw_901 : decode code 901 = .ok (.iload_n 3, 1) := by decide +kernel
theorem d_lw_902 : decode code 902 = .ok (.iconst 1, 1) := by decide +kernel
theorem d_lw_903 : decode code 903 = .ok (.iadd, 1) := by decide +kernel
theorem d_lw_904 : decode code 904 = .ok (.iaload, 1) := by decide +kernel
theorem d_lw_905 : decode code 905 = .ok (.invokevirtual 120, 3) := by decide +kernel
theorem d_lw_908 : decode code 908 = .ok (.if_icmp .eq 281, 3) := by decide +kernel
theorem d_lw_911 : decode code 911 = .ok (.iconst 0, 1) := by decide +kernel
theorem d_lw_912 : decode code 912 = .ok (.ireturn, 1) := by decide +kernel
theorem d_lw_913 : decode code 913 = .ok (.aload_n 1, 1) := by decide +kernel
theorem d_lw_914 : decode code 914 = .ok (.aload_n 0, 1) := by decide +kernel
theorem d_lw_915 : decode code 915 = .ok (.iload_n 3, 1) := by decide +kernel
theorem d_lw_916 : decode code 916 = .ok (.iconst 1, 1) := by decide +kernel
theorem d_lw_917 : decode code 917 = .ok (.iadd, 1) := by decide +kernel
theorem d_lw_918 : decode code 918 = .ok (.iaload, 1) := by decide +kernel
theorem d_lw_919 : decode code 919 = .ok (.invokevirtual 121, 3) := by decide +kernel
theorem d_lw_922 : decode code 922 = .ok (.aload_n 2, 1) := by decide +kernel
theorem d_lw_923 : decode code 923 = .ok (.aload_n 0, 1) := by decide +kernel
theorem d_lw_924 : decode code 924 = .ok (.iload_n 3, 1) := by decide +kernel
theorem d_lw_925 : decode code 925 = .ok (.iconst 1, 1) := by decide +kernel
theorem d_lw_926 : decode code 926 = .ok (.iadd, 1) := by decide +kernel
theorem d_lw_927 : decode code 927 = .ok (.iaload, 1) := by decide +kernel
theorem d_lw_928 : decode code 928 = .ok (.invokevirtual 124, 3) := by decide +kernel
theorem d_lw_931 : decode code 931 = .ok (.if_icmp .eq 258, 3) := by decide +kernel
theorem d_lw_934 : decode code 934 = .ok (.iconst 0, 1) := by decide +kernel
theorem d_lw_935 : decode code 935 = .ok (.ireturn, 1) := by decide +kernel
theorem d_lw_936 : decode code 936 = .ok (.aload_n 1, 1) := by decide +kernel
theorem d_lw_937 : decode code 937 = .ok (.aload_n 0, 1) := by decide +kernel
theorem d_lw_938 : decode code 938 = .ok (.iload_n 3, 1) := by decide +kernel
theorem d_lw_939 : decode code 939 = .ok (.iconst 1, 1) := by decide +kernel
theorem d_lw_940 : decode code 940 = .ok (.iadd, 1) := by decide +kernel
theorem d_lw_941 : decode code 941 = .ok (.iaload, 1) := by decide +kernel
theorem d_lw_942 : decode code 942 = .ok (.invokevirtual 125, 3) := by decide +kernel
theorem d_lw_945 : decode code 945 = .ok (.aload_n 2, 1) := by decide +kernel
theorem d_lw_946 : decode code 946 = .ok (.aload_n 0, 1) := by decide +kernel
theorem d_lw_947 : decode code 947 = .ok (.iload_n 3, 1) := by decide +kernel
theorem d_lw_948 : decode code 948 = .ok (.iconst 1, 1) := by decide +kernel
theorem d_lw_949 : decode code 949 = .ok (.iadd, 1) := by decide +kernel
theorem d_lw_950 : decode code 950 = .ok (.iaload, 1) := by decide +kernel
theorem d_lw_951 : decode code 951 = .ok (.invokevirtual 128, 3) := by decide +kernel
theorem d_lw_954 : decode code 954 = .ok (.if_icmp .eq 235, 3) := by decide +kernel
theorem d_lw_957 : decode code 957 = .ok (.iconst 0, 1) := by decide +kernel
theorem d_lw_958 : decode code 958 = .ok (.ireturn, 1) := by decide +kernel
theorem d_lw_959 : decode code 959 = .ok (.aload_n 1, 1) := by decide +kernel
theorem d_lw_960 : decode code 960 = .ok (.aload_n 0, 1) := by decide +kernel
theorem d_lw_961 : decode code 961 = .ok (.iload_n 3, 1) := by decide +kernel
theorem d_lw_962 : decode code 962 = .ok (.iconst 1, 1) := by decide +kernel
theorem d_lw_963 : decode code 963 = .ok (.iadd, 1) := by decide +kernel
theorem d_lw_964 : decode code 964 = .ok (.iaload, 1) := by decide +kernel
theorem d_lw_965 : decode code 965 = .ok (.invokevirtual 129, 3) := by decide +kernel
theorem d_lw_968 : decode code 968 = .ok (.aload_n 2, 1) := by decide +kernel
theorem d_lw_969 : decode code 969 = .ok (.aload_n 0, 1) := by decide +kernel
theorem d_lw_970 : decode code 970 = .ok (.iload_n 3, 1) := by decide +kernel
theorem d_lw_971 : decode code 971 = .ok (.iconst 1, 1) := by decide +kernel
theorem d_lw_972 : decode code 972 = .ok (.iadd, 1) := by decide +kernel
theorem d_lw_973 : decode code 973 = .ok (.iaload, 1) := by decide +kernel
theorem d_lw_974 : decode code 974 = .ok (.invokevirtual 132, 3) := by decide +kernel
theorem d_lw_977 : decode code 977 = .ok (.if_icmp .eq 212, 3) := by decide +kernel
theorem d_lw_980 : decode code 980 = .ok (.iconst 0, 1) := by decide +kernel
theorem d_lw_981 : decode code 981 = .ok (.ireturn, 1) := by decide +kernel
theorem d_lw_982 : decode code 982 = .ok (.aload_n 1, 1) := by decide +kernel
theorem d_lw_983 : decode code 983 = .ok (.invokevirtual 133, 3) := by decide +kernel
theorem d_lw_986 : decode code 986 = .ok (.aload_n 2, 1) := by decide +kernel
theorem d_lw_987 : decode code 987 = .ok (.invokevirtual 136, 3) := by decide +kernel
theorem d_lw_990 : decode code 990 = .ok (.if_icmp .eq 199, 3) := by decide +kernel
theorem d_lw_993 : decode code 993 = .ok (.iconst 0, 1) := by decide +kernel
theorem d_lw_994 : decode code 994 = .ok (.ireturn, 1) := by decide +kernel
theorem d_lw_995 : decode code 995 = .ok (.aload_n 1, 1) := by decide +kernel
theorem d_lw_996 : decode code 996 = .ok (.invokevirtual 137, 3) := by decide +kernel
theorem d_lw_999 : decode code 999 = .ok (.aload_n 2, 1) := by decide +kernel
theorem d_lw_1000 : decode code 1000 = .ok (.invokevirtual 140, 3) := by decide +kernel
theorem d_lw_1003 : decode code 1003 = .ok (.if_icmp .eq 186, 3) := by decide +kernel
theorem d_lw_1006 : decode code 1006 = .ok (.iconst 0, 1) := by decide +kernel
theorem d_lw_1007 : decode code 1007 = .ok (.ireturn, 1) := by decide +kernel
theorem d_lw_1008 : decode code 1008 = .ok (.aload_n 1, 1) := by decide +kernel
theorem d_lw_1009 : decode code 1009 = .ok (.aload_n 0, 1) := by decide +kernel
theorem d_lw_1010 : decode code 1010 = .ok (.iload_n 3, 1) := by decide +kernel
theorem d_lw_1011 : decode code 1011 = .ok (.iconst 1, 1) := by decide +kernel
theorem d_lw_1012 : decode code 1012 = .ok (.iadd, 1) := by decide +kernel
theorem d_lw_1013 : decode code 1013 = .ok (.iaload, 1) := by decide +kernel
theorem d_lw_1014 : decode code 1014 = .ok (.invokevirtual 141, 3) := by decide +kernel
theorem d_lw_1017 : decode code 1017 = .ok (.aload_n 2, 1) := by decide +kernel
theorem d_lw_1018 : decode code 1018 = .ok (.aload_n 0, 1) := by decide +kernel
theorem d_lw_1019 : decode code 1019 = .ok (.iload_n 3, 1) := by decide +kernel
theorem d_lw_1020 : decode code 1020 = .ok (.iconst 1, 1) := by decide +kernel
theorem d_lw_1021 : decode code 1021 = .ok (.iadd, 1) := by decide +kernel
theorem d_lw_1022 : decode code 1022 = .ok (.iaload, 1) := by decide +kernel
theorem d_lw_1023 : decode code 1023 = .ok (.invokevirtual 144, 3) := by decide +kernel
theorem d_lw_1026 : decode code 1026 = .ok (.if_icmp .eq 163, 3) := by decide +kernel
theorem d_lw_1029 : decode code 1029 = .ok (.iconst 0, 1) := by decide +kernel
theorem d_lw_1030 : decode code 1030 = .ok (.ireturn, 1) := by decide +kernel
theorem d_lw_1031 : decode code 1031 = .ok (.aload_n 1, 1) := by decide +kernel
theorem d_lw_1032 : decode code 1032 = .ok (.invokevirtual 145, 3) := by decide +kernel
theorem d_lw_1035 : decode code 1035 = .ok (.aload_n 2, 1) := by decide +kernel
theorem d_lw_1036 : decode code 1036 = .ok (.invokevirtual 148, 3) := by decide +kernel
theorem d_lw_1039 : decode code 1039 = .ok (.if_icmp .eq 150, 3) := by decide +kernel
theorem d_lw_1042 : decode code 1042 = .ok (.iconst 0, 1) := by decide +kernel
theorem d_lw_1043 : decode code 1043 = .ok (.ireturn, 1) := by decide +kernel
theorem d_lw_1044 : decode code 1044 = .ok (.aload_n 1, 1) := by decide +kernel
theorem d_lw_1045 : decode code 1045 = .ok (.aload_n 0, 1) := by decide +kernel
theorem d_lw_1046 : decode code 1046 = .ok (.iload_n 3, 1) := by decide +kernel
theorem d_lw_1047 : decode code 1047 = .ok (.iconst 1, 1) := by decide +kernel
theorem d_lw_1048 : decode code 1048 = .ok (.iadd, 1) := by decide +kernel
theorem d_lw_1049 : decode code 1049 = .ok (.iaload, 1) := by decide +kernel
theorem d_lw_1050 : decode code 1050 = .ok (.aload_n 0, 1) := by decide +kernel
theorem d_lw_1051 : decode code 1051 = .ok (.iload_n 3, 1) := by decide +kernel
theorem d_lw_1052 : decode code 1052 = .ok (.iconst 2, 1) := by decide +kernel
theorem d_lw_1053 : decode code 1053 = .ok (.iadd, 1) := by decide +kernel
theorem d_lw_1054 : decode code 1054 = .ok (.iaload, 1) := by decide +kernel
theorem d_lw_1055 : decode code 1055 = .ok (.aload_n 0, 1) := by decide +kernel
theorem d_lw_1056 : decode code 1056 = .ok (.iload_n 3, 1) := by decide +kernel
theorem d_lw_1057 : decode code 1057 = .ok (.iconst 3, 1) := by decide +kernel
theorem d_lw_1058 : decode code 1058 = .ok (.iadd, 1) := by decide +kernel
theorem d_lw_1059 : decode code 1059 = .ok (.iaload, 1) := by decide +kernel
theorem d_lw_1060 : decode code 1060 = .ok (.invokevirtual 149, 3) := by decide +kernel
theorem d_lw_1063 : decode code 1063 = .ok (.aload_n 2, 1) := by decide +kernel
theorem d_lw_1064 : decode code 1064 = .ok (.aload_n 0, 1) := by decide +kernel
theorem d_lw_1065 : decode code 1065 = .ok (.iload_n 3, 1) := by decide +kernel
theorem d_lw_1066 : decode code 1066 = .ok (.iconst 1, 1) := by decide +kernel
theorem d_lw_1067 : decode code 1067 = .ok (.iadd, 1) := by decide +kernel
theorem d_lw_1068 : decode code 1068 = .ok (.iaload, 1) := by decide +kernel
theorem d_lw_1069 : decode code 1069 = .ok (.aload_n 0, 1) := by decide +kernel
theorem d_lw_1070 : decode code 1070 = .ok (.iload_n 3, 1) := by decide +kernel
theorem d_lw_1071 : decode code 1071 = .ok (.iconst 2, 1) := by decide +kernel
theorem d_lw_1072 : decode code 1072 = .ok (.iadd, 1) := by decide +kernel
theorem d_lw_1073 : decode code 1073 = .ok (.iaload, 1) := by decide +kernel
theorem d_lw_1074 : decode code 1074 = .ok (.aload_n 0, 1) := by decide +kernel
theorem d_lw_1075 : decode code 1075 = .ok (.iload_n 3, 1) := by decide +kernel
theorem d_lw_1076 : decode code 1076 = .ok (.iconst 3, 1) := by decide +kernel
theorem d_lw_1077 : decode code 1077 = .ok (.iadd, 1) := by decide +kernel
theorem d_lw_1078 : decode code 1078 = .ok (.iaload, 1) := by decide +kernel
theorem d_lw_1079 : decode code 1079 = .ok (.invokevirtual 152, 3) := by decide +kernel
theorem d_lw_1082 : decode code 1082 = .ok (.if_icmp .eq 107, 3) := by decide +kernel
theorem d_lw_1085 : decode code 1085 = .ok (.iconst 0, 1) := by decide +kernel
theorem d_lw_1086 : decode code 1086 = .ok (.ireturn, 1) := by decide +kernel
theorem d_lw_1087 : decode code 1087 = .ok (.aload_n 1, 1) := by decide +kernel
theorem d_lw_1088 : decode code 1088 = .ok (.aload_n 0, 1) := by decide +kernel
theorem d_lw_1089 : decode code 1089 = .ok (.iload_n 3, 1) := by decide +kernel
theorem d_lw_1090 : decode code 1090 = .ok (.iconst 1, 1) := by decide +kernel
theorem d_lw_1091 : decode code 1091 = .ok (.iadd, 1) := by decide +kernel
theorem d_lw_1092 : decode code 1092 = .ok (.iaload, 1) := by decide +kernel
theorem d_lw_1093 : decode code 1093 = .ok (.aload_n 0, 1) := by decide +kernel
theorem d_lw_1094 : decode code 1094 = .ok (.iload_n 3, 1) := by decide +kernel
theorem d_lw_1095 : decode code 1095 = .ok (.iconst 2, 1) := by decide +kernel
theorem d_lw_1096 : decode code 1096 = .ok (.iadd, 1) := by decide +kernel
theorem d_lw_1097 : decode code 1097 = .ok (.iaload, 1) := by decide +kernel
theorem d_lw_1098 : decode code 1098 = .ok (.invokevirtual 153, 3) := by decide +kernel
theorem d_lw_1101 : decode code 1101 = .ok (.aload_n 2, 1) := by decide +kernel
theorem d_lw_1102 : decode code 1102 = .ok (.aload_n 0, 1) := by decide +kernel
theorem d_lw_1103 : decode code 1103 = .ok (.iload_n 3, 1) := by decide +kernel
theorem d_lw_1104 : decode code 1104 = .ok (.iconst 1, 1) := by decide +kernel
theorem d_lw_1105 : decode code 1105 = .ok (.iadd, 1) := by decide +kernel
theorem d_lw_1106 : decode code 1106 = .ok (.iaload, 1) := by decide +kernel
theorem d_lw_1107 : decode code 1107 = .ok (.aload_n 0, 1) := by decide +kernel
theorem d_lw_1108 : decode code 1108 = .ok (.iload_n 3, 1) := by decide +kernel
theorem d_lw_1109 : decode code 1109 = .ok (.iconst 2, 1) := by decide +kernel
theorem d_lw_1110 : decode code 1110 = .ok (.iadd, 1) := by decide +kernel
theorem d_lw_1111 : decode code 1111 = .ok (.iaload, 1) := by decide +kernel
theorem d_lw_1112 : decode code 1112 = .ok (.invokevirtual 156, 3) := by decide +kernel
theorem d_lw_1115 : decode code 1115 = .ok (.if_icmp .eq 74, 3) := by decide +kernel
theorem d_lw_1118 : decode code 1118 = .ok (.iconst 0, 1) := by decide +kernel
theorem d_lw_1119 : decode code 1119 = .ok (.ireturn, 1) := by decide +kernel
theorem d_lw_1120 : decode code 1120 = .ok (.aload_n 1, 1) := by decide +kernel
theorem d_lw_1121 : decode code 1121 = .ok (.aload_n 0, 1) := by decide +kernel
theorem d_lw_1122 : decode code 1122 = .ok (.iload_n 3, 1) := by decide +kernel
theorem d_lw_1123 : decode code 1123 = .ok (.iconst 1, 1) := by decide +kernel
theorem d_lw_1124 : decode code 1124 = .ok (.iadd, 1) := by decide +kernel
theorem d_lw_1125 : decode code 1125 = .ok (.iaload, 1) := by decide +kernel
theorem d_lw_1126 : decode code 1126 = .ok (.invokevirtual 157, 3) := by decide +kernel
theorem d_lw_1129 : decode code 1129 = .ok (.aload_n 2, 1) := by decide +kernel
theorem d_lw_1130 : decode code 1130 = .ok (.aload_n 0, 1) := by decide +kernel
theorem d_lw_1131 : decode code 1131 = .ok (.iload_n 3, 1) := by decide +kernel
theorem d_lw_1132 : decode code 1132 = .ok (.iconst 1, 1) := by decide +kernel
theorem d_lw_1133 : decode code 1133 = .ok (.iadd, 1) := by decide +kernel
theorem d_lw_1134 : decode code 1134 = .ok (.iaload, 1) := by decide +kernel
theorem d_lw_1135 : decode code 1135 = .ok (.invokevirtual 161, 3) := by decide +kernel
theorem d_lw_1138 : decode code 1138 = .ok (.if_icmp .eq 51, 3) := by decide +kernel
theorem d_lw_1141 : decode code 1141 = .ok (.iconst 0, 1) := by decide +kernel
theorem d_lw_1142 : decode code 1142 = .ok (.ireturn, 1) := by decide +kernel
theorem d_lw_1143 : decode code 1143 = .ok (.aload_n 1, 1) := by decide +kernel
theorem d_lw_1144 : decode code 1144 = .ok (.aload_n 0, 1) := by decide +kernel
theorem d_lw_1145 : decode code 1145 = .ok (.iload_n 3, 1) := by decide +kernel
theorem d_lw_1146 : decode code 1146 = .ok (.iconst 1, 1) := by decide +kernel
theorem d_lw_1147 : decode code 1147 = .ok (.iadd, 1) := by decide +kernel
theorem d_lw_1148 : decode code 1148 = .ok (.iaload, 1) := by decide +kernel
theorem d_lw_1149 : decode code 1149 = .ok (.invokevirtual 162, 3) := by decide +kernel
theorem d_lw_1152 : decode code 1152 = .ok (.aload_n 2, 1) := by decide +kernel
theorem d_lw_1153 : decode code 1153 = .ok (.aload_n 0, 1) := by decide +kernel
theorem d_lw_1154 : decode code 1154 = .ok (.iload_n 3, 1) := by decide +kernel
theorem d_lw_1155 : decode code 1155 = .ok (.iconst 1, 1) := by decide +kernel
theorem d_lw_1156 : decode code 1156 = .ok (.iadd, 1) := by decide +kernel
theorem d_lw_1157 : decode code 1157 = .ok (.iaload, 1) := by decide +kernel
theorem d_lw_1158 : decode code 1158 = .ok (.invokevirtual 165, 3) := by decide +kernel
theorem d_lw_1161 : decode code 1161 = .ok (.if_icmp .eq 28, 3) := by decide +kernel
theorem d_lw_1164 : decode code 1164 = .ok (.iconst 0, 1) := by decide +kernel
theorem d_lw_1165 : decode code 1165 = .ok (.ireturn, 1) := by decide +kernel
theorem d_lw_1166 : decode code 1166 = .ok (.aload_n 1, 1) := by decide +kernel
theorem d_lw_1167 : decode code 1167 = .ok (.aload_n 0, 1) := by decide +kernel
theorem d_lw_1168 : decode code 1168 = .ok (.iload_n 3, 1) := by decide +kernel
theorem d_lw_1169 : decode code 1169 = .ok (.iconst 1, 1) := by decide +kernel
theorem d_lw_1170 : decode code 1170 = .ok (.iadd, 1) := by decide +kernel
theorem d_lw_1171 : decode code 1171 = .ok (.iaload, 1) := by decide +kernel
theorem d_lw_1172 : decode code 1172 = .ok (.invokevirtual 166, 3) := by decide +kernel
theorem d_lw_1175 : decode code 1175 = .ok (.aload_n 2, 1) := by decide +kernel
theorem d_lw_1176 : decode code 1176 = .ok (.aload_n 0, 1) := by decide +kernel
theorem d_lw_1177 : decode code 1177 = .ok (.iload_n 3, 1) := by decide +kernel
theorem d_lw_1178 : decode code 1178 = .ok (.iconst 1, 1) := by decide +kernel
theorem d_lw_1179 : decode code 1179 = .ok (.iadd, 1) := by decide +kernel
theorem d_lw_1180 : decode code 1180 = .ok (.iaload, 1) := by decide +kernel
theorem d_lw_1181 : decode code 1181 = .ok (.invokevirtual 169, 3) := by decide +kernel
theorem d_lw_1184 : decode code 1184 = .ok (.if_icmp .eq 5, 3) := by decide +kernel
theorem d_lw_1187 : decode code 1187 = .ok (.iconst 0, 1) := by decide +kernel
theorem d_lw_1188 : decode code 1188 = .ok (.ireturn, 1) := by decide +kernel
theorem d_lw_1189 : decode code 1189 = .ok (.iinc 3 6, 3) := by decide +kernel
theorem d_lw_1192 : decode code 1192 = .ok (.goto (-1174), 3) := by decide +kernel
theorem d_lw_1195 : decode code 1195 = .ok (.iconst 1, 1) := by decide +kernel
theorem d_lw_1196 : decode code 1196 = .ok (.ireturn, 1) := by decide +kernel
theorem lz_0 : (Jvm.Cond.instanceMethod ({ cls := "SensorTree", name := "feed", desc := "(IIIII)I" } : Jvm.MethodName)) ∈ lw_g := lw_at 500 (by decide +kernel) (by decide +kernel)
theorem lz_1 : (Jvm.Cond.selects "SensorTree" ({ cls := "SensorTree", name := "feed", desc := "(IIIII)I" } : Jvm.MethodName) ({ cls := "SensorTree", name := "feed", desc := "(IIIII)I" } : Jvm.MethodName)) ∈ lw_g := lw_at 501 (by decide +kernel) (by decide +kernel)
set_option maxRecDepth 30000 in
theorem lz_2 : (Jvm.Cond.code ({ cls := "SensorTree", name := "feed", desc := "(IIIII)I" } : Jvm.MethodName) prog_1_method_2_code (6 : Nat) (Option.some Jvm.ClassFile.FieldType.int)) ∈ lw_g := lw_at 502 rfl (by decide +kernel)
theorem lz_3 : (Jvm.Cond.methodLink "SensorTreeLaw" (13 : Nat) ({ cls := "SensorTree", name := "feed", desc := "(IIIII)I" } : Jvm.MethodName)) ∈ lw_g := lw_at 499 (by decide +kernel) (by decide +kernel)
theorem lz_4 : (Jvm.Cond.instanceMethod ({ cls := "SensorTreeModel", name := "feed", desc := "(IIIII)I" } : Jvm.MethodName)) ∈ lw_g := lw_at 1244 (by decide +kernel) (by decide +kernel)
theorem lz_5 : (Jvm.Cond.selects "SensorTreeModel" ({ cls := "SensorTreeModel", name := "feed", desc := "(IIIII)I" } : Jvm.MethodName) ({ cls := "SensorTreeModel", name := "feed", desc := "(IIIII)I" } : Jvm.MethodName)) ∈ lw_g := lw_at 1245 (by decide +kernel) (by decide +kernel)
set_option maxRecDepth 30000 in
theorem lz_6 : (Jvm.Cond.code ({ cls := "SensorTreeModel", name := "feed", desc := "(IIIII)I" } : Jvm.MethodName) prog_13_method_3_code (6 : Nat) (Option.some Jvm.ClassFile.FieldType.int)) ∈ lw_g := lw_at 1246 rfl (by decide +kernel)
theorem lz_7 : (Jvm.Cond.methodLink "SensorTreeLaw" (17 : Nat) ({ cls := "SensorTreeModel", name := "feed", desc := "(IIIII)I" } : Jvm.MethodName)) ∈ lw_g := lw_at 1243 (by decide +kernel) (by decide +kernel)
theorem lz_8 : (Jvm.Cond.instanceMethod ({ cls := "SensorTree", name := "back", desc := "(I)I" } : Jvm.MethodName)) ∈ lw_g := lw_at 508 (by decide +kernel) (by decide +kernel)
theorem lz_9 : (Jvm.Cond.selects "SensorTree" ({ cls := "SensorTree", name := "back", desc := "(I)I" } : Jvm.MethodName) ({ cls := "SensorTree", name := "back", desc := "(I)I" } : Jvm.MethodName)) ∈ lw_g := lw_at 509 (by decide +kernel) (by decide +kernel)
set_option maxRecDepth 30000 in
theorem lz_10 : (Jvm.Cond.code ({ cls := "SensorTree", name := "back", desc := "(I)I" } : Jvm.MethodName) prog_1_method_3_code (2 : Nat) (Option.some Jvm.ClassFile.FieldType.int)) ∈ lw_g := lw_at 510 rfl (by decide +kernel)
theorem lz_11 : (Jvm.Cond.methodLink "SensorTreeLaw" (18 : Nat) ({ cls := "SensorTree", name := "back", desc := "(I)I" } : Jvm.MethodName)) ∈ lw_g := lw_at 507 (by decide +kernel) (by decide +kernel)
theorem lz_12 : (Jvm.Cond.instanceMethod ({ cls := "SensorTreeModel", name := "back", desc := "(I)I" } : Jvm.MethodName)) ∈ lw_g := lw_at 1252 (by decide +kernel) (by decide +kernel)
theorem lz_13 : (Jvm.Cond.selects "SensorTreeModel" ({ cls := "SensorTreeModel", name := "back", desc := "(I)I" } : Jvm.MethodName) ({ cls := "SensorTreeModel", name := "back", desc := "(I)I" } : Jvm.MethodName)) ∈ lw_g := lw_at 1253 (by decide +kernel) (by decide +kernel)
set_option maxRecDepth 30000 in
theorem lz_14 : (Jvm.Cond.code ({ cls := "SensorTreeModel", name := "back", desc := "(I)I" } : Jvm.MethodName) prog_13_method_5_code (2 : Nat) (Option.some Jvm.ClassFile.FieldType.int)) ∈ lw_g := lw_at 1254 rfl (by decide +kernel)
theorem lz_15 : (Jvm.Cond.methodLink "SensorTreeLaw" (22 : Nat) ({ cls := "SensorTreeModel", name := "back", desc := "(I)I" } : Jvm.MethodName)) ∈ lw_g := lw_at 1251 (by decide +kernel) (by decide +kernel)
theorem lz_16 : (Jvm.Cond.instanceMethod ({ cls := "SensorTree", name := "read", desc := "()I" } : Jvm.MethodName)) ∈ lw_g := lw_at 512 (by decide +kernel) (by decide +kernel)
theorem lz_17 : (Jvm.Cond.selects "SensorTree" ({ cls := "SensorTree", name := "read", desc := "()I" } : Jvm.MethodName) ({ cls := "SensorTree", name := "read", desc := "()I" } : Jvm.MethodName)) ∈ lw_g := lw_at 513 (by decide +kernel) (by decide +kernel)
set_option maxRecDepth 30000 in
theorem lz_18 : (Jvm.Cond.code ({ cls := "SensorTree", name := "read", desc := "()I" } : Jvm.MethodName) prog_1_method_4_code (2 : Nat) (Option.some Jvm.ClassFile.FieldType.int)) ∈ lw_g := lw_at 514 rfl (by decide +kernel)
theorem lz_19 : (Jvm.Cond.methodLink "SensorTreeLaw" (23 : Nat) ({ cls := "SensorTree", name := "read", desc := "()I" } : Jvm.MethodName)) ∈ lw_g := lw_at 511 (by decide +kernel) (by decide +kernel)
theorem lz_20 : (Jvm.Cond.instanceMethod ({ cls := "SensorTreeModel", name := "read", desc := "()I" } : Jvm.MethodName)) ∈ lw_g := lw_at 1256 (by decide +kernel) (by decide +kernel)
theorem lz_21 : (Jvm.Cond.selects "SensorTreeModel" ({ cls := "SensorTreeModel", name := "read", desc := "()I" } : Jvm.MethodName) ({ cls := "SensorTreeModel", name := "read", desc := "()I" } : Jvm.MethodName)) ∈ lw_g := lw_at 1257 (by decide +kernel) (by decide +kernel)
set_option maxRecDepth 30000 in
theorem lz_22 : (Jvm.Cond.code ({ cls := "SensorTreeModel", name := "read", desc := "()I" } : Jvm.MethodName) prog_13_method_22_code (2 : Nat) (Option.some Jvm.ClassFile.FieldType.int)) ∈ lw_g := lw_at 1258 rfl (by decide +kernel)
theorem lz_23 : (Jvm.Cond.methodLink "SensorTreeLaw" (27 : Nat) ({ cls := "SensorTreeModel", name := "read", desc := "()I" } : Jvm.MethodName)) ∈ lw_g := lw_at 1255 (by decide +kernel) (by decide +kernel)
theorem lz_24 : (Jvm.Cond.instanceMethod ({ cls := "SensorTree", name := "place", desc := "()I" } : Jvm.MethodName)) ∈ lw_g := lw_at 701 (by decide +kernel) (by decide +kernel)
theorem lz_25 : (Jvm.Cond.selects "SensorTree" ({ cls := "SensorTree", name := "place", desc := "()I" } : Jvm.MethodName) ({ cls := "SensorTree", name := "place", desc := "()I" } : Jvm.MethodName)) ∈ lw_g := lw_at 702 (by decide +kernel) (by decide +kernel)
set_option maxRecDepth 30000 in
theorem lz_26 : (Jvm.Cond.code ({ cls := "SensorTree", name := "place", desc := "()I" } : Jvm.MethodName) prog_1_method_5_code (1 : Nat) (Option.some Jvm.ClassFile.FieldType.int)) ∈ lw_g := lw_at 703 rfl (by decide +kernel)
theorem lz_27 : (Jvm.Cond.methodLink "SensorTreeLaw" (28 : Nat) ({ cls := "SensorTree", name := "place", desc := "()I" } : Jvm.MethodName)) ∈ lw_g := lw_at 700 (by decide +kernel) (by decide +kernel)
theorem lz_28 : (Jvm.Cond.instanceMethod ({ cls := "SensorTreeModel", name := "place", desc := "()I" } : Jvm.MethodName)) ∈ lw_g := lw_at 1336 (by decide +kernel) (by decide +kernel)
theorem lz_29 : (Jvm.Cond.selects "SensorTreeModel" ({ cls := "SensorTreeModel", name := "place", desc := "()I" } : Jvm.MethodName) ({ cls := "SensorTreeModel", name := "place", desc := "()I" } : Jvm.MethodName)) ∈ lw_g := lw_at 1337 (by decide +kernel) (by decide +kernel)
set_option maxRecDepth 30000 in
theorem lz_30 : (Jvm.Cond.code ({ cls := "SensorTreeModel", name := "place", desc := "()I" } : Jvm.MethodName) prog_13_method_23_code (1 : Nat) (Option.some Jvm.ClassFile.FieldType.int)) ∈ lw_g := lw_at 1338 rfl (by decide +kernel)
theorem lz_31 : (Jvm.Cond.methodLink "SensorTreeLaw" (31 : Nat) ({ cls := "SensorTreeModel", name := "place", desc := "()I" } : Jvm.MethodName)) ∈ lw_g := lw_at 1335 (by decide +kernel) (by decide +kernel)
theorem lz_32 : (Jvm.Cond.instanceMethod ({ cls := "SensorTree", name := "ticks", desc := "(I)I" } : Jvm.MethodName)) ∈ lw_g := lw_at 705 (by decide +kernel) (by decide +kernel)
theorem lz_33 : (Jvm.Cond.selects "SensorTree" ({ cls := "SensorTree", name := "ticks", desc := "(I)I" } : Jvm.MethodName) ({ cls := "SensorTree", name := "ticks", desc := "(I)I" } : Jvm.MethodName)) ∈ lw_g := lw_at 706 (by decide +kernel) (by decide +kernel)
set_option maxRecDepth 30000 in
theorem lz_34 : (Jvm.Cond.code ({ cls := "SensorTree", name := "ticks", desc := "(I)I" } : Jvm.MethodName) prog_1_method_6_code (3 : Nat) (Option.some Jvm.ClassFile.FieldType.int)) ∈ lw_g := lw_at 707 rfl (by decide +kernel)
theorem lz_35 : (Jvm.Cond.methodLink "SensorTreeLaw" (32 : Nat) ({ cls := "SensorTree", name := "ticks", desc := "(I)I" } : Jvm.MethodName)) ∈ lw_g := lw_at 704 (by decide +kernel) (by decide +kernel)
theorem lz_36 : (Jvm.Cond.instanceMethod ({ cls := "SensorTreeModel", name := "ticks", desc := "(I)I" } : Jvm.MethodName)) ∈ lw_g := lw_at 1340 (by decide +kernel) (by decide +kernel)
theorem lz_37 : (Jvm.Cond.selects "SensorTreeModel" ({ cls := "SensorTreeModel", name := "ticks", desc := "(I)I" } : Jvm.MethodName) ({ cls := "SensorTreeModel", name := "ticks", desc := "(I)I" } : Jvm.MethodName)) ∈ lw_g := lw_at 1341 (by decide +kernel) (by decide +kernel)
set_option maxRecDepth 30000 in
theorem lz_38 : (Jvm.Cond.code ({ cls := "SensorTreeModel", name := "ticks", desc := "(I)I" } : Jvm.MethodName) prog_13_method_67_code (2 : Nat) (Option.some Jvm.ClassFile.FieldType.int)) ∈ lw_g := lw_at 1342 rfl (by decide +kernel)
theorem lz_39 : (Jvm.Cond.methodLink "SensorTreeLaw" (35 : Nat) ({ cls := "SensorTreeModel", name := "ticks", desc := "(I)I" } : Jvm.MethodName)) ∈ lw_g := lw_at 1339 (by decide +kernel) (by decide +kernel)
theorem lz_40 : (Jvm.Cond.instanceMethod ({ cls := "SensorTree", name := "join", desc := "(IZ)Z" } : Jvm.MethodName)) ∈ lw_g := lw_at 821 (by decide +kernel) (by decide +kernel)
theorem lz_41 : (Jvm.Cond.selects "SensorTree" ({ cls := "SensorTree", name := "join", desc := "(IZ)Z" } : Jvm.MethodName) ({ cls := "SensorTree", name := "join", desc := "(IZ)Z" } : Jvm.MethodName)) ∈ lw_g := lw_at 822 (by decide +kernel) (by decide +kernel)
set_option maxRecDepth 30000 in
theorem lz_42 : (Jvm.Cond.code ({ cls := "SensorTree", name := "join", desc := "(IZ)Z" } : Jvm.MethodName) prog_1_method_7_code (3 : Nat) (Option.some Jvm.ClassFile.FieldType.boolean)) ∈ lw_g := lw_at 823 rfl (by decide +kernel)
theorem lz_43 : (Jvm.Cond.methodLink "SensorTreeLaw" (36 : Nat) ({ cls := "SensorTree", name := "join", desc := "(IZ)Z" } : Jvm.MethodName)) ∈ lw_g := lw_at 820 (by decide +kernel) (by decide +kernel)
theorem lz_44 : (Jvm.Cond.instanceMethod ({ cls := "SensorTreeModel", name := "join", desc := "(IZ)Z" } : Jvm.MethodName)) ∈ lw_g := lw_at 1432 (by decide +kernel) (by decide +kernel)
theorem lz_45 : (Jvm.Cond.selects "SensorTreeModel" ({ cls := "SensorTreeModel", name := "join", desc := "(IZ)Z" } : Jvm.MethodName) ({ cls := "SensorTreeModel", name := "join", desc := "(IZ)Z" } : Jvm.MethodName)) ∈ lw_g := lw_at 1433 (by decide +kernel) (by decide +kernel)
set_option maxRecDepth 30000 in
theorem lz_46 : (Jvm.Cond.code ({ cls := "SensorTreeModel", name := "join", desc := "(IZ)Z" } : Jvm.MethodName) prog_13_method_68_code (3 : Nat) (Option.some Jvm.ClassFile.FieldType.boolean)) ∈ lw_g := lw_at 1434 rfl (by decide +kernel)
theorem lz_47 : (Jvm.Cond.methodLink "SensorTreeLaw" (40 : Nat) ({ cls := "SensorTreeModel", name := "join", desc := "(IZ)Z" } : Jvm.MethodName)) ∈ lw_g := lw_at 1431 (by decide +kernel) (by decide +kernel)
theorem lz_48 : (Jvm.Cond.instanceMethod ({ cls := "SensorTree", name := "cost", desc := "(II)Z" } : Jvm.MethodName)) ∈ lw_g := lw_at 837 (by decide +kernel) (by decide +kernel)
theorem lz_49 : (Jvm.Cond.selects "SensorTree" ({ cls := "SensorTree", name := "cost", desc := "(II)Z" } : Jvm.MethodName) ({ cls := "SensorTree", name := "cost", desc := "(II)Z" } : Jvm.MethodName)) ∈ lw_g := lw_at 838 (by decide +kernel) (by decide +kernel)
set_option maxRecDepth 30000 in
theorem lz_50 : (Jvm.Cond.code ({ cls := "SensorTree", name := "cost", desc := "(II)Z" } : Jvm.MethodName) prog_1_method_8_code (3 : Nat) (Option.some Jvm.ClassFile.FieldType.boolean)) ∈ lw_g := lw_at 839 rfl (by decide +kernel)
theorem lz_51 : (Jvm.Cond.methodLink "SensorTreeLaw" (41 : Nat) ({ cls := "SensorTree", name := "cost", desc := "(II)Z" } : Jvm.MethodName)) ∈ lw_g := lw_at 836 (by decide +kernel) (by decide +kernel)
theorem lz_52 : (Jvm.Cond.instanceMethod ({ cls := "SensorTreeModel", name := "cost", desc := "(II)Z" } : Jvm.MethodName)) ∈ lw_g := lw_at 1444 (by decide +kernel) (by decide +kernel)
theorem lz_53 : (Jvm.Cond.selects "SensorTreeModel" ({ cls := "SensorTreeModel", name := "cost", desc := "(II)Z" } : Jvm.MethodName) ({ cls := "SensorTreeModel", name := "cost", desc := "(II)Z" } : Jvm.MethodName)) ∈ lw_g := lw_at 1445 (by decide +kernel) (by decide +kernel)
set_option maxRecDepth 30000 in
theorem lz_54 : (Jvm.Cond.code ({ cls := "SensorTreeModel", name := "cost", desc := "(II)Z" } : Jvm.MethodName) prog_13_method_69_code (3 : Nat) (Option.some Jvm.ClassFile.FieldType.boolean)) ∈ lw_g := lw_at 1446 rfl (by decide +kernel)
theorem lz_55 : (Jvm.Cond.methodLink "SensorTreeLaw" (45 : Nat) ({ cls := "SensorTreeModel", name := "cost", desc := "(II)Z" } : Jvm.MethodName)) ∈ lw_g := lw_at 1443 (by decide +kernel) (by decide +kernel)
theorem lz_56 : (Jvm.Cond.instanceMethod ({ cls := "SensorTree", name := "power", desc := "(IZ)Z" } : Jvm.MethodName)) ∈ lw_g := lw_at 841 (by decide +kernel) (by decide +kernel)
theorem lz_57 : (Jvm.Cond.selects "SensorTree" ({ cls := "SensorTree", name := "power", desc := "(IZ)Z" } : Jvm.MethodName) ({ cls := "SensorTree", name := "power", desc := "(IZ)Z" } : Jvm.MethodName)) ∈ lw_g := lw_at 842 (by decide +kernel) (by decide +kernel)
set_option maxRecDepth 30000 in
theorem lz_58 : (Jvm.Cond.code ({ cls := "SensorTree", name := "power", desc := "(IZ)Z" } : Jvm.MethodName) prog_1_method_9_code (3 : Nat) (Option.some Jvm.ClassFile.FieldType.boolean)) ∈ lw_g := lw_at 843 rfl (by decide +kernel)
theorem lz_59 : (Jvm.Cond.methodLink "SensorTreeLaw" (46 : Nat) ({ cls := "SensorTree", name := "power", desc := "(IZ)Z" } : Jvm.MethodName)) ∈ lw_g := lw_at 840 (by decide +kernel) (by decide +kernel)
theorem lz_60 : (Jvm.Cond.instanceMethod ({ cls := "SensorTreeModel", name := "power", desc := "(IZ)Z" } : Jvm.MethodName)) ∈ lw_g := lw_at 1448 (by decide +kernel) (by decide +kernel)
theorem lz_61 : (Jvm.Cond.selects "SensorTreeModel" ({ cls := "SensorTreeModel", name := "power", desc := "(IZ)Z" } : Jvm.MethodName) ({ cls := "SensorTreeModel", name := "power", desc := "(IZ)Z" } : Jvm.MethodName)) ∈ lw_g := lw_at 1449 (by decide +kernel) (by decide +kernel)
set_option maxRecDepth 30000 in
theorem lz_62 : (Jvm.Cond.code ({ cls := "SensorTreeModel", name := "power", desc := "(IZ)Z" } : Jvm.MethodName) prog_13_method_70_code (3 : Nat) (Option.some Jvm.ClassFile.FieldType.boolean)) ∈ lw_g := lw_at 1450 rfl (by decide +kernel)
theorem lz_63 : (Jvm.Cond.methodLink "SensorTreeLaw" (49 : Nat) ({ cls := "SensorTreeModel", name := "power", desc := "(IZ)Z" } : Jvm.MethodName)) ∈ lw_g := lw_at 1447 (by decide +kernel) (by decide +kernel)
theorem lz_64 : (Jvm.Cond.instanceMethod ({ cls := "SensorTree", name := "repair", desc := "()I" } : Jvm.MethodName)) ∈ lw_g := lw_at 850 (by decide +kernel) (by decide +kernel)
theorem lz_65 : (Jvm.Cond.selects "SensorTree" ({ cls := "SensorTree", name := "repair", desc := "()I" } : Jvm.MethodName) ({ cls := "SensorTree", name := "repair", desc := "()I" } : Jvm.MethodName)) ∈ lw_g := lw_at 851 (by decide +kernel) (by decide +kernel)
set_option maxRecDepth 30000 in
theorem lz_66 : (Jvm.Cond.code ({ cls := "SensorTree", name := "repair", desc := "()I" } : Jvm.MethodName) prog_1_method_10_code (1 : Nat) (Option.some Jvm.ClassFile.FieldType.int)) ∈ lw_g := lw_at 852 rfl (by decide +kernel)
theorem lz_67 : (Jvm.Cond.methodLink "SensorTreeLaw" (50 : Nat) ({ cls := "SensorTree", name := "repair", desc := "()I" } : Jvm.MethodName)) ∈ lw_g := lw_at 849 (by decide +kernel) (by decide +kernel)
theorem lz_68 : (Jvm.Cond.instanceMethod ({ cls := "SensorTreeModel", name := "repair", desc := "()I" } : Jvm.MethodName)) ∈ lw_g := lw_at 1456 (by decide +kernel) (by decide +kernel)
theorem lz_69 : (Jvm.Cond.selects "SensorTreeModel" ({ cls := "SensorTreeModel", name := "repair", desc := "()I" } : Jvm.MethodName) ({ cls := "SensorTreeModel", name := "repair", desc := "()I" } : Jvm.MethodName)) ∈ lw_g := lw_at 1457 (by decide +kernel) (by decide +kernel)
set_option maxRecDepth 30000 in
theorem lz_70 : (Jvm.Cond.code ({ cls := "SensorTreeModel", name := "repair", desc := "()I" } : Jvm.MethodName) prog_13_method_71_code (1 : Nat) (Option.some Jvm.ClassFile.FieldType.int)) ∈ lw_g := lw_at 1458 rfl (by decide +kernel)
theorem lz_71 : (Jvm.Cond.methodLink "SensorTreeLaw" (53 : Nat) ({ cls := "SensorTreeModel", name := "repair", desc := "()I" } : Jvm.MethodName)) ∈ lw_g := lw_at 1455 (by decide +kernel) (by decide +kernel)
theorem lz_72 : (Jvm.Cond.instanceMethod ({ cls := "SensorTree", name := "send", desc := "(II)I" } : Jvm.MethodName)) ∈ lw_g := lw_at 855 (by decide +kernel) (by decide +kernel)
theorem lz_73 : (Jvm.Cond.selects "SensorTree" ({ cls := "SensorTree", name := "send", desc := "(II)I" } : Jvm.MethodName) ({ cls := "SensorTree", name := "send", desc := "(II)I" } : Jvm.MethodName)) ∈ lw_g := lw_at 856 (by decide +kernel) (by decide +kernel)
set_option maxRecDepth 30000 in
theorem lz_74 : (Jvm.Cond.code ({ cls := "SensorTree", name := "send", desc := "(II)I" } : Jvm.MethodName) prog_1_method_11_code (4 : Nat) (Option.some Jvm.ClassFile.FieldType.int)) ∈ lw_g := lw_at 857 rfl (by decide +kernel)
theorem lz_75 : (Jvm.Cond.methodLink "SensorTreeLaw" (54 : Nat) ({ cls := "SensorTree", name := "send", desc := "(II)I" } : Jvm.MethodName)) ∈ lw_g := lw_at 854 (by decide +kernel) (by decide +kernel)
theorem lz_76 : (Jvm.Cond.instanceMethod ({ cls := "SensorTreeModel", name := "send", desc := "(II)I" } : Jvm.MethodName)) ∈ lw_g := lw_at 1460 (by decide +kernel) (by decide +kernel)
theorem lz_77 : (Jvm.Cond.selects "SensorTreeModel" ({ cls := "SensorTreeModel", name := "send", desc := "(II)I" } : Jvm.MethodName) ({ cls := "SensorTreeModel", name := "send", desc := "(II)I" } : Jvm.MethodName)) ∈ lw_g := lw_at 1461 (by decide +kernel) (by decide +kernel)
set_option maxRecDepth 30000 in
theorem lz_78 : (Jvm.Cond.code ({ cls := "SensorTreeModel", name := "send", desc := "(II)I" } : Jvm.MethodName) prog_13_method_72_code (4 : Nat) (Option.some Jvm.ClassFile.FieldType.int)) ∈ lw_g := lw_at 1462 rfl (by decide +kernel)
theorem lz_79 : (Jvm.Cond.methodLink "SensorTreeLaw" (58 : Nat) ({ cls := "SensorTreeModel", name := "send", desc := "(II)I" } : Jvm.MethodName)) ∈ lw_g := lw_at 1459 (by decide +kernel) (by decide +kernel)
theorem lz_80 : (Jvm.Cond.instanceMethod ({ cls := "SensorTree", name := "undo", desc := "()Z" } : Jvm.MethodName)) ∈ lw_g := lw_at 884 (by decide +kernel) (by decide +kernel)
theorem lz_81 : (Jvm.Cond.selects "SensorTree" ({ cls := "SensorTree", name := "undo", desc := "()Z" } : Jvm.MethodName) ({ cls := "SensorTree", name := "undo", desc := "()Z" } : Jvm.MethodName)) ∈ lw_g := lw_at 885 (by decide +kernel) (by decide +kernel)
set_option maxRecDepth 30000 in
theorem lz_82 : (Jvm.Cond.code ({ cls := "SensorTree", name := "undo", desc := "()Z" } : Jvm.MethodName) prog_1_method_12_code (1 : Nat) (Option.some Jvm.ClassFile.FieldType.boolean)) ∈ lw_g := lw_at 886 rfl (by decide +kernel)
theorem lz_83 : (Jvm.Cond.methodLink "SensorTreeLaw" (59 : Nat) ({ cls := "SensorTree", name := "undo", desc := "()Z" } : Jvm.MethodName)) ∈ lw_g := lw_at 883 (by decide +kernel) (by decide +kernel)
theorem lz_84 : (Jvm.Cond.instanceMethod ({ cls := "SensorTreeModel", name := "undo", desc := "()Z" } : Jvm.MethodName)) ∈ lw_g := lw_at 1472 (by decide +kernel) (by decide +kernel)
theorem lz_85 : (Jvm.Cond.selects "SensorTreeModel" ({ cls := "SensorTreeModel", name := "undo", desc := "()Z" } : Jvm.MethodName) ({ cls := "SensorTreeModel", name := "undo", desc := "()Z" } : Jvm.MethodName)) ∈ lw_g := lw_at 1473 (by decide +kernel) (by decide +kernel)
set_option maxRecDepth 30000 in
theorem lz_86 : (Jvm.Cond.code ({ cls := "SensorTreeModel", name := "undo", desc := "()Z" } : Jvm.MethodName) prog_13_method_73_code (1 : Nat) (Option.some Jvm.ClassFile.FieldType.boolean)) ∈ lw_g := lw_at 1474 rfl (by decide +kernel)
theorem lz_87 : (Jvm.Cond.methodLink "SensorTreeLaw" (63 : Nat) ({ cls := "SensorTreeModel", name := "undo", desc := "()Z" } : Jvm.MethodName)) ∈ lw_g := lw_at 1471 (by decide +kernel) (by decide +kernel)
theorem lz_88 : (Jvm.Cond.instanceMethod ({ cls := "SensorTree", name := "post", desc := "(II)I" } : Jvm.MethodName)) ∈ lw_g := lw_at 888 (by decide +kernel) (by decide +kernel)
theorem lz_89 : (Jvm.Cond.selects "SensorTree" ({ cls := "SensorTree", name := "post", desc := "(II)I" } : Jvm.MethodName) ({ cls := "SensorTree", name := "post", desc := "(II)I" } : Jvm.MethodName)) ∈ lw_g := lw_at 889 (by decide +kernel) (by decide +kernel)
set_option maxRecDepth 30000 in
theorem lz_90 : (Jvm.Cond.code ({ cls := "SensorTree", name := "post", desc := "(II)I" } : Jvm.MethodName) prog_1_method_13_code (3 : Nat) (Option.some Jvm.ClassFile.FieldType.int)) ∈ lw_g := lw_at 890 rfl (by decide +kernel)
theorem lz_91 : (Jvm.Cond.methodLink "SensorTreeLaw" (64 : Nat) ({ cls := "SensorTree", name := "post", desc := "(II)I" } : Jvm.MethodName)) ∈ lw_g := lw_at 887 (by decide +kernel) (by decide +kernel)
theorem lz_92 : (Jvm.Cond.instanceMethod ({ cls := "SensorTreeModel", name := "post", desc := "(II)I" } : Jvm.MethodName)) ∈ lw_g := lw_at 1484 (by decide +kernel) (by decide +kernel)
theorem lz_93 : (Jvm.Cond.selects "SensorTreeModel" ({ cls := "SensorTreeModel", name := "post", desc := "(II)I" } : Jvm.MethodName) ({ cls := "SensorTreeModel", name := "post", desc := "(II)I" } : Jvm.MethodName)) ∈ lw_g := lw_at 1485 (by decide +kernel) (by decide +kernel)
set_option maxRecDepth 30000 in
theorem lz_94 : (Jvm.Cond.code ({ cls := "SensorTreeModel", name := "post", desc := "(II)I" } : Jvm.MethodName) prog_13_method_78_code (3 : Nat) (Option.some Jvm.ClassFile.FieldType.int)) ∈ lw_g := lw_at 1486 rfl (by decide +kernel)
theorem lz_95 : (Jvm.Cond.methodLink "SensorTreeLaw" (67 : Nat) ({ cls := "SensorTreeModel", name := "post", desc := "(II)I" } : Jvm.MethodName)) ∈ lw_g := lw_at 1483 (by decide +kernel) (by decide +kernel)
theorem lz_96 : (Jvm.Cond.instanceMethod ({ cls := "SensorTree", name := "heard", desc := "(II)I" } : Jvm.MethodName)) ∈ lw_g := lw_at 896 (by decide +kernel) (by decide +kernel)
theorem lz_97 : (Jvm.Cond.selects "SensorTree" ({ cls := "SensorTree", name := "heard", desc := "(II)I" } : Jvm.MethodName) ({ cls := "SensorTree", name := "heard", desc := "(II)I" } : Jvm.MethodName)) ∈ lw_g := lw_at 897 (by decide +kernel) (by decide +kernel)
set_option maxRecDepth 30000 in
theorem lz_98 : (Jvm.Cond.code ({ cls := "SensorTree", name := "heard", desc := "(II)I" } : Jvm.MethodName) prog_1_method_14_code (3 : Nat) (Option.some Jvm.ClassFile.FieldType.int)) ∈ lw_g := lw_at 898 rfl (by decide +kernel)
theorem lz_99 : (Jvm.Cond.methodLink "SensorTreeLaw" (68 : Nat) ({ cls := "SensorTree", name := "heard", desc := "(II)I" } : Jvm.MethodName)) ∈ lw_g := lw_at 895 (by decide +kernel) (by decide +kernel)
theorem lz_100 : (Jvm.Cond.instanceMethod ({ cls := "SensorTreeModel", name := "heard", desc := "(II)I" } : Jvm.MethodName)) ∈ lw_g := lw_at 1492 (by decide +kernel) (by decide +kernel)
theorem lz_101 : (Jvm.Cond.selects "SensorTreeModel" ({ cls := "SensorTreeModel", name := "heard", desc := "(II)I" } : Jvm.MethodName) ({ cls := "SensorTreeModel", name := "heard", desc := "(II)I" } : Jvm.MethodName)) ∈ lw_g := lw_at 1493 (by decide +kernel) (by decide +kernel)
set_option maxRecDepth 30000 in
theorem lz_102 : (Jvm.Cond.code ({ cls := "SensorTreeModel", name := "heard", desc := "(II)I" } : Jvm.MethodName) prog_13_method_79_code (3 : Nat) (Option.some Jvm.ClassFile.FieldType.int)) ∈ lw_g := lw_at 1494 rfl (by decide +kernel)
theorem lz_103 : (Jvm.Cond.methodLink "SensorTreeLaw" (71 : Nat) ({ cls := "SensorTreeModel", name := "heard", desc := "(II)I" } : Jvm.MethodName)) ∈ lw_g := lw_at 1491 (by decide +kernel) (by decide +kernel)
theorem lz_104 : (Jvm.Cond.instanceMethod ({ cls := "SensorTree", name := "route", desc := "(III)I" } : Jvm.MethodName)) ∈ lw_g := lw_at 900 (by decide +kernel) (by decide +kernel)
theorem lz_105 : (Jvm.Cond.selects "SensorTree" ({ cls := "SensorTree", name := "route", desc := "(III)I" } : Jvm.MethodName) ({ cls := "SensorTree", name := "route", desc := "(III)I" } : Jvm.MethodName)) ∈ lw_g := lw_at 901 (by decide +kernel) (by decide +kernel)
set_option maxRecDepth 30000 in
theorem lz_106 : (Jvm.Cond.code ({ cls := "SensorTree", name := "route", desc := "(III)I" } : Jvm.MethodName) prog_1_method_15_code (5 : Nat) (Option.some Jvm.ClassFile.FieldType.int)) ∈ lw_g := lw_at 902 rfl (by decide +kernel)
theorem lz_107 : (Jvm.Cond.methodLink "SensorTreeLaw" (72 : Nat) ({ cls := "SensorTree", name := "route", desc := "(III)I" } : Jvm.MethodName)) ∈ lw_g := lw_at 899 (by decide +kernel) (by decide +kernel)
theorem lz_108 : (Jvm.Cond.instanceMethod ({ cls := "SensorTreeModel", name := "route", desc := "(III)I" } : Jvm.MethodName)) ∈ lw_g := lw_at 1496 (by decide +kernel) (by decide +kernel)
theorem lz_109 : (Jvm.Cond.selects "SensorTreeModel" ({ cls := "SensorTreeModel", name := "route", desc := "(III)I" } : Jvm.MethodName) ({ cls := "SensorTreeModel", name := "route", desc := "(III)I" } : Jvm.MethodName)) ∈ lw_g := lw_at 1497 (by decide +kernel) (by decide +kernel)
set_option maxRecDepth 30000 in
theorem lz_110 : (Jvm.Cond.code ({ cls := "SensorTreeModel", name := "route", desc := "(III)I" } : Jvm.MethodName) prog_13_method_80_code (5 : Nat) (Option.some Jvm.ClassFile.FieldType.int)) ∈ lw_g := lw_at 1498 rfl (by decide +kernel)
theorem lz_111 : (Jvm.Cond.methodLink "SensorTreeLaw" (76 : Nat) ({ cls := "SensorTreeModel", name := "route", desc := "(III)I" } : Jvm.MethodName)) ∈ lw_g := lw_at 1495 (by decide +kernel) (by decide +kernel)
theorem lz_112 : (Jvm.Cond.instanceMethod ({ cls := "SensorTree", name := "link", desc := "(II)I" } : Jvm.MethodName)) ∈ lw_g := lw_at 904 (by decide +kernel) (by decide +kernel)
theorem lz_113 : (Jvm.Cond.selects "SensorTree" ({ cls := "SensorTree", name := "link", desc := "(II)I" } : Jvm.MethodName) ({ cls := "SensorTree", name := "link", desc := "(II)I" } : Jvm.MethodName)) ∈ lw_g := lw_at 905 (by decide +kernel) (by decide +kernel)
set_option maxRecDepth 30000 in
theorem lz_114 : (Jvm.Cond.code ({ cls := "SensorTree", name := "link", desc := "(II)I" } : Jvm.MethodName) prog_1_method_16_code (3 : Nat) (Option.some Jvm.ClassFile.FieldType.int)) ∈ lw_g := lw_at 906 rfl (by decide +kernel)
theorem lz_115 : (Jvm.Cond.methodLink "SensorTreeLaw" (77 : Nat) ({ cls := "SensorTree", name := "link", desc := "(II)I" } : Jvm.MethodName)) ∈ lw_g := lw_at 903 (by decide +kernel) (by decide +kernel)
theorem lz_116 : (Jvm.Cond.instanceMethod ({ cls := "SensorTreeModel", name := "link", desc := "(II)I" } : Jvm.MethodName)) ∈ lw_g := lw_at 1500 (by decide +kernel) (by decide +kernel)
theorem lz_117 : (Jvm.Cond.selects "SensorTreeModel" ({ cls := "SensorTreeModel", name := "link", desc := "(II)I" } : Jvm.MethodName) ({ cls := "SensorTreeModel", name := "link", desc := "(II)I" } : Jvm.MethodName)) ∈ lw_g := lw_at 1501 (by decide +kernel) (by decide +kernel)
set_option maxRecDepth 30000 in
theorem lz_118 : (Jvm.Cond.code ({ cls := "SensorTreeModel", name := "link", desc := "(II)I" } : Jvm.MethodName) prog_13_method_81_code (3 : Nat) (Option.some Jvm.ClassFile.FieldType.int)) ∈ lw_g := lw_at 1502 rfl (by decide +kernel)
theorem lz_119 : (Jvm.Cond.methodLink "SensorTreeLaw" (80 : Nat) ({ cls := "SensorTreeModel", name := "link", desc := "(II)I" } : Jvm.MethodName)) ∈ lw_g := lw_at 1499 (by decide +kernel) (by decide +kernel)
theorem lz_120 : (Jvm.Cond.instanceMethod ({ cls := "SensorTree", name := "neighbours", desc := "(I)I" } : Jvm.MethodName)) ∈ lw_g := lw_at 909 (by decide +kernel) (by decide +kernel)
theorem lz_121 : (Jvm.Cond.selects "SensorTree" ({ cls := "SensorTree", name := "neighbours", desc := "(I)I" } : Jvm.MethodName) ({ cls := "SensorTree", name := "neighbours", desc := "(I)I" } : Jvm.MethodName)) ∈ lw_g := lw_at 910 (by decide +kernel) (by decide +kernel)
set_option maxRecDepth 30000 in
theorem lz_122 : (Jvm.Cond.code ({ cls := "SensorTree", name := "neighbours", desc := "(I)I" } : Jvm.MethodName) prog_1_method_17_code (4 : Nat) (Option.some Jvm.ClassFile.FieldType.int)) ∈ lw_g := lw_at 911 rfl (by decide +kernel)
theorem lz_123 : (Jvm.Cond.methodLink "SensorTreeLaw" (81 : Nat) ({ cls := "SensorTree", name := "neighbours", desc := "(I)I" } : Jvm.MethodName)) ∈ lw_g := lw_at 908 (by decide +kernel) (by decide +kernel)
theorem lz_124 : (Jvm.Cond.instanceMethod ({ cls := "SensorTreeModel", name := "neighbours", desc := "(I)I" } : Jvm.MethodName)) ∈ lw_g := lw_at 1504 (by decide +kernel) (by decide +kernel)
theorem lz_125 : (Jvm.Cond.selects "SensorTreeModel" ({ cls := "SensorTreeModel", name := "neighbours", desc := "(I)I" } : Jvm.MethodName) ({ cls := "SensorTreeModel", name := "neighbours", desc := "(I)I" } : Jvm.MethodName)) ∈ lw_g := lw_at 1505 (by decide +kernel) (by decide +kernel)
set_option maxRecDepth 30000 in
theorem lz_126 : (Jvm.Cond.code ({ cls := "SensorTreeModel", name := "neighbours", desc := "(I)I" } : Jvm.MethodName) prog_13_method_82_code (4 : Nat) (Option.some Jvm.ClassFile.FieldType.int)) ∈ lw_g := lw_at 1506 rfl (by decide +kernel)
theorem lz_127 : (Jvm.Cond.methodLink "SensorTreeLaw" (84 : Nat) ({ cls := "SensorTreeModel", name := "neighbours", desc := "(I)I" } : Jvm.MethodName)) ∈ lw_g := lw_at 1503 (by decide +kernel) (by decide +kernel)
theorem lz_128 : (Jvm.Cond.instanceMethod ({ cls := "SensorTree", name := "truth", desc := "(I)I" } : Jvm.MethodName)) ∈ lw_g := lw_at 914 (by decide +kernel) (by decide +kernel)
theorem lz_129 : (Jvm.Cond.selects "SensorTree" ({ cls := "SensorTree", name := "truth", desc := "(I)I" } : Jvm.MethodName) ({ cls := "SensorTree", name := "truth", desc := "(I)I" } : Jvm.MethodName)) ∈ lw_g := lw_at 915 (by decide +kernel) (by decide +kernel)
set_option maxRecDepth 30000 in
theorem lz_130 : (Jvm.Cond.code ({ cls := "SensorTree", name := "truth", desc := "(I)I" } : Jvm.MethodName) prog_1_method_18_code (2 : Nat) (Option.some Jvm.ClassFile.FieldType.int)) ∈ lw_g := lw_at 916 rfl (by decide +kernel)
theorem lz_131 : (Jvm.Cond.methodLink "SensorTreeLaw" (85 : Nat) ({ cls := "SensorTree", name := "truth", desc := "(I)I" } : Jvm.MethodName)) ∈ lw_g := lw_at 913 (by decide +kernel) (by decide +kernel)
theorem lz_132 : (Jvm.Cond.instanceMethod ({ cls := "SensorTreeModel", name := "truth", desc := "(I)I" } : Jvm.MethodName)) ∈ lw_g := lw_at 1508 (by decide +kernel) (by decide +kernel)
theorem lz_133 : (Jvm.Cond.selects "SensorTreeModel" ({ cls := "SensorTreeModel", name := "truth", desc := "(I)I" } : Jvm.MethodName) ({ cls := "SensorTreeModel", name := "truth", desc := "(I)I" } : Jvm.MethodName)) ∈ lw_g := lw_at 1509 (by decide +kernel) (by decide +kernel)
set_option maxRecDepth 30000 in
theorem lz_134 : (Jvm.Cond.code ({ cls := "SensorTreeModel", name := "truth", desc := "(I)I" } : Jvm.MethodName) prog_13_method_84_code (2 : Nat) (Option.some Jvm.ClassFile.FieldType.int)) ∈ lw_g := lw_at 1510 rfl (by decide +kernel)
theorem lz_135 : (Jvm.Cond.methodLink "SensorTreeLaw" (88 : Nat) ({ cls := "SensorTreeModel", name := "truth", desc := "(I)I" } : Jvm.MethodName)) ∈ lw_g := lw_at 1507 (by decide +kernel) (by decide +kernel)
theorem lz_136 : (Jvm.Cond.instanceMethod ({ cls := "SensorTree", name := "right", desc := "()I" } : Jvm.MethodName)) ∈ lw_g := lw_at 925 (by decide +kernel) (by decide +kernel)
theorem lz_137 : (Jvm.Cond.selects "SensorTree" ({ cls := "SensorTree", name := "right", desc := "()I" } : Jvm.MethodName) ({ cls := "SensorTree", name := "right", desc := "()I" } : Jvm.MethodName)) ∈ lw_g := lw_at 926 (by decide +kernel) (by decide +kernel)
set_option maxRecDepth 30000 in
theorem lz_138 : (Jvm.Cond.code ({ cls := "SensorTree", name := "right", desc := "()I" } : Jvm.MethodName) prog_1_method_19_code (1 : Nat) (Option.some Jvm.ClassFile.FieldType.int)) ∈ lw_g := lw_at 927 rfl (by decide +kernel)
theorem lz_139 : (Jvm.Cond.methodLink "SensorTreeLaw" (89 : Nat) ({ cls := "SensorTree", name := "right", desc := "()I" } : Jvm.MethodName)) ∈ lw_g := lw_at 924 (by decide +kernel) (by decide +kernel)
theorem lz_140 : (Jvm.Cond.instanceMethod ({ cls := "SensorTreeModel", name := "right", desc := "()I" } : Jvm.MethodName)) ∈ lw_g := lw_at 1520 (by decide +kernel) (by decide +kernel)
theorem lz_141 : (Jvm.Cond.selects "SensorTreeModel" ({ cls := "SensorTreeModel", name := "right", desc := "()I" } : Jvm.MethodName) ({ cls := "SensorTreeModel", name := "right", desc := "()I" } : Jvm.MethodName)) ∈ lw_g := lw_at 1521 (by decide +kernel) (by decide +kernel)
set_option maxRecDepth 30000 in
theorem lz_142 : (Jvm.Cond.code ({ cls := "SensorTreeModel", name := "right", desc := "()I" } : Jvm.MethodName) prog_13_method_87_code (1 : Nat) (Option.some Jvm.ClassFile.FieldType.int)) ∈ lw_g := lw_at 1522 rfl (by decide +kernel)
theorem lz_143 : (Jvm.Cond.methodLink "SensorTreeLaw" (92 : Nat) ({ cls := "SensorTreeModel", name := "right", desc := "()I" } : Jvm.MethodName)) ∈ lw_g := lw_at 1519 (by decide +kernel) (by decide +kernel)
theorem lz_144 : (Jvm.Cond.instanceMethod ({ cls := "SensorTree", name := "circle", desc := "()I" } : Jvm.MethodName)) ∈ lw_g := lw_at 942 (by decide +kernel) (by decide +kernel)
theorem lz_145 : (Jvm.Cond.selects "SensorTree" ({ cls := "SensorTree", name := "circle", desc := "()I" } : Jvm.MethodName) ({ cls := "SensorTree", name := "circle", desc := "()I" } : Jvm.MethodName)) ∈ lw_g := lw_at 943 (by decide +kernel) (by decide +kernel)
set_option maxRecDepth 30000 in
theorem lz_146 : (Jvm.Cond.code ({ cls := "SensorTree", name := "circle", desc := "()I" } : Jvm.MethodName) prog_1_method_20_code (3 : Nat) (Option.some Jvm.ClassFile.FieldType.int)) ∈ lw_g := lw_at 944 rfl (by decide +kernel)
theorem lz_147 : (Jvm.Cond.methodLink "SensorTreeLaw" (93 : Nat) ({ cls := "SensorTree", name := "circle", desc := "()I" } : Jvm.MethodName)) ∈ lw_g := lw_at 941 (by decide +kernel) (by decide +kernel)
theorem lz_148 : (Jvm.Cond.instanceMethod ({ cls := "SensorTreeModel", name := "circle", desc := "()I" } : Jvm.MethodName)) ∈ lw_g := lw_at 1532 (by decide +kernel) (by decide +kernel)
theorem lz_149 : (Jvm.Cond.selects "SensorTreeModel" ({ cls := "SensorTreeModel", name := "circle", desc := "()I" } : Jvm.MethodName) ({ cls := "SensorTreeModel", name := "circle", desc := "()I" } : Jvm.MethodName)) ∈ lw_g := lw_at 1533 (by decide +kernel) (by decide +kernel)
set_option maxRecDepth 30000 in
theorem lz_150 : (Jvm.Cond.code ({ cls := "SensorTreeModel", name := "circle", desc := "()I" } : Jvm.MethodName) prog_13_method_89_code (3 : Nat) (Option.some Jvm.ClassFile.FieldType.int)) ∈ lw_g := lw_at 1534 rfl (by decide +kernel)
theorem lz_151 : (Jvm.Cond.methodLink "SensorTreeLaw" (96 : Nat) ({ cls := "SensorTreeModel", name := "circle", desc := "()I" } : Jvm.MethodName)) ∈ lw_g := lw_at 1531 (by decide +kernel) (by decide +kernel)
theorem lz_152 : (Jvm.Cond.instanceMethod ({ cls := "SensorTree", name := "below", desc := "(I)I" } : Jvm.MethodName)) ∈ lw_g := lw_at 947 (by decide +kernel) (by decide +kernel)
theorem lz_153 : (Jvm.Cond.selects "SensorTree" ({ cls := "SensorTree", name := "below", desc := "(I)I" } : Jvm.MethodName) ({ cls := "SensorTree", name := "below", desc := "(I)I" } : Jvm.MethodName)) ∈ lw_g := lw_at 948 (by decide +kernel) (by decide +kernel)
set_option maxRecDepth 30000 in
theorem lz_154 : (Jvm.Cond.code ({ cls := "SensorTree", name := "below", desc := "(I)I" } : Jvm.MethodName) prog_1_method_21_code (4 : Nat) (Option.some Jvm.ClassFile.FieldType.int)) ∈ lw_g := lw_at 949 rfl (by decide +kernel)
theorem lz_155 : (Jvm.Cond.methodLink "SensorTreeLaw" (97 : Nat) ({ cls := "SensorTree", name := "below", desc := "(I)I" } : Jvm.MethodName)) ∈ lw_g := lw_at 946 (by decide +kernel) (by decide +kernel)
theorem lz_156 : (Jvm.Cond.instanceMethod ({ cls := "SensorTreeModel", name := "below", desc := "(I)I" } : Jvm.MethodName)) ∈ lw_g := lw_at 1540 (by decide +kernel) (by decide +kernel)
theorem lz_157 : (Jvm.Cond.selects "SensorTreeModel" ({ cls := "SensorTreeModel", name := "below", desc := "(I)I" } : Jvm.MethodName) ({ cls := "SensorTreeModel", name := "below", desc := "(I)I" } : Jvm.MethodName)) ∈ lw_g := lw_at 1541 (by decide +kernel) (by decide +kernel)
set_option maxRecDepth 30000 in
theorem lz_158 : (Jvm.Cond.code ({ cls := "SensorTreeModel", name := "below", desc := "(I)I" } : Jvm.MethodName) prog_13_method_90_code (4 : Nat) (Option.some Jvm.ClassFile.FieldType.int)) ∈ lw_g := lw_at 1542 rfl (by decide +kernel)
theorem lz_159 : (Jvm.Cond.methodLink "SensorTreeLaw" (100 : Nat) ({ cls := "SensorTreeModel", name := "below", desc := "(I)I" } : Jvm.MethodName)) ∈ lw_g := lw_at 1539 (by decide +kernel) (by decide +kernel)
theorem lz_160 : (Jvm.Cond.instanceMethod ({ cls := "SensorTree", name := "way", desc := "(II)I" } : Jvm.MethodName)) ∈ lw_g := lw_at 951 (by decide +kernel) (by decide +kernel)
theorem lz_161 : (Jvm.Cond.selects "SensorTree" ({ cls := "SensorTree", name := "way", desc := "(II)I" } : Jvm.MethodName) ({ cls := "SensorTree", name := "way", desc := "(II)I" } : Jvm.MethodName)) ∈ lw_g := lw_at 952 (by decide +kernel) (by decide +kernel)
set_option maxRecDepth 30000 in
theorem lz_162 : (Jvm.Cond.code ({ cls := "SensorTree", name := "way", desc := "(II)I" } : Jvm.MethodName) prog_1_method_22_code (5 : Nat) (Option.some Jvm.ClassFile.FieldType.int)) ∈ lw_g := lw_at 953 rfl (by decide +kernel)
theorem lz_163 : (Jvm.Cond.methodLink "SensorTreeLaw" (101 : Nat) ({ cls := "SensorTree", name := "way", desc := "(II)I" } : Jvm.MethodName)) ∈ lw_g := lw_at 950 (by decide +kernel) (by decide +kernel)
theorem lz_164 : (Jvm.Cond.instanceMethod ({ cls := "SensorTreeModel", name := "way", desc := "(II)I" } : Jvm.MethodName)) ∈ lw_g := lw_at 1544 (by decide +kernel) (by decide +kernel)
theorem lz_165 : (Jvm.Cond.selects "SensorTreeModel" ({ cls := "SensorTreeModel", name := "way", desc := "(II)I" } : Jvm.MethodName) ({ cls := "SensorTreeModel", name := "way", desc := "(II)I" } : Jvm.MethodName)) ∈ lw_g := lw_at 1545 (by decide +kernel) (by decide +kernel)
set_option maxRecDepth 30000 in
theorem lz_166 : (Jvm.Cond.code ({ cls := "SensorTreeModel", name := "way", desc := "(II)I" } : Jvm.MethodName) prog_13_method_91_code (5 : Nat) (Option.some Jvm.ClassFile.FieldType.int)) ∈ lw_g := lw_at 1546 rfl (by decide +kernel)
theorem lz_167 : (Jvm.Cond.methodLink "SensorTreeLaw" (104 : Nat) ({ cls := "SensorTreeModel", name := "way", desc := "(II)I" } : Jvm.MethodName)) ∈ lw_g := lw_at 1543 (by decide +kernel) (by decide +kernel)
theorem lz_168 : (Jvm.Cond.instanceMethod ({ cls := "SensorTree", name := "would", desc := "(III)I" } : Jvm.MethodName)) ∈ lw_g := lw_at 955 (by decide +kernel) (by decide +kernel)
theorem lz_169 : (Jvm.Cond.selects "SensorTree" ({ cls := "SensorTree", name := "would", desc := "(III)I" } : Jvm.MethodName) ({ cls := "SensorTree", name := "would", desc := "(III)I" } : Jvm.MethodName)) ∈ lw_g := lw_at 956 (by decide +kernel) (by decide +kernel)
set_option maxRecDepth 30000 in
theorem lz_170 : (Jvm.Cond.code ({ cls := "SensorTree", name := "would", desc := "(III)I" } : Jvm.MethodName) prog_1_method_23_code (4 : Nat) (Option.some Jvm.ClassFile.FieldType.int)) ∈ lw_g := lw_at 957 rfl (by decide +kernel)
theorem lz_171 : (Jvm.Cond.methodLink "SensorTreeLaw" (105 : Nat) ({ cls := "SensorTree", name := "would", desc := "(III)I" } : Jvm.MethodName)) ∈ lw_g := lw_at 954 (by decide +kernel) (by decide +kernel)
theorem lz_172 : (Jvm.Cond.instanceMethod ({ cls := "SensorTreeModel", name := "would", desc := "(III)I" } : Jvm.MethodName)) ∈ lw_g := lw_at 1548 (by decide +kernel) (by decide +kernel)
theorem lz_173 : (Jvm.Cond.selects "SensorTreeModel" ({ cls := "SensorTreeModel", name := "would", desc := "(III)I" } : Jvm.MethodName) ({ cls := "SensorTreeModel", name := "would", desc := "(III)I" } : Jvm.MethodName)) ∈ lw_g := lw_at 1549 (by decide +kernel) (by decide +kernel)
set_option maxRecDepth 30000 in
theorem lz_174 : (Jvm.Cond.code ({ cls := "SensorTreeModel", name := "would", desc := "(III)I" } : Jvm.MethodName) prog_13_method_92_code (5 : Nat) (Option.some Jvm.ClassFile.FieldType.int)) ∈ lw_g := lw_at 1550 rfl (by decide +kernel)
theorem lz_175 : (Jvm.Cond.methodLink "SensorTreeLaw" (108 : Nat) ({ cls := "SensorTreeModel", name := "would", desc := "(III)I" } : Jvm.MethodName)) ∈ lw_g := lw_at 1547 (by decide +kernel) (by decide +kernel)
theorem lz_176 : (Jvm.Cond.instanceMethod ({ cls := "SensorTree", name := "hop", desc := "(III)I" } : Jvm.MethodName)) ∈ lw_g := lw_at 959 (by decide +kernel) (by decide +kernel)
theorem lz_177 : (Jvm.Cond.selects "SensorTree" ({ cls := "SensorTree", name := "hop", desc := "(III)I" } : Jvm.MethodName) ({ cls := "SensorTree", name := "hop", desc := "(III)I" } : Jvm.MethodName)) ∈ lw_g := lw_at 960 (by decide +kernel) (by decide +kernel)
set_option maxRecDepth 30000 in
theorem lz_178 : (Jvm.Cond.code ({ cls := "SensorTree", name := "hop", desc := "(III)I" } : Jvm.MethodName) prog_1_method_24_code (4 : Nat) (Option.some Jvm.ClassFile.FieldType.int)) ∈ lw_g := lw_at 961 rfl (by decide +kernel)
theorem lz_179 : (Jvm.Cond.methodLink "SensorTreeLaw" (109 : Nat) ({ cls := "SensorTree", name := "hop", desc := "(III)I" } : Jvm.MethodName)) ∈ lw_g := lw_at 958 (by decide +kernel) (by decide +kernel)
theorem lz_180 : (Jvm.Cond.instanceMethod ({ cls := "SensorTreeModel", name := "hop", desc := "(III)I" } : Jvm.MethodName)) ∈ lw_g := lw_at 1552 (by decide +kernel) (by decide +kernel)
theorem lz_181 : (Jvm.Cond.selects "SensorTreeModel" ({ cls := "SensorTreeModel", name := "hop", desc := "(III)I" } : Jvm.MethodName) ({ cls := "SensorTreeModel", name := "hop", desc := "(III)I" } : Jvm.MethodName)) ∈ lw_g := lw_at 1553 (by decide +kernel) (by decide +kernel)
set_option maxRecDepth 30000 in
theorem lz_182 : (Jvm.Cond.code ({ cls := "SensorTreeModel", name := "hop", desc := "(III)I" } : Jvm.MethodName) prog_13_method_93_code (4 : Nat) (Option.some Jvm.ClassFile.FieldType.int)) ∈ lw_g := lw_at 1554 rfl (by decide +kernel)
theorem lz_183 : (Jvm.Cond.methodLink "SensorTreeLaw" (112 : Nat) ({ cls := "SensorTreeModel", name := "hop", desc := "(III)I" } : Jvm.MethodName)) ∈ lw_g := lw_at 1551 (by decide +kernel) (by decide +kernel)
theorem lz_184 : (Jvm.Cond.instanceMethod ({ cls := "SensorTree", name := "soon", desc := "()I" } : Jvm.MethodName)) ∈ lw_g := lw_at 963 (by decide +kernel) (by decide +kernel)
theorem lz_185 : (Jvm.Cond.selects "SensorTree" ({ cls := "SensorTree", name := "soon", desc := "()I" } : Jvm.MethodName) ({ cls := "SensorTree", name := "soon", desc := "()I" } : Jvm.MethodName)) ∈ lw_g := lw_at 964 (by decide +kernel) (by decide +kernel)
set_option maxRecDepth 30000 in
theorem lz_186 : (Jvm.Cond.code ({ cls := "SensorTree", name := "soon", desc := "()I" } : Jvm.MethodName) prog_1_method_25_code (2 : Nat) (Option.some Jvm.ClassFile.FieldType.int)) ∈ lw_g := lw_at 965 rfl (by decide +kernel)
theorem lz_187 : (Jvm.Cond.methodLink "SensorTreeLaw" (113 : Nat) ({ cls := "SensorTree", name := "soon", desc := "()I" } : Jvm.MethodName)) ∈ lw_g := lw_at 962 (by decide +kernel) (by decide +kernel)
theorem lz_188 : (Jvm.Cond.instanceMethod ({ cls := "SensorTreeModel", name := "soon", desc := "()I" } : Jvm.MethodName)) ∈ lw_g := lw_at 1556 (by decide +kernel) (by decide +kernel)
theorem lz_189 : (Jvm.Cond.selects "SensorTreeModel" ({ cls := "SensorTreeModel", name := "soon", desc := "()I" } : Jvm.MethodName) ({ cls := "SensorTreeModel", name := "soon", desc := "()I" } : Jvm.MethodName)) ∈ lw_g := lw_at 1557 (by decide +kernel) (by decide +kernel)
set_option maxRecDepth 30000 in
theorem lz_190 : (Jvm.Cond.code ({ cls := "SensorTreeModel", name := "soon", desc := "()I" } : Jvm.MethodName) prog_13_method_94_code (2 : Nat) (Option.some Jvm.ClassFile.FieldType.int)) ∈ lw_g := lw_at 1558 rfl (by decide +kernel)
theorem lz_191 : (Jvm.Cond.methodLink "SensorTreeLaw" (116 : Nat) ({ cls := "SensorTreeModel", name := "soon", desc := "()I" } : Jvm.MethodName)) ∈ lw_g := lw_at 1555 (by decide +kernel) (by decide +kernel)
theorem lz_192 : (Jvm.Cond.instanceMethod ({ cls := "SensorTree", name := "busy", desc := "(I)I" } : Jvm.MethodName)) ∈ lw_g := lw_at 967 (by decide +kernel) (by decide +kernel)
theorem lz_193 : (Jvm.Cond.selects "SensorTree" ({ cls := "SensorTree", name := "busy", desc := "(I)I" } : Jvm.MethodName) ({ cls := "SensorTree", name := "busy", desc := "(I)I" } : Jvm.MethodName)) ∈ lw_g := lw_at 968 (by decide +kernel) (by decide +kernel)
set_option maxRecDepth 30000 in
theorem lz_194 : (Jvm.Cond.code ({ cls := "SensorTree", name := "busy", desc := "(I)I" } : Jvm.MethodName) prog_1_method_26_code (2 : Nat) (Option.some Jvm.ClassFile.FieldType.int)) ∈ lw_g := lw_at 969 rfl (by decide +kernel)
theorem lz_195 : (Jvm.Cond.methodLink "SensorTreeLaw" (117 : Nat) ({ cls := "SensorTree", name := "busy", desc := "(I)I" } : Jvm.MethodName)) ∈ lw_g := lw_at 966 (by decide +kernel) (by decide +kernel)
theorem lz_196 : (Jvm.Cond.instanceMethod ({ cls := "SensorTreeModel", name := "busy", desc := "(I)I" } : Jvm.MethodName)) ∈ lw_g := lw_at 1560 (by decide +kernel) (by decide +kernel)
theorem lz_197 : (Jvm.Cond.selects "SensorTreeModel" ({ cls := "SensorTreeModel", name := "busy", desc := "(I)I" } : Jvm.MethodName) ({ cls := "SensorTreeModel", name := "busy", desc := "(I)I" } : Jvm.MethodName)) ∈ lw_g := lw_at 1561 (by decide +kernel) (by decide +kernel)
set_option maxRecDepth 30000 in
theorem lz_198 : (Jvm.Cond.code ({ cls := "SensorTreeModel", name := "busy", desc := "(I)I" } : Jvm.MethodName) prog_13_method_96_code (3 : Nat) (Option.some Jvm.ClassFile.FieldType.int)) ∈ lw_g := lw_at 1562 rfl (by decide +kernel)
theorem lz_199 : (Jvm.Cond.methodLink "SensorTreeLaw" (120 : Nat) ({ cls := "SensorTreeModel", name := "busy", desc := "(I)I" } : Jvm.MethodName)) ∈ lw_g := lw_at 1559 (by decide +kernel) (by decide +kernel)
theorem lz_200 : (Jvm.Cond.instanceMethod ({ cls := "SensorTree", name := "cut", desc := "(I)I" } : Jvm.MethodName)) ∈ lw_g := lw_at 979 (by decide +kernel) (by decide +kernel)
theorem lz_201 : (Jvm.Cond.selects "SensorTree" ({ cls := "SensorTree", name := "cut", desc := "(I)I" } : Jvm.MethodName) ({ cls := "SensorTree", name := "cut", desc := "(I)I" } : Jvm.MethodName)) ∈ lw_g := lw_at 980 (by decide +kernel) (by decide +kernel)
set_option maxRecDepth 30000 in
theorem lz_202 : (Jvm.Cond.code ({ cls := "SensorTree", name := "cut", desc := "(I)I" } : Jvm.MethodName) prog_1_method_27_code (3 : Nat) (Option.some Jvm.ClassFile.FieldType.int)) ∈ lw_g := lw_at 981 rfl (by decide +kernel)
theorem lz_203 : (Jvm.Cond.methodLink "SensorTreeLaw" (121 : Nat) ({ cls := "SensorTree", name := "cut", desc := "(I)I" } : Jvm.MethodName)) ∈ lw_g := lw_at 978 (by decide +kernel) (by decide +kernel)
theorem lz_204 : (Jvm.Cond.instanceMethod ({ cls := "SensorTreeModel", name := "cut", desc := "(I)I" } : Jvm.MethodName)) ∈ lw_g := lw_at 1568 (by decide +kernel) (by decide +kernel)
theorem lz_205 : (Jvm.Cond.selects "SensorTreeModel" ({ cls := "SensorTreeModel", name := "cut", desc := "(I)I" } : Jvm.MethodName) ({ cls := "SensorTreeModel", name := "cut", desc := "(I)I" } : Jvm.MethodName)) ∈ lw_g := lw_at 1569 (by decide +kernel) (by decide +kernel)
set_option maxRecDepth 30000 in
theorem lz_206 : (Jvm.Cond.code ({ cls := "SensorTreeModel", name := "cut", desc := "(I)I" } : Jvm.MethodName) prog_13_method_97_code (4 : Nat) (Option.some Jvm.ClassFile.FieldType.int)) ∈ lw_g := lw_at 1570 rfl (by decide +kernel)
theorem lz_207 : (Jvm.Cond.methodLink "SensorTreeLaw" (124 : Nat) ({ cls := "SensorTreeModel", name := "cut", desc := "(I)I" } : Jvm.MethodName)) ∈ lw_g := lw_at 1567 (by decide +kernel) (by decide +kernel)
theorem lz_208 : (Jvm.Cond.instanceMethod ({ cls := "SensorTree", name := "needs", desc := "(I)I" } : Jvm.MethodName)) ∈ lw_g := lw_at 987 (by decide +kernel) (by decide +kernel)
theorem lz_209 : (Jvm.Cond.selects "SensorTree" ({ cls := "SensorTree", name := "needs", desc := "(I)I" } : Jvm.MethodName) ({ cls := "SensorTree", name := "needs", desc := "(I)I" } : Jvm.MethodName)) ∈ lw_g := lw_at 988 (by decide +kernel) (by decide +kernel)
set_option maxRecDepth 30000 in
theorem lz_210 : (Jvm.Cond.code ({ cls := "SensorTree", name := "needs", desc := "(I)I" } : Jvm.MethodName) prog_1_method_28_code (5 : Nat) (Option.some Jvm.ClassFile.FieldType.int)) ∈ lw_g := lw_at 989 rfl (by decide +kernel)
theorem lz_211 : (Jvm.Cond.methodLink "SensorTreeLaw" (125 : Nat) ({ cls := "SensorTree", name := "needs", desc := "(I)I" } : Jvm.MethodName)) ∈ lw_g := lw_at 986 (by decide +kernel) (by decide +kernel)
theorem lz_212 : (Jvm.Cond.instanceMethod ({ cls := "SensorTreeModel", name := "needs", desc := "(I)I" } : Jvm.MethodName)) ∈ lw_g := lw_at 1572 (by decide +kernel) (by decide +kernel)
theorem lz_213 : (Jvm.Cond.selects "SensorTreeModel" ({ cls := "SensorTreeModel", name := "needs", desc := "(I)I" } : Jvm.MethodName) ({ cls := "SensorTreeModel", name := "needs", desc := "(I)I" } : Jvm.MethodName)) ∈ lw_g := lw_at 1573 (by decide +kernel) (by decide +kernel)
set_option maxRecDepth 30000 in
theorem lz_214 : (Jvm.Cond.code ({ cls := "SensorTreeModel", name := "needs", desc := "(I)I" } : Jvm.MethodName) prog_13_method_98_code (5 : Nat) (Option.some Jvm.ClassFile.FieldType.int)) ∈ lw_g := lw_at 1574 rfl (by decide +kernel)
theorem lz_215 : (Jvm.Cond.methodLink "SensorTreeLaw" (128 : Nat) ({ cls := "SensorTreeModel", name := "needs", desc := "(I)I" } : Jvm.MethodName)) ∈ lw_g := lw_at 1571 (by decide +kernel) (by decide +kernel)
theorem lz_216 : (Jvm.Cond.instanceMethod ({ cls := "SensorTree", name := "spare", desc := "(I)I" } : Jvm.MethodName)) ∈ lw_g := lw_at 991 (by decide +kernel) (by decide +kernel)
theorem lz_217 : (Jvm.Cond.selects "SensorTree" ({ cls := "SensorTree", name := "spare", desc := "(I)I" } : Jvm.MethodName) ({ cls := "SensorTree", name := "spare", desc := "(I)I" } : Jvm.MethodName)) ∈ lw_g := lw_at 992 (by decide +kernel) (by decide +kernel)
set_option maxRecDepth 30000 in
theorem lz_218 : (Jvm.Cond.code ({ cls := "SensorTree", name := "spare", desc := "(I)I" } : Jvm.MethodName) prog_1_method_29_code (2 : Nat) (Option.some Jvm.ClassFile.FieldType.int)) ∈ lw_g := lw_at 993 rfl (by decide +kernel)
theorem lz_219 : (Jvm.Cond.methodLink "SensorTreeLaw" (129 : Nat) ({ cls := "SensorTree", name := "spare", desc := "(I)I" } : Jvm.MethodName)) ∈ lw_g := lw_at 990 (by decide +kernel) (by decide +kernel)
theorem lz_220 : (Jvm.Cond.instanceMethod ({ cls := "SensorTreeModel", name := "spare", desc := "(I)I" } : Jvm.MethodName)) ∈ lw_g := lw_at 1576 (by decide +kernel) (by decide +kernel)
theorem lz_221 : (Jvm.Cond.selects "SensorTreeModel" ({ cls := "SensorTreeModel", name := "spare", desc := "(I)I" } : Jvm.MethodName) ({ cls := "SensorTreeModel", name := "spare", desc := "(I)I" } : Jvm.MethodName)) ∈ lw_g := lw_at 1577 (by decide +kernel) (by decide +kernel)
set_option maxRecDepth 30000 in
theorem lz_222 : (Jvm.Cond.code ({ cls := "SensorTreeModel", name := "spare", desc := "(I)I" } : Jvm.MethodName) prog_13_method_99_code (3 : Nat) (Option.some Jvm.ClassFile.FieldType.int)) ∈ lw_g := lw_at 1578 rfl (by decide +kernel)
theorem lz_223 : (Jvm.Cond.methodLink "SensorTreeLaw" (132 : Nat) ({ cls := "SensorTreeModel", name := "spare", desc := "(I)I" } : Jvm.MethodName)) ∈ lw_g := lw_at 1575 (by decide +kernel) (by decide +kernel)
theorem lz_224 : (Jvm.Cond.instanceMethod ({ cls := "SensorTree", name := "deep", desc := "()I" } : Jvm.MethodName)) ∈ lw_g := lw_at 996 (by decide +kernel) (by decide +kernel)
theorem lz_225 : (Jvm.Cond.selects "SensorTree" ({ cls := "SensorTree", name := "deep", desc := "()I" } : Jvm.MethodName) ({ cls := "SensorTree", name := "deep", desc := "()I" } : Jvm.MethodName)) ∈ lw_g := lw_at 997 (by decide +kernel) (by decide +kernel)
set_option maxRecDepth 30000 in
theorem lz_226 : (Jvm.Cond.code ({ cls := "SensorTree", name := "deep", desc := "()I" } : Jvm.MethodName) prog_1_method_30_code (3 : Nat) (Option.some Jvm.ClassFile.FieldType.int)) ∈ lw_g := lw_at 998 rfl (by decide +kernel)
theorem lz_227 : (Jvm.Cond.methodLink "SensorTreeLaw" (133 : Nat) ({ cls := "SensorTree", name := "deep", desc := "()I" } : Jvm.MethodName)) ∈ lw_g := lw_at 995 (by decide +kernel) (by decide +kernel)
theorem lz_228 : (Jvm.Cond.instanceMethod ({ cls := "SensorTreeModel", name := "deep", desc := "()I" } : Jvm.MethodName)) ∈ lw_g := lw_at 1580 (by decide +kernel) (by decide +kernel)
theorem lz_229 : (Jvm.Cond.selects "SensorTreeModel" ({ cls := "SensorTreeModel", name := "deep", desc := "()I" } : Jvm.MethodName) ({ cls := "SensorTreeModel", name := "deep", desc := "()I" } : Jvm.MethodName)) ∈ lw_g := lw_at 1581 (by decide +kernel) (by decide +kernel)
set_option maxRecDepth 30000 in
theorem lz_230 : (Jvm.Cond.code ({ cls := "SensorTreeModel", name := "deep", desc := "()I" } : Jvm.MethodName) prog_13_method_100_code (4 : Nat) (Option.some Jvm.ClassFile.FieldType.int)) ∈ lw_g := lw_at 1582 rfl (by decide +kernel)
theorem lz_231 : (Jvm.Cond.methodLink "SensorTreeLaw" (136 : Nat) ({ cls := "SensorTreeModel", name := "deep", desc := "()I" } : Jvm.MethodName)) ∈ lw_g := lw_at 1579 (by decide +kernel) (by decide +kernel)
theorem lz_232 : (Jvm.Cond.instanceMethod ({ cls := "SensorTree", name := "reached", desc := "()I" } : Jvm.MethodName)) ∈ lw_g := lw_at 1007 (by decide +kernel) (by decide +kernel)
theorem lz_233 : (Jvm.Cond.selects "SensorTree" ({ cls := "SensorTree", name := "reached", desc := "()I" } : Jvm.MethodName) ({ cls := "SensorTree", name := "reached", desc := "()I" } : Jvm.MethodName)) ∈ lw_g := lw_at 1008 (by decide +kernel) (by decide +kernel)
set_option maxRecDepth 30000 in
theorem lz_234 : (Jvm.Cond.code ({ cls := "SensorTree", name := "reached", desc := "()I" } : Jvm.MethodName) prog_1_method_31_code (4 : Nat) (Option.some Jvm.ClassFile.FieldType.int)) ∈ lw_g := lw_at 1009 rfl (by decide +kernel)
theorem lz_235 : (Jvm.Cond.methodLink "SensorTreeLaw" (137 : Nat) ({ cls := "SensorTree", name := "reached", desc := "()I" } : Jvm.MethodName)) ∈ lw_g := lw_at 1006 (by decide +kernel) (by decide +kernel)
theorem lz_236 : (Jvm.Cond.instanceMethod ({ cls := "SensorTreeModel", name := "reached", desc := "()I" } : Jvm.MethodName)) ∈ lw_g := lw_at 1584 (by decide +kernel) (by decide +kernel)
theorem lz_237 : (Jvm.Cond.selects "SensorTreeModel" ({ cls := "SensorTreeModel", name := "reached", desc := "()I" } : Jvm.MethodName) ({ cls := "SensorTreeModel", name := "reached", desc := "()I" } : Jvm.MethodName)) ∈ lw_g := lw_at 1585 (by decide +kernel) (by decide +kernel)
set_option maxRecDepth 30000 in
theorem lz_238 : (Jvm.Cond.code ({ cls := "SensorTreeModel", name := "reached", desc := "()I" } : Jvm.MethodName) prog_13_method_101_code (4 : Nat) (Option.some Jvm.ClassFile.FieldType.int)) ∈ lw_g := lw_at 1586 rfl (by decide +kernel)
theorem lz_239 : (Jvm.Cond.methodLink "SensorTreeLaw" (140 : Nat) ({ cls := "SensorTreeModel", name := "reached", desc := "()I" } : Jvm.MethodName)) ∈ lw_g := lw_at 1583 (by decide +kernel) (by decide +kernel)
theorem lz_240 : (Jvm.Cond.instanceMethod ({ cls := "SensorTree", name := "lull", desc := "(I)I" } : Jvm.MethodName)) ∈ lw_g := lw_at 1011 (by decide +kernel) (by decide +kernel)
theorem lz_241 : (Jvm.Cond.selects "SensorTree" ({ cls := "SensorTree", name := "lull", desc := "(I)I" } : Jvm.MethodName) ({ cls := "SensorTree", name := "lull", desc := "(I)I" } : Jvm.MethodName)) ∈ lw_g := lw_at 1012 (by decide +kernel) (by decide +kernel)
set_option maxRecDepth 30000 in
theorem lz_242 : (Jvm.Cond.code ({ cls := "SensorTree", name := "lull", desc := "(I)I" } : Jvm.MethodName) prog_1_method_32_code (6 : Nat) (Option.some Jvm.ClassFile.FieldType.int)) ∈ lw_g := lw_at 1013 rfl (by decide +kernel)
theorem lz_243 : (Jvm.Cond.methodLink "SensorTreeLaw" (141 : Nat) ({ cls := "SensorTree", name := "lull", desc := "(I)I" } : Jvm.MethodName)) ∈ lw_g := lw_at 1010 (by decide +kernel) (by decide +kernel)
theorem lz_244 : (Jvm.Cond.instanceMethod ({ cls := "SensorTreeModel", name := "lull", desc := "(I)I" } : Jvm.MethodName)) ∈ lw_g := lw_at 1588 (by decide +kernel) (by decide +kernel)
theorem lz_245 : (Jvm.Cond.selects "SensorTreeModel" ({ cls := "SensorTreeModel", name := "lull", desc := "(I)I" } : Jvm.MethodName) ({ cls := "SensorTreeModel", name := "lull", desc := "(I)I" } : Jvm.MethodName)) ∈ lw_g := lw_at 1589 (by decide +kernel) (by decide +kernel)
set_option maxRecDepth 30000 in
theorem lz_246 : (Jvm.Cond.code ({ cls := "SensorTreeModel", name := "lull", desc := "(I)I" } : Jvm.MethodName) prog_13_method_102_code (6 : Nat) (Option.some Jvm.ClassFile.FieldType.int)) ∈ lw_g := lw_at 1590 rfl (by decide +kernel)
theorem lz_247 : (Jvm.Cond.methodLink "SensorTreeLaw" (144 : Nat) ({ cls := "SensorTreeModel", name := "lull", desc := "(I)I" } : Jvm.MethodName)) ∈ lw_g := lw_at 1587 (by decide +kernel) (by decide +kernel)
theorem lz_248 : (Jvm.Cond.instanceMethod ({ cls := "SensorTree", name := "stretch", desc := "()I" } : Jvm.MethodName)) ∈ lw_g := lw_at 1015 (by decide +kernel) (by decide +kernel)
theorem lz_249 : (Jvm.Cond.selects "SensorTree" ({ cls := "SensorTree", name := "stretch", desc := "()I" } : Jvm.MethodName) ({ cls := "SensorTree", name := "stretch", desc := "()I" } : Jvm.MethodName)) ∈ lw_g := lw_at 1016 (by decide +kernel) (by decide +kernel)
set_option maxRecDepth 30000 in
theorem lz_250 : (Jvm.Cond.code ({ cls := "SensorTree", name := "stretch", desc := "()I" } : Jvm.MethodName) prog_1_method_33_code (1 : Nat) (Option.some Jvm.ClassFile.FieldType.int)) ∈ lw_g := lw_at 1017 rfl (by decide +kernel)
theorem lz_251 : (Jvm.Cond.methodLink "SensorTreeLaw" (145 : Nat) ({ cls := "SensorTree", name := "stretch", desc := "()I" } : Jvm.MethodName)) ∈ lw_g := lw_at 1014 (by decide +kernel) (by decide +kernel)
theorem lz_252 : (Jvm.Cond.instanceMethod ({ cls := "SensorTreeModel", name := "stretch", desc := "()I" } : Jvm.MethodName)) ∈ lw_g := lw_at 1592 (by decide +kernel) (by decide +kernel)
theorem lz_253 : (Jvm.Cond.selects "SensorTreeModel" ({ cls := "SensorTreeModel", name := "stretch", desc := "()I" } : Jvm.MethodName) ({ cls := "SensorTreeModel", name := "stretch", desc := "()I" } : Jvm.MethodName)) ∈ lw_g := lw_at 1593 (by decide +kernel) (by decide +kernel)
set_option maxRecDepth 30000 in
theorem lz_254 : (Jvm.Cond.code ({ cls := "SensorTreeModel", name := "stretch", desc := "()I" } : Jvm.MethodName) prog_13_method_103_code (3 : Nat) (Option.some Jvm.ClassFile.FieldType.int)) ∈ lw_g := lw_at 1594 rfl (by decide +kernel)
theorem lz_255 : (Jvm.Cond.methodLink "SensorTreeLaw" (148 : Nat) ({ cls := "SensorTreeModel", name := "stretch", desc := "()I" } : Jvm.MethodName)) ∈ lw_g := lw_at 1591 (by decide +kernel) (by decide +kernel)
theorem lz_256 : (Jvm.Cond.instanceMethod ({ cls := "SensorTree", name := "then", desc := "(III)I" } : Jvm.MethodName)) ∈ lw_g := lw_at 1023 (by decide +kernel) (by decide +kernel)
theorem lz_257 : (Jvm.Cond.selects "SensorTree" ({ cls := "SensorTree", name := "then", desc := "(III)I" } : Jvm.MethodName) ({ cls := "SensorTree", name := "then", desc := "(III)I" } : Jvm.MethodName)) ∈ lw_g := lw_at 1024 (by decide +kernel) (by decide +kernel)
set_option maxRecDepth 30000 in
theorem lz_258 : (Jvm.Cond.code ({ cls := "SensorTree", name := "then", desc := "(III)I" } : Jvm.MethodName) prog_1_method_34_code (4 : Nat) (Option.some Jvm.ClassFile.FieldType.int)) ∈ lw_g := lw_at 1025 rfl (by decide +kernel)
theorem lz_259 : (Jvm.Cond.methodLink "SensorTreeLaw" (149 : Nat) ({ cls := "SensorTree", name := "then", desc := "(III)I" } : Jvm.MethodName)) ∈ lw_g := lw_at 1022 (by decide +kernel) (by decide +kernel)
theorem lz_260 : (Jvm.Cond.instanceMethod ({ cls := "SensorTreeModel", name := "then", desc := "(III)I" } : Jvm.MethodName)) ∈ lw_g := lw_at 1596 (by decide +kernel) (by decide +kernel)
theorem lz_261 : (Jvm.Cond.selects "SensorTreeModel" ({ cls := "SensorTreeModel", name := "then", desc := "(III)I" } : Jvm.MethodName) ({ cls := "SensorTreeModel", name := "then", desc := "(III)I" } : Jvm.MethodName)) ∈ lw_g := lw_at 1597 (by decide +kernel) (by decide +kernel)
set_option maxRecDepth 30000 in
theorem lz_262 : (Jvm.Cond.code ({ cls := "SensorTreeModel", name := "then", desc := "(III)I" } : Jvm.MethodName) prog_13_method_104_code (4 : Nat) (Option.some Jvm.ClassFile.FieldType.int)) ∈ lw_g := lw_at 1598 rfl (by decide +kernel)
theorem lz_263 : (Jvm.Cond.methodLink "SensorTreeLaw" (152 : Nat) ({ cls := "SensorTreeModel", name := "then", desc := "(III)I" } : Jvm.MethodName)) ∈ lw_g := lw_at 1595 (by decide +kernel) (by decide +kernel)
theorem lz_264 : (Jvm.Cond.instanceMethod ({ cls := "SensorTree", name := "year", desc := "(II)I" } : Jvm.MethodName)) ∈ lw_g := lw_at 1027 (by decide +kernel) (by decide +kernel)
theorem lz_265 : (Jvm.Cond.selects "SensorTree" ({ cls := "SensorTree", name := "year", desc := "(II)I" } : Jvm.MethodName) ({ cls := "SensorTree", name := "year", desc := "(II)I" } : Jvm.MethodName)) ∈ lw_g := lw_at 1028 (by decide +kernel) (by decide +kernel)
set_option maxRecDepth 30000 in
theorem lz_266 : (Jvm.Cond.code ({ cls := "SensorTree", name := "year", desc := "(II)I" } : Jvm.MethodName) prog_1_method_35_code (5 : Nat) (Option.some Jvm.ClassFile.FieldType.int)) ∈ lw_g := lw_at 1029 rfl (by decide +kernel)
theorem lz_267 : (Jvm.Cond.methodLink "SensorTreeLaw" (153 : Nat) ({ cls := "SensorTree", name := "year", desc := "(II)I" } : Jvm.MethodName)) ∈ lw_g := lw_at 1026 (by decide +kernel) (by decide +kernel)
theorem lz_268 : (Jvm.Cond.instanceMethod ({ cls := "SensorTreeModel", name := "year", desc := "(II)I" } : Jvm.MethodName)) ∈ lw_g := lw_at 1600 (by decide +kernel) (by decide +kernel)
theorem lz_269 : (Jvm.Cond.selects "SensorTreeModel" ({ cls := "SensorTreeModel", name := "year", desc := "(II)I" } : Jvm.MethodName) ({ cls := "SensorTreeModel", name := "year", desc := "(II)I" } : Jvm.MethodName)) ∈ lw_g := lw_at 1601 (by decide +kernel) (by decide +kernel)
set_option maxRecDepth 30000 in
theorem lz_270 : (Jvm.Cond.code ({ cls := "SensorTreeModel", name := "year", desc := "(II)I" } : Jvm.MethodName) prog_13_method_105_code (5 : Nat) (Option.some Jvm.ClassFile.FieldType.int)) ∈ lw_g := lw_at 1602 rfl (by decide +kernel)
theorem lz_271 : (Jvm.Cond.methodLink "SensorTreeLaw" (156 : Nat) ({ cls := "SensorTreeModel", name := "year", desc := "(II)I" } : Jvm.MethodName)) ∈ lw_g := lw_at 1599 (by decide +kernel) (by decide +kernel)
theorem lz_272 : (Jvm.Cond.instanceMethod ({ cls := "SensorTree", name := "hold", desc := "(I)Z" } : Jvm.MethodName)) ∈ lw_g := lw_at 1031 (by decide +kernel) (by decide +kernel)
theorem lz_273 : (Jvm.Cond.selects "SensorTree" ({ cls := "SensorTree", name := "hold", desc := "(I)Z" } : Jvm.MethodName) ({ cls := "SensorTree", name := "hold", desc := "(I)Z" } : Jvm.MethodName)) ∈ lw_g := lw_at 1032 (by decide +kernel) (by decide +kernel)
set_option maxRecDepth 30000 in
theorem lz_274 : (Jvm.Cond.code ({ cls := "SensorTree", name := "hold", desc := "(I)Z" } : Jvm.MethodName) prog_1_method_36_code (2 : Nat) (Option.some Jvm.ClassFile.FieldType.boolean)) ∈ lw_g := lw_at 1033 rfl (by decide +kernel)
theorem lz_275 : (Jvm.Cond.methodLink "SensorTreeLaw" (157 : Nat) ({ cls := "SensorTree", name := "hold", desc := "(I)Z" } : Jvm.MethodName)) ∈ lw_g := lw_at 1030 (by decide +kernel) (by decide +kernel)
theorem lz_276 : (Jvm.Cond.instanceMethod ({ cls := "SensorTreeModel", name := "hold", desc := "(I)Z" } : Jvm.MethodName)) ∈ lw_g := lw_at 1476 (by decide +kernel) (by decide +kernel)
theorem lz_277 : (Jvm.Cond.selects "SensorTreeModel" ({ cls := "SensorTreeModel", name := "hold", desc := "(I)Z" } : Jvm.MethodName) ({ cls := "SensorTreeModel", name := "hold", desc := "(I)Z" } : Jvm.MethodName)) ∈ lw_g := lw_at 1477 (by decide +kernel) (by decide +kernel)
set_option maxRecDepth 30000 in
theorem lz_278 : (Jvm.Cond.code ({ cls := "SensorTreeModel", name := "hold", desc := "(I)Z" } : Jvm.MethodName) prog_13_method_74_code (2 : Nat) (Option.some Jvm.ClassFile.FieldType.boolean)) ∈ lw_g := lw_at 1478 rfl (by decide +kernel)
theorem lz_279 : (Jvm.Cond.methodLink "SensorTreeLaw" (161 : Nat) ({ cls := "SensorTreeModel", name := "hold", desc := "(I)Z" } : Jvm.MethodName)) ∈ lw_g := lw_at 1475 (by decide +kernel) (by decide +kernel)
theorem lz_280 : (Jvm.Cond.instanceMethod ({ cls := "SensorTree", name := "restore", desc := "(I)Z" } : Jvm.MethodName)) ∈ lw_g := lw_at 1035 (by decide +kernel) (by decide +kernel)
theorem lz_281 : (Jvm.Cond.selects "SensorTree" ({ cls := "SensorTree", name := "restore", desc := "(I)Z" } : Jvm.MethodName) ({ cls := "SensorTree", name := "restore", desc := "(I)Z" } : Jvm.MethodName)) ∈ lw_g := lw_at 1036 (by decide +kernel) (by decide +kernel)
set_option maxRecDepth 30000 in
theorem lz_282 : (Jvm.Cond.code ({ cls := "SensorTree", name := "restore", desc := "(I)Z" } : Jvm.MethodName) prog_1_method_37_code (2 : Nat) (Option.some Jvm.ClassFile.FieldType.boolean)) ∈ lw_g := lw_at 1037 rfl (by decide +kernel)
theorem lz_283 : (Jvm.Cond.methodLink "SensorTreeLaw" (162 : Nat) ({ cls := "SensorTree", name := "restore", desc := "(I)Z" } : Jvm.MethodName)) ∈ lw_g := lw_at 1034 (by decide +kernel) (by decide +kernel)
theorem lz_284 : (Jvm.Cond.instanceMethod ({ cls := "SensorTreeModel", name := "restore", desc := "(I)Z" } : Jvm.MethodName)) ∈ lw_g := lw_at 1480 (by decide +kernel) (by decide +kernel)
theorem lz_285 : (Jvm.Cond.selects "SensorTreeModel" ({ cls := "SensorTreeModel", name := "restore", desc := "(I)Z" } : Jvm.MethodName) ({ cls := "SensorTreeModel", name := "restore", desc := "(I)Z" } : Jvm.MethodName)) ∈ lw_g := lw_at 1481 (by decide +kernel) (by decide +kernel)
set_option maxRecDepth 30000 in
theorem lz_286 : (Jvm.Cond.code ({ cls := "SensorTreeModel", name := "restore", desc := "(I)Z" } : Jvm.MethodName) prog_13_method_75_code (2 : Nat) (Option.some Jvm.ClassFile.FieldType.boolean)) ∈ lw_g := lw_at 1482 rfl (by decide +kernel)
theorem lz_287 : (Jvm.Cond.methodLink "SensorTreeLaw" (165 : Nat) ({ cls := "SensorTreeModel", name := "restore", desc := "(I)Z" } : Jvm.MethodName)) ∈ lw_g := lw_at 1479 (by decide +kernel) (by decide +kernel)
theorem lz_288 : (Jvm.Cond.instanceMethod ({ cls := "SensorTree", name := "count", desc := "(I)I" } : Jvm.MethodName)) ∈ lw_g := lw_at 1039 (by decide +kernel) (by decide +kernel)
theorem lz_289 : (Jvm.Cond.selects "SensorTree" ({ cls := "SensorTree", name := "count", desc := "(I)I" } : Jvm.MethodName) ({ cls := "SensorTree", name := "count", desc := "(I)I" } : Jvm.MethodName)) ∈ lw_g := lw_at 1040 (by decide +kernel) (by decide +kernel)
set_option maxRecDepth 30000 in
theorem lz_290 : (Jvm.Cond.code ({ cls := "SensorTree", name := "count", desc := "(I)I" } : Jvm.MethodName) prog_1_method_38_code (2 : Nat) (Option.some Jvm.ClassFile.FieldType.int)) ∈ lw_g := lw_at 1041 rfl (by decide +kernel)
theorem lz_291 : (Jvm.Cond.methodLink "SensorTreeLaw" (166 : Nat) ({ cls := "SensorTree", name := "count", desc := "(I)I" } : Jvm.MethodName)) ∈ lw_g := lw_at 1038 (by decide +kernel) (by decide +kernel)
theorem lz_292 : (Jvm.Cond.instanceMethod ({ cls := "SensorTreeModel", name := "count", desc := "(I)I" } : Jvm.MethodName)) ∈ lw_g := lw_at 1604 (by decide +kernel) (by decide +kernel)
theorem lz_293 : (Jvm.Cond.selects "SensorTreeModel" ({ cls := "SensorTreeModel", name := "count", desc := "(I)I" } : Jvm.MethodName) ({ cls := "SensorTreeModel", name := "count", desc := "(I)I" } : Jvm.MethodName)) ∈ lw_g := lw_at 1605 (by decide +kernel) (by decide +kernel)
set_option maxRecDepth 30000 in
theorem lz_294 : (Jvm.Cond.code ({ cls := "SensorTreeModel", name := "count", desc := "(I)I" } : Jvm.MethodName) prog_13_method_106_code (4 : Nat) (Option.some Jvm.ClassFile.FieldType.int)) ∈ lw_g := lw_at 1606 rfl (by decide +kernel)
theorem lz_295 : (Jvm.Cond.methodLink "SensorTreeLaw" (169 : Nat) ({ cls := "SensorTreeModel", name := "count", desc := "(I)I" } : Jvm.MethodName)) ∈ lw_g := lw_at 1603 (by decide +kernel) (by decide +kernel)
