theorem dL_law_0 : decode cL_law 0 = .ok (.new 7, 3) := by decide +kernel
theorem dL_law_3 : decode cL_law 3 = .ok (.dup, 1) := by decide +kernel
theorem dL_law_4 : decode cL_law 4 = .ok (.invokespecial 9, 3) := by decide +kernel
theorem dL_law_7 : decode cL_law 7 = .ok (.astore_n 1, 1) := by decide +kernel
theorem dL_law_8 : decode cL_law 8 = .ok (.new 10, 3) := by decide +kernel
theorem dL_law_11 : decode cL_law 11 = .ok (.dup, 1) := by decide +kernel
theorem dL_law_12 : decode cL_law 12 = .ok (.invokespecial 12, 3) := by decide +kernel
theorem dL_law_15 : decode cL_law 15 = .ok (.astore_n 2, 1) := by decide +kernel
theorem dL_law_16 : decode cL_law 16 = .ok (.iconst 0, 1) := by decide +kernel
theorem dL_law_17 : decode cL_law 17 = .ok (.istore_n 3, 1) := by decide +kernel
theorem dL_law_18 : decode cL_law 18 = .ok (.iload_n 3, 1) := by decide +kernel
theorem dL_law_19 : decode cL_law 19 = .ok (.aload_n 0, 1) := by decide +kernel
theorem dL_law_20 : decode cL_law 20 = .ok (.arraylength, 1) := by decide +kernel
theorem dL_law_21 : decode cL_law 21 = .ok (.bipush 6, 2) := by decide +kernel
theorem dL_law_23 : decode cL_law 23 = .ok (.isub, 1) := by decide +kernel
theorem dL_law_24 : decode cL_law 24 = .ok (.if_icmp .gt 1573, 3) := by decide +kernel
theorem dL_law_27 : decode cL_law 27 = .ok (.aload_n 0, 1) := by decide +kernel
theorem dL_law_28 : decode cL_law 28 = .ok (.iload_n 3, 1) := by decide +kernel
theorem dL_law_29 : decode cL_law 29 = .ok (.iaload, 1) := by decide +kernel
theorem dL_law_30 : decode cL_law 30 = .ok (.bipush 63, 2) := by decide +kernel
theorem dL_law_32 : decode cL_law 32 = .ok (.iand, 1) := by decide +kernel
theorem dL_law_33 : decode cL_law 33 = .ok (.tableswitch 1558 0 44 #[195, 258, 321, 344, 357, 380, 403, 426, 459, 482, 515, 538, 561, 594, 607, 640, 663, 696, 729, 752, 791, 830, 843, 856, 879, 938, 997, 1066, 1099, 1158, 1181, 1214, 1227, 1250, 1263, 1296, 1329, 1352, 1391, 1414, 1463, 1476, 1509, 1522, 1535], 195) := by decide +kernel
theorem dL_law_228 : decode cL_law 228 = .ok (.aload_n 1, 1) := by decide +kernel
theorem dL_law_229 : decode cL_law 229 = .ok (.aload_n 0, 1) := by decide +kernel
theorem dL_law_230 : decode cL_law 230 = .ok (.iload_n 3, 1) := by decide +kernel
theorem dL_law_231 : decode cL_law 231 = .ok (.iconst 1, 1) := by decide +kernel
theorem dL_law_232 : decode cL_law 232 = .ok (.iadd, 1) := by decide +kernel
theorem dL_law_233 : decode cL_law 233 = .ok (.iaload, 1) := by decide +kernel
theorem dL_law_234 : decode cL_law 234 = .ok (.aload_n 0, 1) := by decide +kernel
theorem dL_law_235 : decode cL_law 235 = .ok (.iload_n 3, 1) := by decide +kernel
theorem dL_law_236 : decode cL_law 236 = .ok (.iconst 2, 1) := by decide +kernel
theorem dL_law_237 : decode cL_law 237 = .ok (.iadd, 1) := by decide +kernel
theorem dL_law_238 : decode cL_law 238 = .ok (.iaload, 1) := by decide +kernel
theorem dL_law_239 : decode cL_law 239 = .ok (.aload_n 0, 1) := by decide +kernel
theorem dL_law_240 : decode cL_law 240 = .ok (.iload_n 3, 1) := by decide +kernel
theorem dL_law_241 : decode cL_law 241 = .ok (.iconst 3, 1) := by decide +kernel
theorem dL_law_242 : decode cL_law 242 = .ok (.iadd, 1) := by decide +kernel
theorem dL_law_243 : decode cL_law 243 = .ok (.iaload, 1) := by decide +kernel
theorem dL_law_244 : decode cL_law 244 = .ok (.aload_n 0, 1) := by decide +kernel
theorem dL_law_245 : decode cL_law 245 = .ok (.iload_n 3, 1) := by decide +kernel
theorem dL_law_246 : decode cL_law 246 = .ok (.iconst 4, 1) := by decide +kernel
theorem dL_law_247 : decode cL_law 247 = .ok (.iadd, 1) := by decide +kernel
theorem dL_law_248 : decode cL_law 248 = .ok (.iaload, 1) := by decide +kernel
theorem dL_law_249 : decode cL_law 249 = .ok (.aload_n 0, 1) := by decide +kernel
theorem dL_law_250 : decode cL_law 250 = .ok (.iload_n 3, 1) := by decide +kernel
theorem dL_law_251 : decode cL_law 251 = .ok (.iconst 5, 1) := by decide +kernel
theorem dL_law_252 : decode cL_law 252 = .ok (.iadd, 1) := by decide +kernel
theorem dL_law_253 : decode cL_law 253 = .ok (.iaload, 1) := by decide +kernel
theorem dL_law_254 : decode cL_law 254 = .ok (.invokevirtual 13, 3) := by decide +kernel
theorem dL_law_257 : decode cL_law 257 = .ok (.aload_n 2, 1) := by decide +kernel
theorem dL_law_258 : decode cL_law 258 = .ok (.aload_n 0, 1) := by decide +kernel
theorem dL_law_259 : decode cL_law 259 = .ok (.iload_n 3, 1) := by decide +kernel
theorem dL_law_260 : decode cL_law 260 = .ok (.iconst 1, 1) := by decide +kernel
theorem dL_law_261 : decode cL_law 261 = .ok (.iadd, 1) := by decide +kernel
theorem dL_law_262 : decode cL_law 262 = .ok (.iaload, 1) := by decide +kernel
theorem dL_law_263 : decode cL_law 263 = .ok (.aload_n 0, 1) := by decide +kernel
theorem dL_law_264 : decode cL_law 264 = .ok (.iload_n 3, 1) := by decide +kernel
theorem dL_law_265 : decode cL_law 265 = .ok (.iconst 2, 1) := by decide +kernel
theorem dL_law_266 : decode cL_law 266 = .ok (.iadd, 1) := by decide +kernel
theorem dL_law_267 : decode cL_law 267 = .ok (.iaload, 1) := by decide +kernel
theorem dL_law_268 : decode cL_law 268 = .ok (.aload_n 0, 1) := by decide +kernel
theorem dL_law_269 : decode cL_law 269 = .ok (.iload_n 3, 1) := by decide +kernel
theorem dL_law_270 : decode cL_law 270 = .ok (.iconst 3, 1) := by decide +kernel
theorem dL_law_271 : decode cL_law 271 = .ok (.iadd, 1) := by decide +kernel
theorem dL_law_272 : decode cL_law 272 = .ok (.iaload, 1) := by decide +kernel
theorem dL_law_273 : decode cL_law 273 = .ok (.aload_n 0, 1) := by decide +kernel
theorem dL_law_274 : decode cL_law 274 = .ok (.iload_n 3, 1) := by decide +kernel
theorem dL_law_275 : decode cL_law 275 = .ok (.iconst 4, 1) := by decide +kernel
theorem dL_law_276 : decode cL_law 276 = .ok (.iadd, 1) := by decide +kernel
theorem dL_law_277 : decode cL_law 277 = .ok (.iaload, 1) := by decide +kernel
theorem dL_law_278 : decode cL_law 278 = .ok (.aload_n 0, 1) := by decide +kernel
theorem dL_law_279 : decode cL_law 279 = .ok (.iload_n 3, 1) := by decide +kernel
theorem dL_law_280 : decode cL_law 280 = .ok (.iconst 5, 1) := by decide +kernel
theorem dL_law_281 : decode cL_law 281 = .ok (.iadd, 1) := by decide +kernel
theorem dL_law_282 : decode cL_law 282 = .ok (.iaload, 1) := by decide +kernel
theorem dL_law_283 : decode cL_law 283 = .ok (.invokevirtual 17, 3) := by decide +kernel
theorem dL_law_286 : decode cL_law 286 = .ok (.if_icmp .eq 1305, 3) := by decide +kernel
theorem dL_law_289 : decode cL_law 289 = .ok (.iconst 0, 1) := by decide +kernel
theorem dL_law_290 : decode cL_law 290 = .ok (.ireturn, 1) := by decide +kernel
theorem dL_law_291 : decode cL_law 291 = .ok (.aload_n 1, 1) := by decide +kernel
theorem dL_law_292 : decode cL_law 292 = .ok (.aload_n 0, 1) := by decide +kernel
theorem dL_law_293 : decode cL_law 293 = .ok (.iload_n 3, 1) := by decide +kernel
theorem dL_law_294 : decode cL_law 294 = .ok (.iconst 1, 1) := by decide +kernel
theorem dL_law_295 : decode cL_law 295 = .ok (.iadd, 1) := by decide +kernel
theorem dL_law_296 : decode cL_law 296 = .ok (.iaload, 1) := by decide +kernel
theorem dL_law_297 : decode cL_law 297 = .ok (.aload_n 0, 1) := by decide +kernel
theorem dL_law_298 : decode cL_law 298 = .ok (.iload_n 3, 1) := by decide +kernel
theorem dL_law_299 : decode cL_law 299 = .ok (.iconst 2, 1) := by decide +kernel
theorem dL_law_300 : decode cL_law 300 = .ok (.iadd, 1) := by decide +kernel
theorem dL_law_301 : decode cL_law 301 = .ok (.iaload, 1) := by decide +kernel
theorem dL_law_302 : decode cL_law 302 = .ok (.aload_n 0, 1) := by decide +kernel
theorem dL_law_303 : decode cL_law 303 = .ok (.iload_n 3, 1) := by decide +kernel
theorem dL_law_304 : decode cL_law 304 = .ok (.iconst 3, 1) := by decide +kernel
theorem dL_law_305 : decode cL_law 305 = .ok (.iadd, 1) := by decide +kernel
theorem dL_law_306 : decode cL_law 306 = .ok (.iaload, 1) := by decide +kernel
theorem dL_law_307 : decode cL_law 307 = .ok (.aload_n 0, 1) := by decide +kernel
theorem dL_law_308 : decode cL_law 308 = .ok (.iload_n 3, 1) := by decide +kernel
theorem dL_law_309 : decode cL_law 309 = .ok (.iconst 4, 1) := by decide +kernel
theorem dL_law_310 : decode cL_law 310 = .ok (.iadd, 1) := by decide +kernel
theorem dL_law_311 : decode cL_law 311 = .ok (.iaload, 1) := by decide +kernel
theorem dL_law_312 : decode cL_law 312 = .ok (.aload_n 0, 1) := by decide +kernel
theorem dL_law_313 : decode cL_law 313 = .ok (.iload_n 3, 1) := by decide +kernel
theorem dL_law_314 : decode cL_law 314 = .ok (.iconst 5, 1) := by decide +kernel
theorem dL_law_315 : decode cL_law 315 = .ok (.iadd, 1) := by decide +kernel
theorem dL_law_316 : decode cL_law 316 = .ok (.iaload, 1) := by decide +kernel
theorem dL_law_317 : decode cL_law 317 = .ok (.invokevirtual 18, 3) := by decide +kernel
theorem dL_law_320 : decode cL_law 320 = .ok (.aload_n 2, 1) := by decide +kernel
theorem dL_law_321 : decode cL_law 321 = .ok (.aload_n 0, 1) := by decide +kernel
theorem dL_law_322 : decode cL_law 322 = .ok (.iload_n 3, 1) := by decide +kernel
theorem dL_law_323 : decode cL_law 323 = .ok (.iconst 1, 1) := by decide +kernel
theorem dL_law_324 : decode cL_law 324 = .ok (.iadd, 1) := by decide +kernel
theorem dL_law_325 : decode cL_law 325 = .ok (.iaload, 1) := by decide +kernel
theorem dL_law_326 : decode cL_law 326 = .ok (.aload_n 0, 1) := by decide +kernel
theorem dL_law_327 : decode cL_law 327 = .ok (.iload_n 3, 1) := by decide +kernel
theorem dL_law_328 : decode cL_law 328 = .ok (.iconst 2, 1) := by decide +kernel
theorem dL_law_329 : decode cL_law 329 = .ok (.iadd, 1) := by decide +kernel
theorem dL_law_330 : decode cL_law 330 = .ok (.iaload, 1) := by decide +kernel
theorem dL_law_331 : decode cL_law 331 = .ok (.aload_n 0, 1) := by decide +kernel
theorem dL_law_332 : decode cL_law 332 = .ok (.iload_n 3, 1) := by decide +kernel
theorem dL_law_333 : decode cL_law 333 = .ok (.iconst 3, 1) := by decide +kernel
theorem dL_law_334 : decode cL_law 334 = .ok (.iadd, 1) := by decide +kernel
theorem dL_law_335 : decode cL_law 335 = .ok (.iaload, 1) := by decide +kernel
theorem dL_law_336 : decode cL_law 336 = .ok (.aload_n 0, 1) := by decide +kernel
theorem dL_law_337 : decode cL_law 337 = .ok (.iload_n 3, 1) := by decide +kernel
theorem dL_law_338 : decode cL_law 338 = .ok (.iconst 4, 1) := by decide +kernel
theorem dL_law_339 : decode cL_law 339 = .ok (.iadd, 1) := by decide +kernel
theorem dL_law_340 : decode cL_law 340 = .ok (.iaload, 1) := by decide +kernel
theorem dL_law_341 : decode cL_law 341 = .ok (.aload_n 0, 1) := by decide +kernel
theorem dL_law_342 : decode cL_law 342 = .ok (.iload_n 3, 1) := by decide +kernel
theorem dL_law_343 : decode cL_law 343 = .ok (.iconst 5, 1) := by decide +kernel
theorem dL_law_344 : decode cL_law 344 = .ok (.iadd, 1) := by decide +kernel
theorem dL_law_345 : decode cL_law 345 = .ok (.iaload, 1) := by decide +kernel
theorem dL_law_346 : decode cL_law 346 = .ok (.invokevirtual 21, 3) := by decide +kernel
theorem dL_law_349 : decode cL_law 349 = .ok (.if_icmp .eq 1242, 3) := by decide +kernel
theorem dL_law_352 : decode cL_law 352 = .ok (.iconst 0, 1) := by decide +kernel
theorem dL_law_353 : decode cL_law 353 = .ok (.ireturn, 1) := by decide +kernel
theorem dL_law_354 : decode cL_law 354 = .ok (.aload_n 1, 1) := by decide +kernel
theorem dL_law_355 : decode cL_law 355 = .ok (.aload_n 0, 1) := by decide +kernel
theorem dL_law_356 : decode cL_law 356 = .ok (.iload_n 3, 1) := by decide +kernel
theorem dL_law_357 : decode cL_law 357 = .ok (.iconst 1, 1) := by decide +kernel
theorem dL_law_358 : decode cL_law 358 = .ok (.iadd, 1) := by decide +kernel
theorem dL_law_359 : decode cL_law 359 = .ok (.iaload, 1) := by decide +kernel
theorem dL_law_360 : decode cL_law 360 = .ok (.invokevirtual 22, 3) := by decide +kernel
theorem dL_law_363 : decode cL_law 363 = .ok (.aload_n 2, 1) := by decide +kernel
theorem dL_law_364 : decode cL_law 364 = .ok (.aload_n 0, 1) := by decide +kernel
theorem dL_law_365 : decode cL_law 365 = .ok (.iload_n 3, 1) := by decide +kernel
theorem dL_law_366 : decode cL_law 366 = .ok (.iconst 1, 1) := by decide +kernel
theorem dL_law_367 : decode cL_law 367 = .ok (.iadd, 1) := by decide +kernel
theorem dL_law_368 : decode cL_law 368 = .ok (.iaload, 1) := by decide +kernel
theorem dL_law_369 : decode cL_law 369 = .ok (.invokevirtual 26, 3) := by decide +kernel
theorem dL_law_372 : decode cL_law 372 = .ok (.if_icmp .eq 1219, 3) := by decide +kernel
theorem dL_law_375 : decode cL_law 375 = .ok (.iconst 0, 1) := by decide +kernel
theorem dL_law_376 : decode cL_law 376 = .ok (.ireturn, 1) := by decide +kernel
theorem dL_law_377 : decode cL_law 377 = .ok (.aload_n 1, 1) := by decide +kernel
theorem dL_law_378 : decode cL_law 378 = .ok (.invokevirtual 27, 3) := by decide +kernel
theorem dL_law_381 : decode cL_law 381 = .ok (.aload_n 2, 1) := by decide +kernel
theorem dL_law_382 : decode cL_law 382 = .ok (.invokevirtual 31, 3) := by decide +kernel
theorem dL_law_385 : decode cL_law 385 = .ok (.if_icmp .eq 1206, 3) := by decide +kernel
theorem dL_law_388 : decode cL_law 388 = .ok (.iconst 0, 1) := by decide +kernel
theorem dL_law_389 : decode cL_law 389 = .ok (.ireturn, 1) := by decide +kernel
theorem dL_law_390 : decode cL_law 390 = .ok (.aload_n 1, 1) := by decide +kernel
theorem dL_law_391 : decode cL_law 391 = .ok (.aload_n 0, 1) := by decide +kernel
theorem dL_law_392 : decode cL_law 392 = .ok (.iload_n 3, 1) := by decide +kernel
theorem dL_law_393 : decode cL_law 393 = .ok (.iconst 1, 1) := by decide +kernel
theorem dL_law_394 : decode cL_law 394 = .ok (.iadd, 1) := by decide +kernel
theorem dL_law_395 : decode cL_law 395 = .ok (.iaload, 1) := by decide +kernel
theorem dL_law_396 : decode cL_law 396 = .ok (.invokevirtual 32, 3) := by decide +kernel
theorem dL_law_399 : decode cL_law 399 = .ok (.aload_n 2, 1) := by decide +kernel
theorem dL_law_400 : decode cL_law 400 = .ok (.aload_n 0, 1) := by decide +kernel
theorem dL_law_401 : decode cL_law 401 = .ok (.iload_n 3, 1) := by decide +kernel
theorem dL_law_402 : decode cL_law 402 = .ok (.iconst 1, 1) := by decide +kernel
theorem dL_law_403 : decode cL_law 403 = .ok (.iadd, 1) := by decide +kernel
theorem dL_law_404 : decode cL_law 404 = .ok (.iaload, 1) := by decide +kernel
theorem dL_law_405 : decode cL_law 405 = .ok (.invokevirtual 35, 3) := by decide +kernel
theorem dL_law_408 : decode cL_law 408 = .ok (.if_icmp .eq 1183, 3) := by decide +kernel
theorem dL_law_411 : decode cL_law 411 = .ok (.iconst 0, 1) := by decide +kernel
theorem dL_law_412 : decode cL_law 412 = .ok (.ireturn, 1) := by decide +kernel
theorem dL_law_413 : decode cL_law 413 = .ok (.aload_n 1, 1) := by decide +kernel
theorem dL_law_414 : decode cL_law 414 = .ok (.aload_n 0, 1) := by decide +kernel
theorem dL_law_415 : decode cL_law 415 = .ok (.iload_n 3, 1) := by decide +kernel
theorem dL_law_416 : decode cL_law 416 = .ok (.iconst 1, 1) := by decide +kernel
theorem dL_law_417 : decode cL_law 417 = .ok (.iadd, 1) := by decide +kernel
theorem dL_law_418 : decode cL_law 418 = .ok (.iaload, 1) := by decide +kernel
theorem dL_law_419 : decode cL_law 419 = .ok (.invokevirtual 36, 3) := by decide +kernel
theorem dL_law_422 : decode cL_law 422 = .ok (.aload_n 2, 1) := by decide +kernel
theorem dL_law_423 : decode cL_law 423 = .ok (.aload_n 0, 1) := by decide +kernel
theorem dL_law_424 : decode cL_law 424 = .ok (.iload_n 3, 1) := by decide +kernel
theorem dL_law_425 : decode cL_law 425 = .ok (.iconst 1, 1) := by decide +kernel
theorem dL_law_426 : decode cL_law 426 = .ok (.iadd, 1) := by decide +kernel
theorem dL_law_427 : decode cL_law 427 = .ok (.iaload, 1) := by decide +kernel
theorem dL_law_428 : decode cL_law 428 = .ok (.invokevirtual 40, 3) := by decide +kernel
theorem dL_law_431 : decode cL_law 431 = .ok (.if_icmp .eq 1160, 3) := by decide +kernel
theorem dL_law_434 : decode cL_law 434 = .ok (.iconst 0, 1) := by decide +kernel
theorem dL_law_435 : decode cL_law 435 = .ok (.ireturn, 1) := by decide +kernel
theorem dL_law_436 : decode cL_law 436 = .ok (.aload_n 1, 1) := by decide +kernel
theorem dL_law_437 : decode cL_law 437 = .ok (.aload_n 0, 1) := by decide +kernel
theorem dL_law_438 : decode cL_law 438 = .ok (.iload_n 3, 1) := by decide +kernel
theorem dL_law_439 : decode cL_law 439 = .ok (.iconst 1, 1) := by decide +kernel
theorem dL_law_440 : decode cL_law 440 = .ok (.iadd, 1) := by decide +kernel
theorem dL_law_441 : decode cL_law 441 = .ok (.iaload, 1) := by decide +kernel
theorem dL_law_442 : decode cL_law 442 = .ok (.invokevirtual 41, 3) := by decide +kernel
theorem dL_law_445 : decode cL_law 445 = .ok (.aload_n 2, 1) := by decide +kernel
theorem dL_law_446 : decode cL_law 446 = .ok (.aload_n 0, 1) := by decide +kernel
theorem dL_law_447 : decode cL_law 447 = .ok (.iload_n 3, 1) := by decide +kernel
theorem dL_law_448 : decode cL_law 448 = .ok (.iconst 1, 1) := by decide +kernel
theorem dL_law_449 : decode cL_law 449 = .ok (.iadd, 1) := by decide +kernel
theorem dL_law_450 : decode cL_law 450 = .ok (.iaload, 1) := by decide +kernel
theorem dL_law_451 : decode cL_law 451 = .ok (.invokevirtual 44, 3) := by decide +kernel
theorem dL_law_454 : decode cL_law 454 = .ok (.if_icmp .eq 1137, 3) := by decide +kernel
theorem dL_law_457 : decode cL_law 457 = .ok (.iconst 0, 1) := by decide +kernel
theorem dL_law_458 : decode cL_law 458 = .ok (.ireturn, 1) := by decide +kernel
theorem dL_law_459 : decode cL_law 459 = .ok (.aload_n 1, 1) := by decide +kernel
theorem dL_law_460 : decode cL_law 460 = .ok (.aload_n 0, 1) := by decide +kernel
theorem dL_law_461 : decode cL_law 461 = .ok (.iload_n 3, 1) := by decide +kernel
theorem dL_law_462 : decode cL_law 462 = .ok (.iconst 1, 1) := by decide +kernel
theorem dL_law_463 : decode cL_law 463 = .ok (.iadd, 1) := by decide +kernel
theorem dL_law_464 : decode cL_law 464 = .ok (.iaload, 1) := by decide +kernel
theorem dL_law_465 : decode cL_law 465 = .ok (.aload_n 0, 1) := by decide +kernel
theorem dL_law_466 : decode cL_law 466 = .ok (.iload_n 3, 1) := by decide +kernel
theorem dL_law_467 : decode cL_law 467 = .ok (.iconst 2, 1) := by decide +kernel
theorem dL_law_468 : decode cL_law 468 = .ok (.iadd, 1) := by decide +kernel
theorem dL_law_469 : decode cL_law 469 = .ok (.iaload, 1) := by decide +kernel
theorem dL_law_470 : decode cL_law 470 = .ok (.invokevirtual 45, 3) := by decide +kernel
theorem dL_law_473 : decode cL_law 473 = .ok (.aload_n 2, 1) := by decide +kernel
theorem dL_law_474 : decode cL_law 474 = .ok (.aload_n 0, 1) := by decide +kernel
theorem dL_law_475 : decode cL_law 475 = .ok (.iload_n 3, 1) := by decide +kernel
theorem dL_law_476 : decode cL_law 476 = .ok (.iconst 1, 1) := by decide +kernel
theorem dL_law_477 : decode cL_law 477 = .ok (.iadd, 1) := by decide +kernel
theorem dL_law_478 : decode cL_law 478 = .ok (.iaload, 1) := by decide +kernel
theorem dL_law_479 : decode cL_law 479 = .ok (.aload_n 0, 1) := by decide +kernel
theorem dL_law_480 : decode cL_law 480 = .ok (.iload_n 3, 1) := by decide +kernel
theorem dL_law_481 : decode cL_law 481 = .ok (.iconst 2, 1) := by decide +kernel
theorem dL_law_482 : decode cL_law 482 = .ok (.iadd, 1) := by decide +kernel
theorem dL_law_483 : decode cL_law 483 = .ok (.iaload, 1) := by decide +kernel
theorem dL_law_484 : decode cL_law 484 = .ok (.invokevirtual 49, 3) := by decide +kernel
theorem dL_law_487 : decode cL_law 487 = .ok (.if_icmp .eq 1104, 3) := by decide +kernel
theorem dL_law_490 : decode cL_law 490 = .ok (.iconst 0, 1) := by decide +kernel
theorem dL_law_491 : decode cL_law 491 = .ok (.ireturn, 1) := by decide +kernel
theorem dL_law_492 : decode cL_law 492 = .ok (.aload_n 1, 1) := by decide +kernel
theorem dL_law_493 : decode cL_law 493 = .ok (.aload_n 0, 1) := by decide +kernel
theorem dL_law_494 : decode cL_law 494 = .ok (.iload_n 3, 1) := by decide +kernel
theorem dL_law_495 : decode cL_law 495 = .ok (.iconst 1, 1) := by decide +kernel
theorem dL_law_496 : decode cL_law 496 = .ok (.iadd, 1) := by decide +kernel
theorem dL_law_497 : decode cL_law 497 = .ok (.iaload, 1) := by decide +kernel
theorem dL_law_498 : decode cL_law 498 = .ok (.invokevirtual 50, 3) := by decide +kernel
theorem dL_law_501 : decode cL_law 501 = .ok (.aload_n 2, 1) := by decide +kernel
theorem dL_law_502 : decode cL_law 502 = .ok (.aload_n 0, 1) := by decide +kernel
theorem dL_law_503 : decode cL_law 503 = .ok (.iload_n 3, 1) := by decide +kernel
theorem dL_law_504 : decode cL_law 504 = .ok (.iconst 1, 1) := by decide +kernel
theorem dL_law_505 : decode cL_law 505 = .ok (.iadd, 1) := by decide +kernel
theorem dL_law_506 : decode cL_law 506 = .ok (.iaload, 1) := by decide +kernel
theorem dL_law_507 : decode cL_law 507 = .ok (.invokevirtual 53, 3) := by decide +kernel
theorem dL_law_510 : decode cL_law 510 = .ok (.if_icmp .eq 1081, 3) := by decide +kernel
theorem dL_law_513 : decode cL_law 513 = .ok (.iconst 0, 1) := by decide +kernel
theorem dL_law_514 : decode cL_law 514 = .ok (.ireturn, 1) := by decide +kernel
theorem dL_law_515 : decode cL_law 515 = .ok (.aload_n 1, 1) := by decide +kernel
theorem dL_law_516 : decode cL_law 516 = .ok (.aload_n 0, 1) := by decide +kernel
theorem dL_law_517 : decode cL_law 517 = .ok (.iload_n 3, 1) := by decide +kernel
theorem dL_law_518 : decode cL_law 518 = .ok (.iconst 1, 1) := by decide +kernel
theorem dL_law_519 : decode cL_law 519 = .ok (.iadd, 1) := by decide +kernel
theorem dL_law_520 : decode cL_law 520 = .ok (.iaload, 1) := by decide +kernel
theorem dL_law_521 : decode cL_law 521 = .ok (.aload_n 0, 1) := by decide +kernel
theorem dL_law_522 : decode cL_law 522 = .ok (.iload_n 3, 1) := by decide +kernel
theorem dL_law_523 : decode cL_law 523 = .ok (.iconst 2, 1) := by decide +kernel
theorem dL_law_524 : decode cL_law 524 = .ok (.iadd, 1) := by decide +kernel
theorem dL_law_525 : decode cL_law 525 = .ok (.iaload, 1) := by decide +kernel
theorem dL_law_526 : decode cL_law 526 = .ok (.invokevirtual 54, 3) := by decide +kernel
theorem dL_law_529 : decode cL_law 529 = .ok (.aload_n 2, 1) := by decide +kernel
theorem dL_law_530 : decode cL_law 530 = .ok (.aload_n 0, 1) := by decide +kernel
theorem dL_law_531 : decode cL_law 531 = .ok (.iload_n 3, 1) := by decide +kernel
theorem dL_law_532 : decode cL_law 532 = .ok (.iconst 1, 1) := by decide +kernel
theorem dL_law_533 : decode cL_law 533 = .ok (.iadd, 1) := by decide +kernel
theorem dL_law_534 : decode cL_law 534 = .ok (.iaload, 1) := by decide +kernel
theorem dL_law_535 : decode cL_law 535 = .ok (.aload_n 0, 1) := by decide +kernel
theorem dL_law_536 : decode cL_law 536 = .ok (.iload_n 3, 1) := by decide +kernel
theorem dL_law_537 : decode cL_law 537 = .ok (.iconst 2, 1) := by decide +kernel
theorem dL_law_538 : decode cL_law 538 = .ok (.iadd, 1) := by decide +kernel
theorem dL_law_539 : decode cL_law 539 = .ok (.iaload, 1) := by decide +kernel
theorem dL_law_540 : decode cL_law 540 = .ok (.invokevirtual 58, 3) := by decide +kernel
theorem dL_law_543 : decode cL_law 543 = .ok (.if_icmp .eq 1048, 3) := by decide +kernel
theorem dL_law_546 : decode cL_law 546 = .ok (.iconst 0, 1) := by decide +kernel
theorem dL_law_547 : decode cL_law 547 = .ok (.ireturn, 1) := by decide +kernel
theorem dL_law_548 : decode cL_law 548 = .ok (.aload_n 1, 1) := by decide +kernel
theorem dL_law_549 : decode cL_law 549 = .ok (.aload_n 0, 1) := by decide +kernel
theorem dL_law_550 : decode cL_law 550 = .ok (.iload_n 3, 1) := by decide +kernel
theorem dL_law_551 : decode cL_law 551 = .ok (.iconst 1, 1) := by decide +kernel
theorem dL_law_552 : decode cL_law 552 = .ok (.iadd, 1) := by decide +kernel
theorem dL_law_553 : decode cL_law 553 = .ok (.iaload, 1) := by decide +kernel
theorem dL_law_554 : decode cL_law 554 = .ok (.invokevirtual 59, 3) := by decide +kernel
theorem dL_law_557 : decode cL_law 557 = .ok (.aload_n 2, 1) := by decide +kernel
theorem dL_law_558 : decode cL_law 558 = .ok (.aload_n 0, 1) := by decide +kernel
theorem dL_law_559 : decode cL_law 559 = .ok (.iload_n 3, 1) := by decide +kernel
theorem dL_law_560 : decode cL_law 560 = .ok (.iconst 1, 1) := by decide +kernel
theorem dL_law_561 : decode cL_law 561 = .ok (.iadd, 1) := by decide +kernel
theorem dL_law_562 : decode cL_law 562 = .ok (.iaload, 1) := by decide +kernel
theorem dL_law_563 : decode cL_law 563 = .ok (.invokevirtual 62, 3) := by decide +kernel
theorem dL_law_566 : decode cL_law 566 = .ok (.if_icmp .eq 1025, 3) := by decide +kernel
theorem dL_law_569 : decode cL_law 569 = .ok (.iconst 0, 1) := by decide +kernel
theorem dL_law_570 : decode cL_law 570 = .ok (.ireturn, 1) := by decide +kernel
theorem dL_law_571 : decode cL_law 571 = .ok (.aload_n 1, 1) := by decide +kernel
theorem dL_law_572 : decode cL_law 572 = .ok (.aload_n 0, 1) := by decide +kernel
theorem dL_law_573 : decode cL_law 573 = .ok (.iload_n 3, 1) := by decide +kernel
theorem dL_law_574 : decode cL_law 574 = .ok (.iconst 1, 1) := by decide +kernel
theorem dL_law_575 : decode cL_law 575 = .ok (.iadd, 1) := by decide +kernel
theorem dL_law_576 : decode cL_law 576 = .ok (.iaload, 1) := by decide +kernel
theorem dL_law_577 : decode cL_law 577 = .ok (.invokevirtual 63, 3) := by decide +kernel
theorem dL_law_580 : decode cL_law 580 = .ok (.aload_n 2, 1) := by decide +kernel
theorem dL_law_581 : decode cL_law 581 = .ok (.aload_n 0, 1) := by decide +kernel
theorem dL_law_582 : decode cL_law 582 = .ok (.iload_n 3, 1) := by decide +kernel
theorem dL_law_583 : decode cL_law 583 = .ok (.iconst 1, 1) := by decide +kernel
theorem dL_law_584 : decode cL_law 584 = .ok (.iadd, 1) := by decide +kernel
theorem dL_law_585 : decode cL_law 585 = .ok (.iaload, 1) := by decide +kernel
theorem dL_law_586 : decode cL_law 586 = .ok (.invokevirtual 66, 3) := by decide +kernel
theorem dL_law_589 : decode cL_law 589 = .ok (.if_icmp .eq 1002, 3) := by decide +kernel
theorem dL_law_592 : decode cL_law 592 = .ok (.iconst 0, 1) := by decide +kernel
theorem dL_law_593 : decode cL_law 593 = .ok (.ireturn, 1) := by decide +kernel
theorem dL_law_594 : decode cL_law 594 = .ok (.aload_n 1, 1) := by decide +kernel
theorem dL_law_595 : decode cL_law 595 = .ok (.aload_n 0, 1) := by decide +kernel
theorem dL_law_596 : decode cL_law 596 = .ok (.iload_n 3, 1) := by decide +kernel
theorem dL_law_597 : decode cL_law 597 = .ok (.iconst 1, 1) := by decide +kernel
theorem dL_law_598 : decode cL_law 598 = .ok (.iadd, 1) := by decide +kernel
theorem dL_law_599 : decode cL_law 599 = .ok (.iaload, 1) := by decide +kernel
theorem dL_law_600 : decode cL_law 600 = .ok (.aload_n 0, 1) := by decide +kernel
theorem dL_law_601 : decode cL_law 601 = .ok (.iload_n 3, 1) := by decide +kernel
theorem dL_law_602 : decode cL_law 602 = .ok (.iconst 2, 1) := by decide +kernel
theorem dL_law_603 : decode cL_law 603 = .ok (.iadd, 1) := by decide +kernel
theorem dL_law_604 : decode cL_law 604 = .ok (.iaload, 1) := by decide +kernel
theorem dL_law_605 : decode cL_law 605 = .ok (.invokevirtual 67, 3) := by decide +kernel
theorem dL_law_608 : decode cL_law 608 = .ok (.aload_n 2, 1) := by decide +kernel
theorem dL_law_609 : decode cL_law 609 = .ok (.aload_n 0, 1) := by decide +kernel
theorem dL_law_610 : decode cL_law 610 = .ok (.iload_n 3, 1) := by decide +kernel
theorem dL_law_611 : decode cL_law 611 = .ok (.iconst 1, 1) := by decide +kernel
theorem dL_law_612 : decode cL_law 612 = .ok (.iadd, 1) := by decide +kernel
theorem dL_law_613 : decode cL_law 613 = .ok (.iaload, 1) := by decide +kernel
theorem dL_law_614 : decode cL_law 614 = .ok (.aload_n 0, 1) := by decide +kernel
theorem dL_law_615 : decode cL_law 615 = .ok (.iload_n 3, 1) := by decide +kernel
theorem dL_law_616 : decode cL_law 616 = .ok (.iconst 2, 1) := by decide +kernel
theorem dL_law_617 : decode cL_law 617 = .ok (.iadd, 1) := by decide +kernel
theorem dL_law_618 : decode cL_law 618 = .ok (.iaload, 1) := by decide +kernel
theorem dL_law_619 : decode cL_law 619 = .ok (.invokevirtual 70, 3) := by decide +kernel
theorem dL_law_622 : decode cL_law 622 = .ok (.if_icmp .eq 969, 3) := by decide +kernel
theorem dL_law_625 : decode cL_law 625 = .ok (.iconst 0, 1) := by decide +kernel
theorem dL_law_626 : decode cL_law 626 = .ok (.ireturn, 1) := by decide +kernel
theorem dL_law_627 : decode cL_law 627 = .ok (.aload_n 1, 1) := by decide +kernel
theorem dL_law_628 : decode cL_law 628 = .ok (.invokevirtual 71, 3) := by decide +kernel
theorem dL_law_631 : decode cL_law 631 = .ok (.aload_n 2, 1) := by decide +kernel
theorem dL_law_632 : decode cL_law 632 = .ok (.invokevirtual 74, 3) := by decide +kernel
theorem dL_law_635 : decode cL_law 635 = .ok (.if_icmp .eq 956, 3) := by decide +kernel
theorem dL_law_638 : decode cL_law 638 = .ok (.iconst 0, 1) := by decide +kernel
theorem dL_law_639 : decode cL_law 639 = .ok (.ireturn, 1) := by decide +kernel
theorem dL_law_640 : decode cL_law 640 = .ok (.aload_n 1, 1) := by decide +kernel
theorem dL_law_641 : decode cL_law 641 = .ok (.aload_n 0, 1) := by decide +kernel
theorem dL_law_642 : decode cL_law 642 = .ok (.iload_n 3, 1) := by decide +kernel
theorem dL_law_643 : decode cL_law 643 = .ok (.iconst 1, 1) := by decide +kernel
theorem dL_law_644 : decode cL_law 644 = .ok (.iadd, 1) := by decide +kernel
theorem dL_law_645 : decode cL_law 645 = .ok (.iaload, 1) := by decide +kernel
theorem dL_law_646 : decode cL_law 646 = .ok (.aload_n 0, 1) := by decide +kernel
theorem dL_law_647 : decode cL_law 647 = .ok (.iload_n 3, 1) := by decide +kernel
theorem dL_law_648 : decode cL_law 648 = .ok (.iconst 2, 1) := by decide +kernel
theorem dL_law_649 : decode cL_law 649 = .ok (.iadd, 1) := by decide +kernel
theorem dL_law_650 : decode cL_law 650 = .ok (.iaload, 1) := by decide +kernel
theorem dL_law_651 : decode cL_law 651 = .ok (.invokevirtual 75, 3) := by decide +kernel
theorem dL_law_654 : decode cL_law 654 = .ok (.aload_n 2, 1) := by decide +kernel
theorem dL_law_655 : decode cL_law 655 = .ok (.aload_n 0, 1) := by decide +kernel
theorem dL_law_656 : decode cL_law 656 = .ok (.iload_n 3, 1) := by decide +kernel
theorem dL_law_657 : decode cL_law 657 = .ok (.iconst 1, 1) := by decide +kernel
theorem dL_law_658 : decode cL_law 658 = .ok (.iadd, 1) := by decide +kernel
theorem dL_law_659 : decode cL_law 659 = .ok (.iaload, 1) := by decide +kernel
theorem dL_law_660 : decode cL_law 660 = .ok (.aload_n 0, 1) := by decide +kernel
theorem dL_law_661 : decode cL_law 661 = .ok (.iload_n 3, 1) := by decide +kernel
theorem dL_law_662 : decode cL_law 662 = .ok (.iconst 2, 1) := by decide +kernel
theorem dL_law_663 : decode cL_law 663 = .ok (.iadd, 1) := by decide +kernel
theorem dL_law_664 : decode cL_law 664 = .ok (.iaload, 1) := by decide +kernel
theorem dL_law_665 : decode cL_law 665 = .ok (.invokevirtual 78, 3) := by decide +kernel
theorem dL_law_668 : decode cL_law 668 = .ok (.if_icmp .eq 923, 3) := by decide +kernel
theorem dL_law_671 : decode cL_law 671 = .ok (.iconst 0, 1) := by decide +kernel
theorem dL_law_672 : decode cL_law 672 = .ok (.ireturn, 1) := by decide +kernel
theorem dL_law_673 : decode cL_law 673 = .ok (.aload_n 1, 1) := by decide +kernel
theorem dL_law_674 : decode cL_law 674 = .ok (.aload_n 0, 1) := by decide +kernel
theorem dL_law_675 : decode cL_law 675 = .ok (.iload_n 3, 1) := by decide +kernel
theorem dL_law_676 : decode cL_law 676 = .ok (.iconst 1, 1) := by decide +kernel
theorem dL_law_677 : decode cL_law 677 = .ok (.iadd, 1) := by decide +kernel
theorem dL_law_678 : decode cL_law 678 = .ok (.iaload, 1) := by decide +kernel
theorem dL_law_679 : decode cL_law 679 = .ok (.invokevirtual 79, 3) := by decide +kernel
theorem dL_law_682 : decode cL_law 682 = .ok (.aload_n 2, 1) := by decide +kernel
theorem dL_law_683 : decode cL_law 683 = .ok (.aload_n 0, 1) := by decide +kernel
theorem dL_law_684 : decode cL_law 684 = .ok (.iload_n 3, 1) := by decide +kernel
theorem dL_law_685 : decode cL_law 685 = .ok (.iconst 1, 1) := by decide +kernel
theorem dL_law_686 : decode cL_law 686 = .ok (.iadd, 1) := by decide +kernel
theorem dL_law_687 : decode cL_law 687 = .ok (.iaload, 1) := by decide +kernel
theorem dL_law_688 : decode cL_law 688 = .ok (.invokevirtual 82, 3) := by decide +kernel
theorem dL_law_691 : decode cL_law 691 = .ok (.if_icmp .eq 900, 3) := by decide +kernel
theorem dL_law_694 : decode cL_law 694 = .ok (.iconst 0, 1) := by decide +kernel
theorem dL_law_695 : decode cL_law 695 = .ok (.ireturn, 1) := by decide +kernel
theorem dL_law_696 : decode cL_law 696 = .ok (.aload_n 1, 1) := by decide +kernel
theorem dL_law_697 : decode cL_law 697 = .ok (.aload_n 0, 1) := by decide +kernel
theorem dL_law_698 : decode cL_law 698 = .ok (.iload_n 3, 1) := by decide +kernel
theorem dL_law_699 : decode cL_law 699 = .ok (.iconst 1, 1) := by decide +kernel
theorem dL_law_700 : decode cL_law 700 = .ok (.iadd, 1) := by decide +kernel
theorem dL_law_701 : decode cL_law 701 = .ok (.iaload, 1) := by decide +kernel
theorem dL_law_702 : decode cL_law 702 = .ok (.aload_n 0, 1) := by decide +kernel
theorem dL_law_703 : decode cL_law 703 = .ok (.iload_n 3, 1) := by decide +kernel
theorem dL_law_704 : decode cL_law 704 = .ok (.iconst 2, 1) := by decide +kernel
theorem dL_law_705 : decode cL_law 705 = .ok (.iadd, 1) := by decide +kernel
theorem dL_law_706 : decode cL_law 706 = .ok (.iaload, 1) := by decide +kernel
theorem dL_law_707 : decode cL_law 707 = .ok (.invokevirtual 83, 3) := by decide +kernel
theorem dL_law_710 : decode cL_law 710 = .ok (.aload_n 2, 1) := by decide +kernel
theorem dL_law_711 : decode cL_law 711 = .ok (.aload_n 0, 1) := by decide +kernel
theorem dL_law_712 : decode cL_law 712 = .ok (.iload_n 3, 1) := by decide +kernel
theorem dL_law_713 : decode cL_law 713 = .ok (.iconst 1, 1) := by decide +kernel
theorem dL_law_714 : decode cL_law 714 = .ok (.iadd, 1) := by decide +kernel
theorem dL_law_715 : decode cL_law 715 = .ok (.iaload, 1) := by decide +kernel
theorem dL_law_716 : decode cL_law 716 = .ok (.aload_n 0, 1) := by decide +kernel
theorem dL_law_717 : decode cL_law 717 = .ok (.iload_n 3, 1) := by decide +kernel
theorem dL_law_718 : decode cL_law 718 = .ok (.iconst 2, 1) := by decide +kernel
theorem dL_law_719 : decode cL_law 719 = .ok (.iadd, 1) := by decide +kernel
theorem dL_law_720 : decode cL_law 720 = .ok (.iaload, 1) := by decide +kernel
theorem dL_law_721 : decode cL_law 721 = .ok (.invokevirtual 86, 3) := by decide +kernel
theorem dL_law_724 : decode cL_law 724 = .ok (.if_icmp .eq 867, 3) := by decide +kernel
theorem dL_law_727 : decode cL_law 727 = .ok (.iconst 0, 1) := by decide +kernel
theorem dL_law_728 : decode cL_law 728 = .ok (.ireturn, 1) := by decide +kernel
theorem dL_law_729 : decode cL_law 729 = .ok (.aload_n 1, 1) := by decide +kernel
theorem dL_law_730 : decode cL_law 730 = .ok (.aload_n 0, 1) := by decide +kernel
theorem dL_law_731 : decode cL_law 731 = .ok (.iload_n 3, 1) := by decide +kernel
theorem dL_law_732 : decode cL_law 732 = .ok (.iconst 1, 1) := by decide +kernel
theorem dL_law_733 : decode cL_law 733 = .ok (.iadd, 1) := by decide +kernel
theorem dL_law_734 : decode cL_law 734 = .ok (.iaload, 1) := by decide +kernel
theorem dL_law_735 : decode cL_law 735 = .ok (.aload_n 0, 1) := by decide +kernel
theorem dL_law_736 : decode cL_law 736 = .ok (.iload_n 3, 1) := by decide +kernel
theorem dL_law_737 : decode cL_law 737 = .ok (.iconst 2, 1) := by decide +kernel
theorem dL_law_738 : decode cL_law 738 = .ok (.iadd, 1) := by decide +kernel
theorem dL_law_739 : decode cL_law 739 = .ok (.iaload, 1) := by decide +kernel
theorem dL_law_740 : decode cL_law 740 = .ok (.invokevirtual 87, 3) := by decide +kernel
theorem dL_law_743 : decode cL_law 743 = .ok (.aload_n 2, 1) := by decide +kernel
theorem dL_law_744 : decode cL_law 744 = .ok (.aload_n 0, 1) := by decide +kernel
theorem dL_law_745 : decode cL_law 745 = .ok (.iload_n 3, 1) := by decide +kernel
theorem dL_law_746 : decode cL_law 746 = .ok (.iconst 1, 1) := by decide +kernel
theorem dL_law_747 : decode cL_law 747 = .ok (.iadd, 1) := by decide +kernel
theorem dL_law_748 : decode cL_law 748 = .ok (.iaload, 1) := by decide +kernel
theorem dL_law_749 : decode cL_law 749 = .ok (.aload_n 0, 1) := by decide +kernel
theorem dL_law_750 : decode cL_law 750 = .ok (.iload_n 3, 1) := by decide +kernel
theorem dL_law_751 : decode cL_law 751 = .ok (.iconst 2, 1) := by decide +kernel
theorem dL_law_752 : decode cL_law 752 = .ok (.iadd, 1) := by decide +kernel
theorem dL_law_753 : decode cL_law 753 = .ok (.iaload, 1) := by decide +kernel
theorem dL_law_754 : decode cL_law 754 = .ok (.invokevirtual 90, 3) := by decide +kernel
theorem dL_law_757 : decode cL_law 757 = .ok (.if_icmp .eq 834, 3) := by decide +kernel
theorem dL_law_760 : decode cL_law 760 = .ok (.iconst 0, 1) := by decide +kernel
theorem dL_law_761 : decode cL_law 761 = .ok (.ireturn, 1) := by decide +kernel
theorem dL_law_762 : decode cL_law 762 = .ok (.aload_n 1, 1) := by decide +kernel
theorem dL_law_763 : decode cL_law 763 = .ok (.aload_n 0, 1) := by decide +kernel
theorem dL_law_764 : decode cL_law 764 = .ok (.iload_n 3, 1) := by decide +kernel
theorem dL_law_765 : decode cL_law 765 = .ok (.iconst 1, 1) := by decide +kernel
theorem dL_law_766 : decode cL_law 766 = .ok (.iadd, 1) := by decide +kernel
theorem dL_law_767 : decode cL_law 767 = .ok (.iaload, 1) := by decide +kernel
theorem dL_law_768 : decode cL_law 768 = .ok (.invokevirtual 91, 3) := by decide +kernel
theorem dL_law_771 : decode cL_law 771 = .ok (.aload_n 2, 1) := by decide +kernel
theorem dL_law_772 : decode cL_law 772 = .ok (.aload_n 0, 1) := by decide +kernel
theorem dL_law_773 : decode cL_law 773 = .ok (.iload_n 3, 1) := by decide +kernel
theorem dL_law_774 : decode cL_law 774 = .ok (.iconst 1, 1) := by decide +kernel
theorem dL_law_775 : decode cL_law 775 = .ok (.iadd, 1) := by decide +kernel
theorem dL_law_776 : decode cL_law 776 = .ok (.iaload, 1) := by decide +kernel
theorem dL_law_777 : decode cL_law 777 = .ok (.invokevirtual 94, 3) := by decide +kernel
theorem dL_law_780 : decode cL_law 780 = .ok (.if_icmp .eq 811, 3) := by decide +kernel
theorem dL_law_783 : decode cL_law 783 = .ok (.iconst 0, 1) := by decide +kernel
theorem dL_law_784 : decode cL_law 784 = .ok (.ireturn, 1) := by decide +kernel
theorem dL_law_785 : decode cL_law 785 = .ok (.aload_n 1, 1) := by decide +kernel
theorem dL_law_786 : decode cL_law 786 = .ok (.aload_n 0, 1) := by decide +kernel
theorem dL_law_787 : decode cL_law 787 = .ok (.iload_n 3, 1) := by decide +kernel
theorem dL_law_788 : decode cL_law 788 = .ok (.iconst 1, 1) := by decide +kernel
theorem dL_law_789 : decode cL_law 789 = .ok (.iadd, 1) := by decide +kernel
theorem dL_law_790 : decode cL_law 790 = .ok (.iaload, 1) := by decide +kernel
theorem dL_law_791 : decode cL_law 791 = .ok (.ifCond .eq 7, 3) := by decide +kernel
theorem dL_law_794 : decode cL_law 794 = .ok (.iconst 1, 1) := by decide +kernel
theorem dL_law_795 : decode cL_law 795 = .ok (.goto 4, 3) := by decide +kernel
theorem dL_law_798 : decode cL_law 798 = .ok (.iconst 0, 1) := by decide +kernel
theorem dL_law_799 : decode cL_law 799 = .ok (.invokevirtual 95, 3) := by decide +kernel
theorem dL_law_802 : decode cL_law 802 = .ok (.aload_n 2, 1) := by decide +kernel
theorem dL_law_803 : decode cL_law 803 = .ok (.aload_n 0, 1) := by decide +kernel
theorem dL_law_804 : decode cL_law 804 = .ok (.iload_n 3, 1) := by decide +kernel
theorem dL_law_805 : decode cL_law 805 = .ok (.iconst 1, 1) := by decide +kernel
theorem dL_law_806 : decode cL_law 806 = .ok (.iadd, 1) := by decide +kernel
theorem dL_law_807 : decode cL_law 807 = .ok (.iaload, 1) := by decide +kernel
theorem dL_law_808 : decode cL_law 808 = .ok (.ifCond .eq 7, 3) := by decide +kernel
theorem dL_law_811 : decode cL_law 811 = .ok (.iconst 1, 1) := by decide +kernel
theorem dL_law_812 : decode cL_law 812 = .ok (.goto 4, 3) := by decide +kernel
theorem dL_law_815 : decode cL_law 815 = .ok (.iconst 0, 1) := by decide +kernel
theorem dL_law_816 : decode cL_law 816 = .ok (.invokevirtual 99, 3) := by decide +kernel
theorem dL_law_819 : decode cL_law 819 = .ok (.if_icmp .eq 772, 3) := by decide +kernel
theorem dL_law_822 : decode cL_law 822 = .ok (.iconst 0, 1) := by decide +kernel
theorem dL_law_823 : decode cL_law 823 = .ok (.ireturn, 1) := by decide +kernel
theorem dL_law_824 : decode cL_law 824 = .ok (.aload_n 1, 1) := by decide +kernel
theorem dL_law_825 : decode cL_law 825 = .ok (.aload_n 0, 1) := by decide +kernel
theorem dL_law_826 : decode cL_law 826 = .ok (.iload_n 3, 1) := by decide +kernel
theorem dL_law_827 : decode cL_law 827 = .ok (.iconst 1, 1) := by decide +kernel
theorem dL_law_828 : decode cL_law 828 = .ok (.iadd, 1) := by decide +kernel
theorem dL_law_829 : decode cL_law 829 = .ok (.iaload, 1) := by decide +kernel
theorem dL_law_830 : decode cL_law 830 = .ok (.ifCond .eq 7, 3) := by decide +kernel
theorem dL_law_833 : decode cL_law 833 = .ok (.iconst 1, 1) := by decide +kernel
theorem dL_law_834 : decode cL_law 834 = .ok (.goto 4, 3) := by decide +kernel
theorem dL_law_837 : decode cL_law 837 = .ok (.iconst 0, 1) := by decide +kernel
theorem dL_law_838 : decode cL_law 838 = .ok (.invokevirtual 100, 3) := by decide +kernel
theorem dL_law_841 : decode cL_law 841 = .ok (.aload_n 2, 1) := by decide +kernel
theorem dL_law_842 : decode cL_law 842 = .ok (.aload_n 0, 1) := by decide +kernel
theorem dL_law_843 : decode cL_law 843 = .ok (.iload_n 3, 1) := by decide +kernel
theorem dL_law_844 : decode cL_law 844 = .ok (.iconst 1, 1) := by decide +kernel
theorem dL_law_845 : decode cL_law 845 = .ok (.iadd, 1) := by decide +kernel
theorem dL_law_846 : decode cL_law 846 = .ok (.iaload, 1) := by decide +kernel
theorem dL_law_847 : decode cL_law 847 = .ok (.ifCond .eq 7, 3) := by decide +kernel
theorem dL_law_850 : decode cL_law 850 = .ok (.iconst 1, 1) := by decide +kernel
theorem dL_law_851 : decode cL_law 851 = .ok (.goto 4, 3) := by decide +kernel
theorem dL_law_854 : decode cL_law 854 = .ok (.iconst 0, 1) := by decide +kernel
theorem dL_law_855 : decode cL_law 855 = .ok (.invokevirtual 103, 3) := by decide +kernel
theorem dL_law_858 : decode cL_law 858 = .ok (.if_icmp .eq 733, 3) := by decide +kernel
theorem dL_law_861 : decode cL_law 861 = .ok (.iconst 0, 1) := by decide +kernel
theorem dL_law_862 : decode cL_law 862 = .ok (.ireturn, 1) := by decide +kernel
theorem dL_law_863 : decode cL_law 863 = .ok (.aload_n 1, 1) := by decide +kernel
theorem dL_law_864 : decode cL_law 864 = .ok (.invokevirtual 104, 3) := by decide +kernel
theorem dL_law_867 : decode cL_law 867 = .ok (.aload_n 2, 1) := by decide +kernel
theorem dL_law_868 : decode cL_law 868 = .ok (.invokevirtual 107, 3) := by decide +kernel
theorem dL_law_871 : decode cL_law 871 = .ok (.if_icmp .eq 720, 3) := by decide +kernel
theorem dL_law_874 : decode cL_law 874 = .ok (.iconst 0, 1) := by decide +kernel
theorem dL_law_875 : decode cL_law 875 = .ok (.ireturn, 1) := by decide +kernel
theorem dL_law_876 : decode cL_law 876 = .ok (.aload_n 1, 1) := by decide +kernel
theorem dL_law_877 : decode cL_law 877 = .ok (.invokevirtual 108, 3) := by decide +kernel
theorem dL_law_880 : decode cL_law 880 = .ok (.aload_n 2, 1) := by decide +kernel
theorem dL_law_881 : decode cL_law 881 = .ok (.invokevirtual 111, 3) := by decide +kernel
theorem dL_law_884 : decode cL_law 884 = .ok (.if_icmp .eq 707, 3) := by decide +kernel
theorem dL_law_887 : decode cL_law 887 = .ok (.iconst 0, 1) := by decide +kernel
theorem dL_law_888 : decode cL_law 888 = .ok (.ireturn, 1) := by decide +kernel
theorem dL_law_889 : decode cL_law 889 = .ok (.aload_n 1, 1) := by decide +kernel
theorem dL_law_890 : decode cL_law 890 = .ok (.aload_n 0, 1) := by decide +kernel
theorem dL_law_891 : decode cL_law 891 = .ok (.iload_n 3, 1) := by decide +kernel
theorem dL_law_892 : decode cL_law 892 = .ok (.iconst 1, 1) := by decide +kernel
theorem dL_law_893 : decode cL_law 893 = .ok (.iadd, 1) := by decide +kernel
theorem dL_law_894 : decode cL_law 894 = .ok (.iaload, 1) := by decide +kernel
theorem dL_law_895 : decode cL_law 895 = .ok (.invokevirtual 112, 3) := by decide +kernel
theorem dL_law_898 : decode cL_law 898 = .ok (.aload_n 2, 1) := by decide +kernel
theorem dL_law_899 : decode cL_law 899 = .ok (.aload_n 0, 1) := by decide +kernel
theorem dL_law_900 : decode cL_law 900 = .ok (.iload_n 3, 1) := by decide +kernel
theorem dL_law_901 : decode cL_law 901 = .ok (.iconst 1, 1) := by decide +kernel
theorem dL_law_902 : decode cL_law 902 = .ok (.iadd, 1) := by decide +kernel
theorem dL_law_903 : decode cL_law 903 = .ok (.iaload, 1) := by decide +kernel
theorem dL_law_904 : decode cL_law 904 = .ok (.invokevirtual 115, 3) := by decide +kernel
theorem dL_law_907 : decode cL_law 907 = .ok (.if_icmp .eq 684, 3) := by decide +kernel
theorem dL_law_910 : decode cL_law 910 = .ok (.iconst 0, 1) := by decide +kernel
theorem dL_law_911 : decode cL_law 911 = .ok (.ireturn, 1) := by decide +kernel
theorem dL_law_912 : decode cL_law 912 = .ok (.aload_n 1, 1) := by decide +kernel
theorem dL_law_913 : decode cL_law 913 = .ok (.aload_n 0, 1) := by decide +kernel
theorem dL_law_914 : decode cL_law 914 = .ok (.iload_n 3, 1) := by decide +kernel
theorem dL_law_915 : decode cL_law 915 = .ok (.iconst 1, 1) := by decide +kernel
theorem dL_law_916 : decode cL_law 916 = .ok (.iadd, 1) := by decide +kernel
theorem dL_law_917 : decode cL_law 917 = .ok (.iaload, 1) := by decide +kernel
theorem dL_law_918 : decode cL_law 918 = .ok (.aload_n 0, 1) := by decide +kernel
theorem dL_law_919 : decode cL_law 919 = .ok (.iload_n 3, 1) := by decide +kernel
theorem dL_law_920 : decode cL_law 920 = .ok (.iconst 2, 1) := by decide +kernel
theorem dL_law_921 : decode cL_law 921 = .ok (.iadd, 1) := by decide +kernel
theorem dL_law_922 : decode cL_law 922 = .ok (.iaload, 1) := by decide +kernel
theorem dL_law_923 : decode cL_law 923 = .ok (.aload_n 0, 1) := by decide +kernel
theorem dL_law_924 : decode cL_law 924 = .ok (.iload_n 3, 1) := by decide +kernel
theorem dL_law_925 : decode cL_law 925 = .ok (.iconst 3, 1) := by decide +kernel
theorem dL_law_926 : decode cL_law 926 = .ok (.iadd, 1) := by decide +kernel
theorem dL_law_927 : decode cL_law 927 = .ok (.iaload, 1) := by decide +kernel
theorem dL_law_928 : decode cL_law 928 = .ok (.ifCond .eq 7, 3) := by decide +kernel
theorem dL_law_931 : decode cL_law 931 = .ok (.iconst 1, 1) := by decide +kernel
theorem dL_law_932 : decode cL_law 932 = .ok (.goto 4, 3) := by decide +kernel
theorem dL_law_935 : decode cL_law 935 = .ok (.iconst 0, 1) := by decide +kernel
theorem dL_law_936 : decode cL_law 936 = .ok (.invokevirtual 116, 3) := by decide +kernel
theorem dL_law_939 : decode cL_law 939 = .ok (.aload_n 2, 1) := by decide +kernel
theorem dL_law_940 : decode cL_law 940 = .ok (.aload_n 0, 1) := by decide +kernel
theorem dL_law_941 : decode cL_law 941 = .ok (.iload_n 3, 1) := by decide +kernel
theorem dL_law_942 : decode cL_law 942 = .ok (.iconst 1, 1) := by decide +kernel
theorem dL_law_943 : decode cL_law 943 = .ok (.iadd, 1) := by decide +kernel
theorem dL_law_944 : decode cL_law 944 = .ok (.iaload, 1) := by decide +kernel
theorem dL_law_945 : decode cL_law 945 = .ok (.aload_n 0, 1) := by decide +kernel
theorem dL_law_946 : decode cL_law 946 = .ok (.iload_n 3, 1) := by decide +kernel
theorem dL_law_947 : decode cL_law 947 = .ok (.iconst 2, 1) := by decide +kernel
theorem dL_law_948 : decode cL_law 948 = .ok (.iadd, 1) := by decide +kernel
theorem dL_law_949 : decode cL_law 949 = .ok (.iaload, 1) := by decide +kernel
theorem dL_law_950 : decode cL_law 950 = .ok (.aload_n 0, 1) := by decide +kernel
theorem dL_law_951 : decode cL_law 951 = .ok (.iload_n 3, 1) := by decide +kernel
theorem dL_law_952 : decode cL_law 952 = .ok (.iconst 3, 1) := by decide +kernel
theorem dL_law_953 : decode cL_law 953 = .ok (.iadd, 1) := by decide +kernel
theorem dL_law_954 : decode cL_law 954 = .ok (.iaload, 1) := by decide +kernel
theorem dL_law_955 : decode cL_law 955 = .ok (.ifCond .eq 7, 3) := by decide +kernel
theorem dL_law_958 : decode cL_law 958 = .ok (.iconst 1, 1) := by decide +kernel
theorem dL_law_959 : decode cL_law 959 = .ok (.goto 4, 3) := by decide +kernel
theorem dL_law_962 : decode cL_law 962 = .ok (.iconst 0, 1) := by decide +kernel
theorem dL_law_963 : decode cL_law 963 = .ok (.invokevirtual 120, 3) := by decide +kernel
theorem dL_law_966 : decode cL_law 966 = .ok (.if_icmp .eq 625, 3) := by decide +kernel
theorem dL_law_969 : decode cL_law 969 = .ok (.iconst 0, 1) := by decide +kernel
theorem dL_law_970 : decode cL_law 970 = .ok (.ireturn, 1) := by decide +kernel
theorem dL_law_971 : decode cL_law 971 = .ok (.aload_n 1, 1) := by decide +kernel
theorem dL_law_972 : decode cL_law 972 = .ok (.aload_n 0, 1) := by decide +kernel
theorem dL_law_973 : decode cL_law 973 = .ok (.iload_n 3, 1) := by decide +kernel
theorem dL_law_974 : decode cL_law 974 = .ok (.iconst 1, 1) := by decide +kernel
theorem dL_law_975 : decode cL_law 975 = .ok (.iadd, 1) := by decide +kernel
theorem dL_law_976 : decode cL_law 976 = .ok (.iaload, 1) := by decide +kernel
theorem dL_law_977 : decode cL_law 977 = .ok (.aload_n 0, 1) := by decide +kernel
theorem dL_law_978 : decode cL_law 978 = .ok (.iload_n 3, 1) := by decide +kernel
theorem dL_law_979 : decode cL_law 979 = .ok (.iconst 2, 1) := by decide +kernel
theorem dL_law_980 : decode cL_law 980 = .ok (.iadd, 1) := by decide +kernel
theorem dL_law_981 : decode cL_law 981 = .ok (.iaload, 1) := by decide +kernel
theorem dL_law_982 : decode cL_law 982 = .ok (.aload_n 0, 1) := by decide +kernel
theorem dL_law_983 : decode cL_law 983 = .ok (.iload_n 3, 1) := by decide +kernel
theorem dL_law_984 : decode cL_law 984 = .ok (.iconst 3, 1) := by decide +kernel
theorem dL_law_985 : decode cL_law 985 = .ok (.iadd, 1) := by decide +kernel
theorem dL_law_986 : decode cL_law 986 = .ok (.iaload, 1) := by decide +kernel
theorem dL_law_987 : decode cL_law 987 = .ok (.ifCond .eq 7, 3) := by decide +kernel
theorem dL_law_990 : decode cL_law 990 = .ok (.iconst 1, 1) := by decide +kernel
theorem dL_law_991 : decode cL_law 991 = .ok (.goto 4, 3) := by decide +kernel
theorem dL_law_994 : decode cL_law 994 = .ok (.iconst 0, 1) := by decide +kernel
theorem dL_law_995 : decode cL_law 995 = .ok (.invokevirtual 121, 3) := by decide +kernel
theorem dL_law_998 : decode cL_law 998 = .ok (.aload_n 2, 1) := by decide +kernel
theorem dL_law_999 : decode cL_law 999 = .ok (.aload_n 0, 1) := by decide +kernel
theorem dL_law_1000 : decode cL_law 1000 = .ok (.iload_n 3, 1) := by decide +kernel
theorem dL_law_1001 : decode cL_law 1001 = .ok (.iconst 1, 1) := by decide +kernel
theorem dL_law_1002 : decode cL_law 1002 = .ok (.iadd, 1) := by decide +kernel
theorem dL_law_1003 : decode cL_law 1003 = .ok (.iaload, 1) := by decide +kernel
theorem dL_law_1004 : decode cL_law 1004 = .ok (.aload_n 0, 1) := by decide +kernel
theorem dL_law_1005 : decode cL_law 1005 = .ok (.iload_n 3, 1) := by decide +kernel
theorem dL_law_1006 : decode cL_law 1006 = .ok (.iconst 2, 1) := by decide +kernel
theorem dL_law_1007 : decode cL_law 1007 = .ok (.iadd, 1) := by decide +kernel
theorem dL_law_1008 : decode cL_law 1008 = .ok (.iaload, 1) := by decide +kernel
theorem dL_law_1009 : decode cL_law 1009 = .ok (.aload_n 0, 1) := by decide +kernel
theorem dL_law_1010 : decode cL_law 1010 = .ok (.iload_n 3, 1) := by decide +kernel
theorem dL_law_1011 : decode cL_law 1011 = .ok (.iconst 3, 1) := by decide +kernel
theorem dL_law_1012 : decode cL_law 1012 = .ok (.iadd, 1) := by decide +kernel
theorem dL_law_1013 : decode cL_law 1013 = .ok (.iaload, 1) := by decide +kernel
theorem dL_law_1014 : decode cL_law 1014 = .ok (.ifCond .eq 7, 3) := by decide +kernel
theorem dL_law_1017 : decode cL_law 1017 = .ok (.iconst 1, 1) := by decide +kernel
theorem dL_law_1018 : decode cL_law 1018 = .ok (.goto 4, 3) := by decide +kernel
theorem dL_law_1021 : decode cL_law 1021 = .ok (.iconst 0, 1) := by decide +kernel
theorem dL_law_1022 : decode cL_law 1022 = .ok (.invokevirtual 124, 3) := by decide +kernel
theorem dL_law_1025 : decode cL_law 1025 = .ok (.if_icmp .eq 566, 3) := by decide +kernel
theorem dL_law_1028 : decode cL_law 1028 = .ok (.iconst 0, 1) := by decide +kernel
theorem dL_law_1029 : decode cL_law 1029 = .ok (.ireturn, 1) := by decide +kernel
theorem dL_law_1030 : decode cL_law 1030 = .ok (.aload_n 1, 1) := by decide +kernel
theorem dL_law_1031 : decode cL_law 1031 = .ok (.aload_n 0, 1) := by decide +kernel
theorem dL_law_1032 : decode cL_law 1032 = .ok (.iload_n 3, 1) := by decide +kernel
theorem dL_law_1033 : decode cL_law 1033 = .ok (.iconst 1, 1) := by decide +kernel
theorem dL_law_1034 : decode cL_law 1034 = .ok (.iadd, 1) := by decide +kernel
theorem dL_law_1035 : decode cL_law 1035 = .ok (.iaload, 1) := by decide +kernel
theorem dL_law_1036 : decode cL_law 1036 = .ok (.aload_n 0, 1) := by decide +kernel
theorem dL_law_1037 : decode cL_law 1037 = .ok (.iload_n 3, 1) := by decide +kernel
theorem dL_law_1038 : decode cL_law 1038 = .ok (.iconst 2, 1) := by decide +kernel
theorem dL_law_1039 : decode cL_law 1039 = .ok (.iadd, 1) := by decide +kernel
theorem dL_law_1040 : decode cL_law 1040 = .ok (.iaload, 1) := by decide +kernel
theorem dL_law_1041 : decode cL_law 1041 = .ok (.aload_n 0, 1) := by decide +kernel
theorem dL_law_1042 : decode cL_law 1042 = .ok (.iload_n 3, 1) := by decide +kernel
theorem dL_law_1043 : decode cL_law 1043 = .ok (.iconst 3, 1) := by decide +kernel
theorem dL_law_1044 : decode cL_law 1044 = .ok (.iadd, 1) := by decide +kernel
theorem dL_law_1045 : decode cL_law 1045 = .ok (.iaload, 1) := by decide +kernel
theorem dL_law_1046 : decode cL_law 1046 = .ok (.aload_n 0, 1) := by decide +kernel
theorem dL_law_1047 : decode cL_law 1047 = .ok (.iload_n 3, 1) := by decide +kernel
theorem dL_law_1048 : decode cL_law 1048 = .ok (.iconst 4, 1) := by decide +kernel
theorem dL_law_1049 : decode cL_law 1049 = .ok (.iadd, 1) := by decide +kernel
theorem dL_law_1050 : decode cL_law 1050 = .ok (.iaload, 1) := by decide +kernel
theorem dL_law_1051 : decode cL_law 1051 = .ok (.ifCond .eq 7, 3) := by decide +kernel
theorem dL_law_1054 : decode cL_law 1054 = .ok (.iconst 1, 1) := by decide +kernel
theorem dL_law_1055 : decode cL_law 1055 = .ok (.goto 4, 3) := by decide +kernel
theorem dL_law_1058 : decode cL_law 1058 = .ok (.iconst 0, 1) := by decide +kernel
theorem dL_law_1059 : decode cL_law 1059 = .ok (.invokevirtual 125, 3) := by decide +kernel
theorem dL_law_1062 : decode cL_law 1062 = .ok (.aload_n 2, 1) := by decide +kernel
theorem dL_law_1063 : decode cL_law 1063 = .ok (.aload_n 0, 1) := by decide +kernel
theorem dL_law_1064 : decode cL_law 1064 = .ok (.iload_n 3, 1) := by decide +kernel
theorem dL_law_1065 : decode cL_law 1065 = .ok (.iconst 1, 1) := by decide +kernel
theorem dL_law_1066 : decode cL_law 1066 = .ok (.iadd, 1) := by decide +kernel
theorem dL_law_1067 : decode cL_law 1067 = .ok (.iaload, 1) := by decide +kernel
theorem dL_law_1068 : decode cL_law 1068 = .ok (.aload_n 0, 1) := by decide +kernel
theorem dL_law_1069 : decode cL_law 1069 = .ok (.iload_n 3, 1) := by decide +kernel
theorem dL_law_1070 : decode cL_law 1070 = .ok (.iconst 2, 1) := by decide +kernel
theorem dL_law_1071 : decode cL_law 1071 = .ok (.iadd, 1) := by decide +kernel
theorem dL_law_1072 : decode cL_law 1072 = .ok (.iaload, 1) := by decide +kernel
theorem dL_law_1073 : decode cL_law 1073 = .ok (.aload_n 0, 1) := by decide +kernel
theorem dL_law_1074 : decode cL_law 1074 = .ok (.iload_n 3, 1) := by decide +kernel
theorem dL_law_1075 : decode cL_law 1075 = .ok (.iconst 3, 1) := by decide +kernel
theorem dL_law_1076 : decode cL_law 1076 = .ok (.iadd, 1) := by decide +kernel
theorem dL_law_1077 : decode cL_law 1077 = .ok (.iaload, 1) := by decide +kernel
theorem dL_law_1078 : decode cL_law 1078 = .ok (.aload_n 0, 1) := by decide +kernel
theorem dL_law_1079 : decode cL_law 1079 = .ok (.iload_n 3, 1) := by decide +kernel
theorem dL_law_1080 : decode cL_law 1080 = .ok (.iconst 4, 1) := by decide +kernel
theorem dL_law_1081 : decode cL_law 1081 = .ok (.iadd, 1) := by decide +kernel
theorem dL_law_1082 : decode cL_law 1082 = .ok (.iaload, 1) := by decide +kernel
theorem dL_law_1083 : decode cL_law 1083 = .ok (.ifCond .eq 7, 3) := by decide +kernel
theorem dL_law_1086 : decode cL_law 1086 = .ok (.iconst 1, 1) := by decide +kernel
theorem dL_law_1087 : decode cL_law 1087 = .ok (.goto 4, 3) := by decide +kernel
theorem dL_law_1090 : decode cL_law 1090 = .ok (.iconst 0, 1) := by decide +kernel
theorem dL_law_1091 : decode cL_law 1091 = .ok (.invokevirtual 129, 3) := by decide +kernel
theorem dL_law_1094 : decode cL_law 1094 = .ok (.if_icmp .eq 497, 3) := by decide +kernel
theorem dL_law_1097 : decode cL_law 1097 = .ok (.iconst 0, 1) := by decide +kernel
theorem dL_law_1098 : decode cL_law 1098 = .ok (.ireturn, 1) := by decide +kernel
theorem dL_law_1099 : decode cL_law 1099 = .ok (.aload_n 1, 1) := by decide +kernel
theorem dL_law_1100 : decode cL_law 1100 = .ok (.aload_n 0, 1) := by decide +kernel
theorem dL_law_1101 : decode cL_law 1101 = .ok (.iload_n 3, 1) := by decide +kernel
theorem dL_law_1102 : decode cL_law 1102 = .ok (.iconst 1, 1) := by decide +kernel
theorem dL_law_1103 : decode cL_law 1103 = .ok (.iadd, 1) := by decide +kernel
theorem dL_law_1104 : decode cL_law 1104 = .ok (.iaload, 1) := by decide +kernel
theorem dL_law_1105 : decode cL_law 1105 = .ok (.aload_n 0, 1) := by decide +kernel
theorem dL_law_1106 : decode cL_law 1106 = .ok (.iload_n 3, 1) := by decide +kernel
theorem dL_law_1107 : decode cL_law 1107 = .ok (.iconst 2, 1) := by decide +kernel
theorem dL_law_1108 : decode cL_law 1108 = .ok (.iadd, 1) := by decide +kernel
theorem dL_law_1109 : decode cL_law 1109 = .ok (.iaload, 1) := by decide +kernel
theorem dL_law_1110 : decode cL_law 1110 = .ok (.invokevirtual 130, 3) := by decide +kernel
theorem dL_law_1113 : decode cL_law 1113 = .ok (.aload_n 2, 1) := by decide +kernel
theorem dL_law_1114 : decode cL_law 1114 = .ok (.aload_n 0, 1) := by decide +kernel
theorem dL_law_1115 : decode cL_law 1115 = .ok (.iload_n 3, 1) := by decide +kernel
theorem dL_law_1116 : decode cL_law 1116 = .ok (.iconst 1, 1) := by decide +kernel
theorem dL_law_1117 : decode cL_law 1117 = .ok (.iadd, 1) := by decide +kernel
theorem dL_law_1118 : decode cL_law 1118 = .ok (.iaload, 1) := by decide +kernel
theorem dL_law_1119 : decode cL_law 1119 = .ok (.aload_n 0, 1) := by decide +kernel
theorem dL_law_1120 : decode cL_law 1120 = .ok (.iload_n 3, 1) := by decide +kernel
theorem dL_law_1121 : decode cL_law 1121 = .ok (.iconst 2, 1) := by decide +kernel
theorem dL_law_1122 : decode cL_law 1122 = .ok (.iadd, 1) := by decide +kernel
theorem dL_law_1123 : decode cL_law 1123 = .ok (.iaload, 1) := by decide +kernel
theorem dL_law_1124 : decode cL_law 1124 = .ok (.invokevirtual 133, 3) := by decide +kernel
theorem dL_law_1127 : decode cL_law 1127 = .ok (.if_icmp .eq 464, 3) := by decide +kernel
theorem dL_law_1130 : decode cL_law 1130 = .ok (.iconst 0, 1) := by decide +kernel
theorem dL_law_1131 : decode cL_law 1131 = .ok (.ireturn, 1) := by decide +kernel
theorem dL_law_1132 : decode cL_law 1132 = .ok (.aload_n 1, 1) := by decide +kernel
theorem dL_law_1133 : decode cL_law 1133 = .ok (.aload_n 0, 1) := by decide +kernel
theorem dL_law_1134 : decode cL_law 1134 = .ok (.iload_n 3, 1) := by decide +kernel
theorem dL_law_1135 : decode cL_law 1135 = .ok (.iconst 1, 1) := by decide +kernel
theorem dL_law_1136 : decode cL_law 1136 = .ok (.iadd, 1) := by decide +kernel
theorem dL_law_1137 : decode cL_law 1137 = .ok (.iaload, 1) := by decide +kernel
theorem dL_law_1138 : decode cL_law 1138 = .ok (.aload_n 0, 1) := by decide +kernel
theorem dL_law_1139 : decode cL_law 1139 = .ok (.iload_n 3, 1) := by decide +kernel
theorem dL_law_1140 : decode cL_law 1140 = .ok (.iconst 2, 1) := by decide +kernel
theorem dL_law_1141 : decode cL_law 1141 = .ok (.iadd, 1) := by decide +kernel
theorem dL_law_1142 : decode cL_law 1142 = .ok (.iaload, 1) := by decide +kernel
theorem dL_law_1143 : decode cL_law 1143 = .ok (.aload_n 0, 1) := by decide +kernel
theorem dL_law_1144 : decode cL_law 1144 = .ok (.iload_n 3, 1) := by decide +kernel
theorem dL_law_1145 : decode cL_law 1145 = .ok (.iconst 3, 1) := by decide +kernel
theorem dL_law_1146 : decode cL_law 1146 = .ok (.iadd, 1) := by decide +kernel
theorem dL_law_1147 : decode cL_law 1147 = .ok (.iaload, 1) := by decide +kernel
theorem dL_law_1148 : decode cL_law 1148 = .ok (.ifCond .eq 7, 3) := by decide +kernel
theorem dL_law_1151 : decode cL_law 1151 = .ok (.iconst 1, 1) := by decide +kernel
theorem dL_law_1152 : decode cL_law 1152 = .ok (.goto 4, 3) := by decide +kernel
theorem dL_law_1155 : decode cL_law 1155 = .ok (.iconst 0, 1) := by decide +kernel
theorem dL_law_1156 : decode cL_law 1156 = .ok (.invokevirtual 134, 3) := by decide +kernel
theorem dL_law_1159 : decode cL_law 1159 = .ok (.aload_n 2, 1) := by decide +kernel
theorem dL_law_1160 : decode cL_law 1160 = .ok (.aload_n 0, 1) := by decide +kernel
theorem dL_law_1161 : decode cL_law 1161 = .ok (.iload_n 3, 1) := by decide +kernel
theorem dL_law_1162 : decode cL_law 1162 = .ok (.iconst 1, 1) := by decide +kernel
theorem dL_law_1163 : decode cL_law 1163 = .ok (.iadd, 1) := by decide +kernel
theorem dL_law_1164 : decode cL_law 1164 = .ok (.iaload, 1) := by decide +kernel
theorem dL_law_1165 : decode cL_law 1165 = .ok (.aload_n 0, 1) := by decide +kernel
theorem dL_law_1166 : decode cL_law 1166 = .ok (.iload_n 3, 1) := by decide +kernel
theorem dL_law_1167 : decode cL_law 1167 = .ok (.iconst 2, 1) := by decide +kernel
theorem dL_law_1168 : decode cL_law 1168 = .ok (.iadd, 1) := by decide +kernel
theorem dL_law_1169 : decode cL_law 1169 = .ok (.iaload, 1) := by decide +kernel
theorem dL_law_1170 : decode cL_law 1170 = .ok (.aload_n 0, 1) := by decide +kernel
theorem dL_law_1171 : decode cL_law 1171 = .ok (.iload_n 3, 1) := by decide +kernel
theorem dL_law_1172 : decode cL_law 1172 = .ok (.iconst 3, 1) := by decide +kernel
theorem dL_law_1173 : decode cL_law 1173 = .ok (.iadd, 1) := by decide +kernel
theorem dL_law_1174 : decode cL_law 1174 = .ok (.iaload, 1) := by decide +kernel
theorem dL_law_1175 : decode cL_law 1175 = .ok (.ifCond .eq 7, 3) := by decide +kernel
theorem dL_law_1178 : decode cL_law 1178 = .ok (.iconst 1, 1) := by decide +kernel
theorem dL_law_1179 : decode cL_law 1179 = .ok (.goto 4, 3) := by decide +kernel
theorem dL_law_1182 : decode cL_law 1182 = .ok (.iconst 0, 1) := by decide +kernel
theorem dL_law_1183 : decode cL_law 1183 = .ok (.invokevirtual 137, 3) := by decide +kernel
theorem dL_law_1186 : decode cL_law 1186 = .ok (.if_icmp .eq 405, 3) := by decide +kernel
theorem dL_law_1189 : decode cL_law 1189 = .ok (.iconst 0, 1) := by decide +kernel
theorem dL_law_1190 : decode cL_law 1190 = .ok (.ireturn, 1) := by decide +kernel
theorem dL_law_1191 : decode cL_law 1191 = .ok (.aload_n 1, 1) := by decide +kernel
theorem dL_law_1192 : decode cL_law 1192 = .ok (.aload_n 0, 1) := by decide +kernel
theorem dL_law_1193 : decode cL_law 1193 = .ok (.iload_n 3, 1) := by decide +kernel
theorem dL_law_1194 : decode cL_law 1194 = .ok (.iconst 1, 1) := by decide +kernel
theorem dL_law_1195 : decode cL_law 1195 = .ok (.iadd, 1) := by decide +kernel
theorem dL_law_1196 : decode cL_law 1196 = .ok (.iaload, 1) := by decide +kernel
theorem dL_law_1197 : decode cL_law 1197 = .ok (.invokevirtual 138, 3) := by decide +kernel
theorem dL_law_1200 : decode cL_law 1200 = .ok (.aload_n 2, 1) := by decide +kernel
theorem dL_law_1201 : decode cL_law 1201 = .ok (.aload_n 0, 1) := by decide +kernel
theorem dL_law_1202 : decode cL_law 1202 = .ok (.iload_n 3, 1) := by decide +kernel
theorem dL_law_1203 : decode cL_law 1203 = .ok (.iconst 1, 1) := by decide +kernel
theorem dL_law_1204 : decode cL_law 1204 = .ok (.iadd, 1) := by decide +kernel
theorem dL_law_1205 : decode cL_law 1205 = .ok (.iaload, 1) := by decide +kernel
theorem dL_law_1206 : decode cL_law 1206 = .ok (.invokevirtual 141, 3) := by decide +kernel
theorem dL_law_1209 : decode cL_law 1209 = .ok (.if_icmp .eq 382, 3) := by decide +kernel
theorem dL_law_1212 : decode cL_law 1212 = .ok (.iconst 0, 1) := by decide +kernel
theorem dL_law_1213 : decode cL_law 1213 = .ok (.ireturn, 1) := by decide +kernel
theorem dL_law_1214 : decode cL_law 1214 = .ok (.aload_n 1, 1) := by decide +kernel
theorem dL_law_1215 : decode cL_law 1215 = .ok (.aload_n 0, 1) := by decide +kernel
theorem dL_law_1216 : decode cL_law 1216 = .ok (.iload_n 3, 1) := by decide +kernel
theorem dL_law_1217 : decode cL_law 1217 = .ok (.iconst 1, 1) := by decide +kernel
theorem dL_law_1218 : decode cL_law 1218 = .ok (.iadd, 1) := by decide +kernel
theorem dL_law_1219 : decode cL_law 1219 = .ok (.iaload, 1) := by decide +kernel
theorem dL_law_1220 : decode cL_law 1220 = .ok (.aload_n 0, 1) := by decide +kernel
theorem dL_law_1221 : decode cL_law 1221 = .ok (.iload_n 3, 1) := by decide +kernel
theorem dL_law_1222 : decode cL_law 1222 = .ok (.iconst 2, 1) := by decide +kernel
theorem dL_law_1223 : decode cL_law 1223 = .ok (.iadd, 1) := by decide +kernel
theorem dL_law_1224 : decode cL_law 1224 = .ok (.iaload, 1) := by decide +kernel
theorem dL_law_1225 : decode cL_law 1225 = .ok (.invokevirtual 142, 3) := by decide +kernel
theorem dL_law_1228 : decode cL_law 1228 = .ok (.aload_n 2, 1) := by decide +kernel
theorem dL_law_1229 : decode cL_law 1229 = .ok (.aload_n 0, 1) := by decide +kernel
theorem dL_law_1230 : decode cL_law 1230 = .ok (.iload_n 3, 1) := by decide +kernel
theorem dL_law_1231 : decode cL_law 1231 = .ok (.iconst 1, 1) := by decide +kernel
theorem dL_law_1232 : decode cL_law 1232 = .ok (.iadd, 1) := by decide +kernel
theorem dL_law_1233 : decode cL_law 1233 = .ok (.iaload, 1) := by decide +kernel
theorem dL_law_1234 : decode cL_law 1234 = .ok (.aload_n 0, 1) := by decide +kernel
theorem dL_law_1235 : decode cL_law 1235 = .ok (.iload_n 3, 1) := by decide +kernel
theorem dL_law_1236 : decode cL_law 1236 = .ok (.iconst 2, 1) := by decide +kernel
theorem dL_law_1237 : decode cL_law 1237 = .ok (.iadd, 1) := by decide +kernel
theorem dL_law_1238 : decode cL_law 1238 = .ok (.iaload, 1) := by decide +kernel
theorem dL_law_1239 : decode cL_law 1239 = .ok (.invokevirtual 145, 3) := by decide +kernel
theorem dL_law_1242 : decode cL_law 1242 = .ok (.if_icmp .eq 349, 3) := by decide +kernel
theorem dL_law_1245 : decode cL_law 1245 = .ok (.iconst 0, 1) := by decide +kernel
theorem dL_law_1246 : decode cL_law 1246 = .ok (.ireturn, 1) := by decide +kernel
theorem dL_law_1247 : decode cL_law 1247 = .ok (.aload_n 1, 1) := by decide +kernel
theorem dL_law_1248 : decode cL_law 1248 = .ok (.invokevirtual 146, 3) := by decide +kernel
theorem dL_law_1251 : decode cL_law 1251 = .ok (.aload_n 2, 1) := by decide +kernel
theorem dL_law_1252 : decode cL_law 1252 = .ok (.invokevirtual 149, 3) := by decide +kernel
theorem dL_law_1255 : decode cL_law 1255 = .ok (.if_icmp .eq 336, 3) := by decide +kernel
theorem dL_law_1258 : decode cL_law 1258 = .ok (.iconst 0, 1) := by decide +kernel
theorem dL_law_1259 : decode cL_law 1259 = .ok (.ireturn, 1) := by decide +kernel
theorem dL_law_1260 : decode cL_law 1260 = .ok (.aload_n 1, 1) := by decide +kernel
theorem dL_law_1261 : decode cL_law 1261 = .ok (.aload_n 0, 1) := by decide +kernel
theorem dL_law_1262 : decode cL_law 1262 = .ok (.iload_n 3, 1) := by decide +kernel
theorem dL_law_1263 : decode cL_law 1263 = .ok (.iconst 1, 1) := by decide +kernel
theorem dL_law_1264 : decode cL_law 1264 = .ok (.iadd, 1) := by decide +kernel
theorem dL_law_1265 : decode cL_law 1265 = .ok (.iaload, 1) := by decide +kernel
theorem dL_law_1266 : decode cL_law 1266 = .ok (.invokevirtual 150, 3) := by decide +kernel
theorem dL_law_1269 : decode cL_law 1269 = .ok (.aload_n 2, 1) := by decide +kernel
theorem dL_law_1270 : decode cL_law 1270 = .ok (.aload_n 0, 1) := by decide +kernel
theorem dL_law_1271 : decode cL_law 1271 = .ok (.iload_n 3, 1) := by decide +kernel
theorem dL_law_1272 : decode cL_law 1272 = .ok (.iconst 1, 1) := by decide +kernel
theorem dL_law_1273 : decode cL_law 1273 = .ok (.iadd, 1) := by decide +kernel
theorem dL_law_1274 : decode cL_law 1274 = .ok (.iaload, 1) := by decide +kernel
theorem dL_law_1275 : decode cL_law 1275 = .ok (.invokevirtual 153, 3) := by decide +kernel
theorem dL_law_1278 : decode cL_law 1278 = .ok (.if_icmp .eq 313, 3) := by decide +kernel
theorem dL_law_1281 : decode cL_law 1281 = .ok (.iconst 0, 1) := by decide +kernel
theorem dL_law_1282 : decode cL_law 1282 = .ok (.ireturn, 1) := by decide +kernel
theorem dL_law_1283 : decode cL_law 1283 = .ok (.aload_n 1, 1) := by decide +kernel
theorem dL_law_1284 : decode cL_law 1284 = .ok (.invokevirtual 154, 3) := by decide +kernel
theorem dL_law_1287 : decode cL_law 1287 = .ok (.aload_n 2, 1) := by decide +kernel
theorem dL_law_1288 : decode cL_law 1288 = .ok (.invokevirtual 157, 3) := by decide +kernel
theorem dL_law_1291 : decode cL_law 1291 = .ok (.if_icmp .eq 300, 3) := by decide +kernel
theorem dL_law_1294 : decode cL_law 1294 = .ok (.iconst 0, 1) := by decide +kernel
theorem dL_law_1295 : decode cL_law 1295 = .ok (.ireturn, 1) := by decide +kernel
theorem dL_law_1296 : decode cL_law 1296 = .ok (.aload_n 1, 1) := by decide +kernel
theorem dL_law_1297 : decode cL_law 1297 = .ok (.aload_n 0, 1) := by decide +kernel
theorem dL_law_1298 : decode cL_law 1298 = .ok (.iload_n 3, 1) := by decide +kernel
theorem dL_law_1299 : decode cL_law 1299 = .ok (.iconst 1, 1) := by decide +kernel
theorem dL_law_1300 : decode cL_law 1300 = .ok (.iadd, 1) := by decide +kernel
theorem dL_law_1301 : decode cL_law 1301 = .ok (.iaload, 1) := by decide +kernel
theorem dL_law_1302 : decode cL_law 1302 = .ok (.aload_n 0, 1) := by decide +kernel
theorem dL_law_1303 : decode cL_law 1303 = .ok (.iload_n 3, 1) := by decide +kernel
theorem dL_law_1304 : decode cL_law 1304 = .ok (.iconst 2, 1) := by decide +kernel
theorem dL_law_1305 : decode cL_law 1305 = .ok (.iadd, 1) := by decide +kernel
theorem dL_law_1306 : decode cL_law 1306 = .ok (.iaload, 1) := by decide +kernel
theorem dL_law_1307 : decode cL_law 1307 = .ok (.invokevirtual 158, 3) := by decide +kernel
theorem dL_law_1310 : decode cL_law 1310 = .ok (.aload_n 2, 1) := by decide +kernel
theorem dL_law_1311 : decode cL_law 1311 = .ok (.aload_n 0, 1) := by decide +kernel
theorem dL_law_1312 : decode cL_law 1312 = .ok (.iload_n 3, 1) := by decide +kernel
theorem dL_law_1313 : decode cL_law 1313 = .ok (.iconst 1, 1) := by decide +kernel
theorem dL_law_1314 : decode cL_law 1314 = .ok (.iadd, 1) := by decide +kernel
theorem dL_law_1315 : decode cL_law 1315 = .ok (.iaload, 1) := by decide +kernel
theorem dL_law_1316 : decode cL_law 1316 = .ok (.aload_n 0, 1) := by decide +kernel
theorem dL_law_1317 : decode cL_law 1317 = .ok (.iload_n 3, 1) := by decide +kernel
theorem dL_law_1318 : decode cL_law 1318 = .ok (.iconst 2, 1) := by decide +kernel
theorem dL_law_1319 : decode cL_law 1319 = .ok (.iadd, 1) := by decide +kernel
theorem dL_law_1320 : decode cL_law 1320 = .ok (.iaload, 1) := by decide +kernel
theorem dL_law_1321 : decode cL_law 1321 = .ok (.invokevirtual 161, 3) := by decide +kernel
theorem dL_law_1324 : decode cL_law 1324 = .ok (.if_icmp .eq 267, 3) := by decide +kernel
theorem dL_law_1327 : decode cL_law 1327 = .ok (.iconst 0, 1) := by decide +kernel
theorem dL_law_1328 : decode cL_law 1328 = .ok (.ireturn, 1) := by decide +kernel
theorem dL_law_1329 : decode cL_law 1329 = .ok (.aload_n 1, 1) := by decide +kernel
theorem dL_law_1330 : decode cL_law 1330 = .ok (.aload_n 0, 1) := by decide +kernel
theorem dL_law_1331 : decode cL_law 1331 = .ok (.iload_n 3, 1) := by decide +kernel
theorem dL_law_1332 : decode cL_law 1332 = .ok (.iconst 1, 1) := by decide +kernel
theorem dL_law_1333 : decode cL_law 1333 = .ok (.iadd, 1) := by decide +kernel
theorem dL_law_1334 : decode cL_law 1334 = .ok (.iaload, 1) := by decide +kernel
theorem dL_law_1335 : decode cL_law 1335 = .ok (.aload_n 0, 1) := by decide +kernel
theorem dL_law_1336 : decode cL_law 1336 = .ok (.iload_n 3, 1) := by decide +kernel
theorem dL_law_1337 : decode cL_law 1337 = .ok (.iconst 2, 1) := by decide +kernel
theorem dL_law_1338 : decode cL_law 1338 = .ok (.iadd, 1) := by decide +kernel
theorem dL_law_1339 : decode cL_law 1339 = .ok (.iaload, 1) := by decide +kernel
theorem dL_law_1340 : decode cL_law 1340 = .ok (.invokevirtual 162, 3) := by decide +kernel
theorem dL_law_1343 : decode cL_law 1343 = .ok (.aload_n 2, 1) := by decide +kernel
theorem dL_law_1344 : decode cL_law 1344 = .ok (.aload_n 0, 1) := by decide +kernel
theorem dL_law_1345 : decode cL_law 1345 = .ok (.iload_n 3, 1) := by decide +kernel
theorem dL_law_1346 : decode cL_law 1346 = .ok (.iconst 1, 1) := by decide +kernel
theorem dL_law_1347 : decode cL_law 1347 = .ok (.iadd, 1) := by decide +kernel
theorem dL_law_1348 : decode cL_law 1348 = .ok (.iaload, 1) := by decide +kernel
theorem dL_law_1349 : decode cL_law 1349 = .ok (.aload_n 0, 1) := by decide +kernel
theorem dL_law_1350 : decode cL_law 1350 = .ok (.iload_n 3, 1) := by decide +kernel
theorem dL_law_1351 : decode cL_law 1351 = .ok (.iconst 2, 1) := by decide +kernel
theorem dL_law_1352 : decode cL_law 1352 = .ok (.iadd, 1) := by decide +kernel
theorem dL_law_1353 : decode cL_law 1353 = .ok (.iaload, 1) := by decide +kernel
theorem dL_law_1354 : decode cL_law 1354 = .ok (.invokevirtual 165, 3) := by decide +kernel
theorem dL_law_1357 : decode cL_law 1357 = .ok (.if_icmp .eq 234, 3) := by decide +kernel
theorem dL_law_1360 : decode cL_law 1360 = .ok (.iconst 0, 1) := by decide +kernel
theorem dL_law_1361 : decode cL_law 1361 = .ok (.ireturn, 1) := by decide +kernel
theorem dL_law_1362 : decode cL_law 1362 = .ok (.aload_n 1, 1) := by decide +kernel
theorem dL_law_1363 : decode cL_law 1363 = .ok (.aload_n 0, 1) := by decide +kernel
theorem dL_law_1364 : decode cL_law 1364 = .ok (.iload_n 3, 1) := by decide +kernel
theorem dL_law_1365 : decode cL_law 1365 = .ok (.iconst 1, 1) := by decide +kernel
theorem dL_law_1366 : decode cL_law 1366 = .ok (.iadd, 1) := by decide +kernel
theorem dL_law_1367 : decode cL_law 1367 = .ok (.iaload, 1) := by decide +kernel
theorem dL_law_1368 : decode cL_law 1368 = .ok (.invokevirtual 166, 3) := by decide +kernel
theorem dL_law_1371 : decode cL_law 1371 = .ok (.aload_n 2, 1) := by decide +kernel
theorem dL_law_1372 : decode cL_law 1372 = .ok (.aload_n 0, 1) := by decide +kernel
theorem dL_law_1373 : decode cL_law 1373 = .ok (.iload_n 3, 1) := by decide +kernel
theorem dL_law_1374 : decode cL_law 1374 = .ok (.iconst 1, 1) := by decide +kernel
theorem dL_law_1375 : decode cL_law 1375 = .ok (.iadd, 1) := by decide +kernel
theorem dL_law_1376 : decode cL_law 1376 = .ok (.iaload, 1) := by decide +kernel
theorem dL_law_1377 : decode cL_law 1377 = .ok (.invokevirtual 169, 3) := by decide +kernel
theorem dL_law_1380 : decode cL_law 1380 = .ok (.if_icmp .eq 211, 3) := by decide +kernel
theorem dL_law_1383 : decode cL_law 1383 = .ok (.iconst 0, 1) := by decide +kernel
theorem dL_law_1384 : decode cL_law 1384 = .ok (.ireturn, 1) := by decide +kernel
theorem dL_law_1385 : decode cL_law 1385 = .ok (.aload_n 1, 1) := by decide +kernel
theorem dL_law_1386 : decode cL_law 1386 = .ok (.aload_n 0, 1) := by decide +kernel
theorem dL_law_1387 : decode cL_law 1387 = .ok (.iload_n 3, 1) := by decide +kernel
theorem dL_law_1388 : decode cL_law 1388 = .ok (.iconst 1, 1) := by decide +kernel
theorem dL_law_1389 : decode cL_law 1389 = .ok (.iadd, 1) := by decide +kernel
theorem dL_law_1390 : decode cL_law 1390 = .ok (.iaload, 1) := by decide +kernel
theorem dL_law_1391 : decode cL_law 1391 = .ok (.ifCond .eq 7, 3) := by decide +kernel
theorem dL_law_1394 : decode cL_law 1394 = .ok (.iconst 1, 1) := by decide +kernel
theorem dL_law_1395 : decode cL_law 1395 = .ok (.goto 4, 3) := by decide +kernel
theorem dL_law_1398 : decode cL_law 1398 = .ok (.iconst 0, 1) := by decide +kernel
theorem dL_law_1399 : decode cL_law 1399 = .ok (.invokevirtual 170, 3) := by decide +kernel
theorem dL_law_1402 : decode cL_law 1402 = .ok (.aload_n 2, 1) := by decide +kernel
theorem dL_law_1403 : decode cL_law 1403 = .ok (.aload_n 0, 1) := by decide +kernel
theorem dL_law_1404 : decode cL_law 1404 = .ok (.iload_n 3, 1) := by decide +kernel
theorem dL_law_1405 : decode cL_law 1405 = .ok (.iconst 1, 1) := by decide +kernel
theorem dL_law_1406 : decode cL_law 1406 = .ok (.iadd, 1) := by decide +kernel
theorem dL_law_1407 : decode cL_law 1407 = .ok (.iaload, 1) := by decide +kernel
theorem dL_law_1408 : decode cL_law 1408 = .ok (.ifCond .eq 7, 3) := by decide +kernel
theorem dL_law_1411 : decode cL_law 1411 = .ok (.iconst 1, 1) := by decide +kernel
theorem dL_law_1412 : decode cL_law 1412 = .ok (.goto 4, 3) := by decide +kernel
theorem dL_law_1415 : decode cL_law 1415 = .ok (.iconst 0, 1) := by decide +kernel
theorem dL_law_1416 : decode cL_law 1416 = .ok (.invokevirtual 173, 3) := by decide +kernel
theorem dL_law_1419 : decode cL_law 1419 = .ok (.if_icmp .eq 172, 3) := by decide +kernel
theorem dL_law_1422 : decode cL_law 1422 = .ok (.iconst 0, 1) := by decide +kernel
theorem dL_law_1423 : decode cL_law 1423 = .ok (.ireturn, 1) := by decide +kernel
theorem dL_law_1424 : decode cL_law 1424 = .ok (.aload_n 1, 1) := by decide +kernel
theorem dL_law_1425 : decode cL_law 1425 = .ok (.aload_n 0, 1) := by decide +kernel
theorem dL_law_1426 : decode cL_law 1426 = .ok (.iload_n 3, 1) := by decide +kernel
theorem dL_law_1427 : decode cL_law 1427 = .ok (.iconst 1, 1) := by decide +kernel
theorem dL_law_1428 : decode cL_law 1428 = .ok (.iadd, 1) := by decide +kernel
theorem dL_law_1429 : decode cL_law 1429 = .ok (.iaload, 1) := by decide +kernel
theorem dL_law_1430 : decode cL_law 1430 = .ok (.invokevirtual 174, 3) := by decide +kernel
theorem dL_law_1433 : decode cL_law 1433 = .ok (.aload_n 2, 1) := by decide +kernel
theorem dL_law_1434 : decode cL_law 1434 = .ok (.aload_n 0, 1) := by decide +kernel
theorem dL_law_1435 : decode cL_law 1435 = .ok (.iload_n 3, 1) := by decide +kernel
theorem dL_law_1436 : decode cL_law 1436 = .ok (.iconst 1, 1) := by decide +kernel
theorem dL_law_1437 : decode cL_law 1437 = .ok (.iadd, 1) := by decide +kernel
theorem dL_law_1438 : decode cL_law 1438 = .ok (.iaload, 1) := by decide +kernel
theorem dL_law_1439 : decode cL_law 1439 = .ok (.invokevirtual 177, 3) := by decide +kernel
theorem dL_law_1442 : decode cL_law 1442 = .ok (.if_icmp .eq 149, 3) := by decide +kernel
theorem dL_law_1445 : decode cL_law 1445 = .ok (.iconst 0, 1) := by decide +kernel
theorem dL_law_1446 : decode cL_law 1446 = .ok (.ireturn, 1) := by decide +kernel
theorem dL_law_1447 : decode cL_law 1447 = .ok (.aload_n 1, 1) := by decide +kernel
theorem dL_law_1448 : decode cL_law 1448 = .ok (.aload_n 0, 1) := by decide +kernel
theorem dL_law_1449 : decode cL_law 1449 = .ok (.iload_n 3, 1) := by decide +kernel
theorem dL_law_1450 : decode cL_law 1450 = .ok (.iconst 1, 1) := by decide +kernel
theorem dL_law_1451 : decode cL_law 1451 = .ok (.iadd, 1) := by decide +kernel
theorem dL_law_1452 : decode cL_law 1452 = .ok (.iaload, 1) := by decide +kernel
theorem dL_law_1453 : decode cL_law 1453 = .ok (.aload_n 0, 1) := by decide +kernel
theorem dL_law_1454 : decode cL_law 1454 = .ok (.iload_n 3, 1) := by decide +kernel
theorem dL_law_1455 : decode cL_law 1455 = .ok (.iconst 2, 1) := by decide +kernel
theorem dL_law_1456 : decode cL_law 1456 = .ok (.iadd, 1) := by decide +kernel
theorem dL_law_1457 : decode cL_law 1457 = .ok (.iaload, 1) := by decide +kernel
theorem dL_law_1458 : decode cL_law 1458 = .ok (.ifCond .eq 7, 3) := by decide +kernel
theorem dL_law_1461 : decode cL_law 1461 = .ok (.iconst 1, 1) := by decide +kernel
theorem dL_law_1462 : decode cL_law 1462 = .ok (.goto 4, 3) := by decide +kernel
theorem dL_law_1465 : decode cL_law 1465 = .ok (.iconst 0, 1) := by decide +kernel
theorem dL_law_1466 : decode cL_law 1466 = .ok (.invokevirtual 178, 3) := by decide +kernel
theorem dL_law_1469 : decode cL_law 1469 = .ok (.aload_n 2, 1) := by decide +kernel
theorem dL_law_1470 : decode cL_law 1470 = .ok (.aload_n 0, 1) := by decide +kernel
theorem dL_law_1471 : decode cL_law 1471 = .ok (.iload_n 3, 1) := by decide +kernel
theorem dL_law_1472 : decode cL_law 1472 = .ok (.iconst 1, 1) := by decide +kernel
theorem dL_law_1473 : decode cL_law 1473 = .ok (.iadd, 1) := by decide +kernel
theorem dL_law_1474 : decode cL_law 1474 = .ok (.iaload, 1) := by decide +kernel
theorem dL_law_1475 : decode cL_law 1475 = .ok (.aload_n 0, 1) := by decide +kernel
theorem dL_law_1476 : decode cL_law 1476 = .ok (.iload_n 3, 1) := by decide +kernel
theorem dL_law_1477 : decode cL_law 1477 = .ok (.iconst 2, 1) := by decide +kernel
theorem dL_law_1478 : decode cL_law 1478 = .ok (.iadd, 1) := by decide +kernel
theorem dL_law_1479 : decode cL_law 1479 = .ok (.iaload, 1) := by decide +kernel
theorem dL_law_1480 : decode cL_law 1480 = .ok (.ifCond .eq 7, 3) := by decide +kernel
theorem dL_law_1483 : decode cL_law 1483 = .ok (.iconst 1, 1) := by decide +kernel
theorem dL_law_1484 : decode cL_law 1484 = .ok (.goto 4, 3) := by decide +kernel
theorem dL_law_1487 : decode cL_law 1487 = .ok (.iconst 0, 1) := by decide +kernel
theorem dL_law_1488 : decode cL_law 1488 = .ok (.invokevirtual 182, 3) := by decide +kernel
theorem dL_law_1491 : decode cL_law 1491 = .ok (.if_icmp .eq 100, 3) := by decide +kernel
theorem dL_law_1494 : decode cL_law 1494 = .ok (.iconst 0, 1) := by decide +kernel
theorem dL_law_1495 : decode cL_law 1495 = .ok (.ireturn, 1) := by decide +kernel
theorem dL_law_1496 : decode cL_law 1496 = .ok (.aload_n 1, 1) := by decide +kernel
theorem dL_law_1497 : decode cL_law 1497 = .ok (.invokevirtual 183, 3) := by decide +kernel
theorem dL_law_1500 : decode cL_law 1500 = .ok (.aload_n 2, 1) := by decide +kernel
theorem dL_law_1501 : decode cL_law 1501 = .ok (.invokevirtual 186, 3) := by decide +kernel
theorem dL_law_1504 : decode cL_law 1504 = .ok (.if_icmp .eq 87, 3) := by decide +kernel
theorem dL_law_1507 : decode cL_law 1507 = .ok (.iconst 0, 1) := by decide +kernel
theorem dL_law_1508 : decode cL_law 1508 = .ok (.ireturn, 1) := by decide +kernel
theorem dL_law_1509 : decode cL_law 1509 = .ok (.aload_n 1, 1) := by decide +kernel
theorem dL_law_1510 : decode cL_law 1510 = .ok (.aload_n 0, 1) := by decide +kernel
theorem dL_law_1511 : decode cL_law 1511 = .ok (.iload_n 3, 1) := by decide +kernel
theorem dL_law_1512 : decode cL_law 1512 = .ok (.iconst 1, 1) := by decide +kernel
theorem dL_law_1513 : decode cL_law 1513 = .ok (.iadd, 1) := by decide +kernel
theorem dL_law_1514 : decode cL_law 1514 = .ok (.iaload, 1) := by decide +kernel
theorem dL_law_1515 : decode cL_law 1515 = .ok (.aload_n 0, 1) := by decide +kernel
theorem dL_law_1516 : decode cL_law 1516 = .ok (.iload_n 3, 1) := by decide +kernel
theorem dL_law_1517 : decode cL_law 1517 = .ok (.iconst 2, 1) := by decide +kernel
theorem dL_law_1518 : decode cL_law 1518 = .ok (.iadd, 1) := by decide +kernel
theorem dL_law_1519 : decode cL_law 1519 = .ok (.iaload, 1) := by decide +kernel
theorem dL_law_1520 : decode cL_law 1520 = .ok (.invokevirtual 187, 3) := by decide +kernel
theorem dL_law_1523 : decode cL_law 1523 = .ok (.aload_n 2, 1) := by decide +kernel
theorem dL_law_1524 : decode cL_law 1524 = .ok (.aload_n 0, 1) := by decide +kernel
theorem dL_law_1525 : decode cL_law 1525 = .ok (.iload_n 3, 1) := by decide +kernel
theorem dL_law_1526 : decode cL_law 1526 = .ok (.iconst 1, 1) := by decide +kernel
theorem dL_law_1527 : decode cL_law 1527 = .ok (.iadd, 1) := by decide +kernel
theorem dL_law_1528 : decode cL_law 1528 = .ok (.iaload, 1) := by decide +kernel
theorem dL_law_1529 : decode cL_law 1529 = .ok (.aload_n 0, 1) := by decide +kernel
theorem dL_law_1530 : decode cL_law 1530 = .ok (.iload_n 3, 1) := by decide +kernel
theorem dL_law_1531 : decode cL_law 1531 = .ok (.iconst 2, 1) := by decide +kernel
theorem dL_law_1532 : decode cL_law 1532 = .ok (.iadd, 1) := by decide +kernel
theorem dL_law_1533 : decode cL_law 1533 = .ok (.iaload, 1) := by decide +kernel
theorem dL_law_1534 : decode cL_law 1534 = .ok (.invokevirtual 190, 3) := by decide +kernel
theorem dL_law_1537 : decode cL_law 1537 = .ok (.if_icmp .eq 54, 3) := by decide +kernel
theorem dL_law_1540 : decode cL_law 1540 = .ok (.iconst 0, 1) := by decide +kernel
theorem dL_law_1541 : decode cL_law 1541 = .ok (.ireturn, 1) := by decide +kernel
theorem dL_law_1542 : decode cL_law 1542 = .ok (.aload_n 1, 1) := by decide +kernel
theorem dL_law_1543 : decode cL_law 1543 = .ok (.invokevirtual 191, 3) := by decide +kernel
theorem dL_law_1546 : decode cL_law 1546 = .ok (.aload_n 2, 1) := by decide +kernel
theorem dL_law_1547 : decode cL_law 1547 = .ok (.invokevirtual 194, 3) := by decide +kernel
theorem dL_law_1550 : decode cL_law 1550 = .ok (.if_icmp .eq 41, 3) := by decide +kernel
theorem dL_law_1553 : decode cL_law 1553 = .ok (.iconst 0, 1) := by decide +kernel
theorem dL_law_1554 : decode cL_law 1554 = .ok (.ireturn, 1) := by decide +kernel
theorem dL_law_1555 : decode cL_law 1555 = .ok (.aload_n 1, 1) := by decide +kernel
theorem dL_law_1556 : decode cL_law 1556 = .ok (.invokevirtual 195, 3) := by decide +kernel
theorem dL_law_1559 : decode cL_law 1559 = .ok (.aload_n 2, 1) := by decide +kernel
theorem dL_law_1560 : decode cL_law 1560 = .ok (.invokevirtual 198, 3) := by decide +kernel
theorem dL_law_1563 : decode cL_law 1563 = .ok (.if_icmp .eq 28, 3) := by decide +kernel
theorem dL_law_1566 : decode cL_law 1566 = .ok (.iconst 0, 1) := by decide +kernel
theorem dL_law_1567 : decode cL_law 1567 = .ok (.ireturn, 1) := by decide +kernel
theorem dL_law_1568 : decode cL_law 1568 = .ok (.aload_n 1, 1) := by decide +kernel
theorem dL_law_1569 : decode cL_law 1569 = .ok (.aload_n 0, 1) := by decide +kernel
theorem dL_law_1570 : decode cL_law 1570 = .ok (.iload_n 3, 1) := by decide +kernel
theorem dL_law_1571 : decode cL_law 1571 = .ok (.iconst 1, 1) := by decide +kernel
theorem dL_law_1572 : decode cL_law 1572 = .ok (.iadd, 1) := by decide +kernel
theorem dL_law_1573 : decode cL_law 1573 = .ok (.iaload, 1) := by decide +kernel
theorem dL_law_1574 : decode cL_law 1574 = .ok (.invokevirtual 199, 3) := by decide +kernel
theorem dL_law_1577 : decode cL_law 1577 = .ok (.aload_n 2, 1) := by decide +kernel
theorem dL_law_1578 : decode cL_law 1578 = .ok (.aload_n 0, 1) := by decide +kernel
theorem dL_law_1579 : decode cL_law 1579 = .ok (.iload_n 3, 1) := by decide +kernel
theorem dL_law_1580 : decode cL_law 1580 = .ok (.iconst 1, 1) := by decide +kernel
theorem dL_law_1581 : decode cL_law 1581 = .ok (.iadd, 1) := by decide +kernel
theorem dL_law_1582 : decode cL_law 1582 = .ok (.iaload, 1) := by decide +kernel
theorem dL_law_1583 : decode cL_law 1583 = .ok (.invokevirtual 202, 3) := by decide +kernel
theorem dL_law_1586 : decode cL_law 1586 = .ok (.if_icmp .eq 5, 3) := by decide +kernel
theorem dL_law_1589 : decode cL_law 1589 = .ok (.iconst 0, 1) := by decide +kernel
theorem dL_law_1590 : decode cL_law 1590 = .ok (.ireturn, 1) := by decide +kernel
theorem dL_law_1591 : decode cL_law 1591 = .ok (.iinc 3 6, 3) := by decide +kernel
theorem dL_law_1594 : decode cL_law 1594 = .ok (.goto (-1576), 3) := by decide +kernel
theorem dL_law_1597 : decode cL_law 1597 = .ok (.iconst 1, 1) := by decide +kernel
theorem dL_law_1598 : decode cL_law 1598 = .ok (.ireturn, 1) := by decide +kernel
abbrev μL : mM := (yL_law, cL_law, 4, some .boolean)
abbrev sq (x : mX) (j : Nat) : Int32 := x.2.2.2.2.2.2.2 j
def zb (a : Int32) : Int32 := bI (decide (¬ a = 0))
def Step (μ1 μ2 : mM) (Inv : mS → Prop) (S : mS) (as : List Value) : Prop := ∃ (S1 S2 : mS) (r : Int32), mCt μ1 200 0 0 E0 S (.ref 0 :: as) (mQe S1 (some (.int r))) ∧ mCt μ2 200 0 0 E0 S1 (.ref 375 :: as) (mQe S2 (some (.int r))) ∧ Inv S2
section LAW
variable {x : mX} {Q : mQt} {nc ns : Nat} {S : mS} {pc i : Nat} {lv : List (Nat × Value)} {st : List Value}
theorem mG.top {μ : mM} {d mc ms : Nat} {E : mE} {v v2 : Int32} (h : v = v2) (k : mG x μ d mc ms Q nc ns E S pc lv (.int v2 :: st)) : mG x μ d mc ms Q nc ns E S pc lv (.int v :: st) := by
  subst h
  exact k
abbrev lvL (i : Nat) : List (Nat × Value) := [(3, .int (nI i)), (2, .ref 375), (1, .ref 0), (0, .float 5)]
theorem law_arg (k : Nat) (K : Int) (h1 : decode code pc = .ok (.aload_n 0, 1)) (h2 : decode code (pc + 1) = .ok (.iload_n 3, 1)) (h3 : decode code (pc + 2) = .ok (.iconst K, 1)) (h4 : decode code (pc + 3) = .ok (.iadd, 1)) (h5 : decode code (pc + 4) = .ok (.iaload, 1)) (hK : Int32.ofInt K = nI k) (hi : i + k < x.2.2.2.2.2.2.1) (hL : x.2.2.2.2.2.2.1 ≤ 3072) (kk : mG x μL 2000 600000 7302250 Q nc ns E0 S (pc + 5) (lvL i) (.int (sq x (i + k)) :: st)) : mG x μL 2000 600000 7302250 Q nc ns E0 S pc (lvL i) st := by
  refine mG.sload_n 3 h1 rfl ?_
  refine mG.iload_n 0 h2 rfl ?_
  refine mG.iconst (v := nI k) h3 hK ?_
  refine mG.iadd h4 ?_
  refine mG.top (nI_add i k) ?_
  refine mG.scrLd h5 (vp_in_nI hi (by omega)) ?_
  refine mG.top (v2 := sq x (i + k)) (by rw [nI_clamp (by omega)]) ?_
  exact kk
theorem law_argb (k : Nat) (K : Int) (h1 : decode code pc = .ok (.aload_n 0, 1)) (h2 : decode code (pc + 1) = .ok (.iload_n 3, 1)) (h3 : decode code (pc + 2) = .ok (.iconst K, 1)) (h4 : decode code (pc + 3) = .ok (.iadd, 1)) (h5 : decode code (pc + 4) = .ok (.iaload, 1)) (h6 : decode code (pc + 5) = .ok (.ifCond .eq 7, 3)) (h7 : decode code (pc + 8) = .ok (.iconst 1, 1)) (h8 : decode code (pc + 9) = .ok (.goto 4, 3)) (h9 : decode code (pc + 12) = .ok (.iconst 0, 1)) (hK : Int32.ofInt K = nI k) (hi : i + k < x.2.2.2.2.2.2.1) (hL : x.2.2.2.2.2.2.1 ≤ 3072) (kk : mG x μL 2000 600000 7302250 Q nc ns E0 S (pc + 13) (lvL i) (.int (zb (sq x (i + k))) :: st)) : mG x μL 2000 600000 7302250 Q nc ns E0 S pc (lvL i) st := by
  refine law_arg k K h1 h2 h3 h4 h5 hK hi hL ?_
  refine mG.if_eq (pc + 12) h6 (by push_cast; omega) (fun c => ?_) (fun c => ?_)
  · refine mG.iconst (v := 0) h9 rfl ?_
    refine mG.top (v2 := zb (sq x (i + k))) (by rw [c]; rfl) ?_
    exact kk
  · refine mG.iconst (v := 1) h7 rfl ?_
    refine mG.goto (pc + 13) h8 (by push_cast; omega) ?_
    refine mG.top (v2 := zb (sq x (i + k))) (by unfold zb; rw [decide_eq_true c]; rfl) ?_
    exact kk
theorem mG.callL {μ μ2 : mM} {d mc ms : Nat} {S2 : mS} {idx d2 ci t n : Nat} {as stk : List Value} {r : Int32} (hd : decode μ.2.1 pc = .ok (.invokevirtual idx, 3)) (hV : mVs μ2 ci n) (hl2 : Cond.methodLink μ.1.cls idx μ2.1 ∈ wsL_law) (hn : as.length = n) (ht : kd0 t = ci) (hstk : stk = as.reverse ++ .ref t :: st) (hd2 : d2 + 1 ≤ d) (hnc : nc ≤ mc) (hns : ns ≤ ms) (hrest : (st.map fun v => v.category).sum ≤ 8) (hc : mCt μ2 d2 0 0 E0 S (.ref t :: as) (mQe S2 (some (.int r)))) (kk : mG x μ d mc ms Q nc ns E0 S2 (pc + 3) lv (.int r :: st)) : mG x μ d mc ms Q nc ns E0 S pc lv stk :=
  mG.callV hd hV hl2 hn ht hstk hd2 hnc hns hrest hc (fun E2 S3 r3 h => by rw [h.1]) (fun E2 S3 r3 h => by
    obtain ⟨rfl, rfl, rfl⟩ := h
    exact kk)
end LAW
set_option maxHeartbeats 4000000 in
set_option maxRecDepth 100000 in
theorem law_house {x : mX} {Q : mQt} {nc ns i : Nat} {S : mS} {Inv : mS → Prop} (h1 : nc ≤ 600000) (h2 : ns ≤ 7302250) (hi : i + 6 ≤ x.2.2.2.2.2.2.1) (hL : x.2.2.2.2.2.2.1 ≤ 3072) (hs : Step μX8_house μX9_house Inv S [.int (sq x (i + 1)), .int (sq x (i + 2)), .int (sq x (i + 3)), .int (sq x (i + 4)), .int (sq x (i + 5))]) (hk : ∀ S2, Inv S2 → mG x μL 2000 600000 7302250 Q nc ns E0 S2 1591 (lvL i) []) : mG x μL 2000 600000 7302250 Q nc ns E0 S 228 (lvL i) [] := by
  obtain ⟨S1, S2, r, hc1, hc2, hI⟩ := hs
  refine mG.aload_n 2 dL_law_228 rfl ?_
  refine law_arg 1 1 dL_law_229 dL_law_230 dL_law_231 dL_law_232 dL_law_233 rfl (by omega) hL ?_
  refine law_arg 2 2 dL_law_234 dL_law_235 dL_law_236 dL_law_237 dL_law_238 rfl (by omega) hL ?_
  refine law_arg 3 3 dL_law_239 dL_law_240 dL_law_241 dL_law_242 dL_law_243 rfl (by omega) hL ?_
  refine law_arg 4 4 dL_law_244 dL_law_245 dL_law_246 dL_law_247 dL_law_248 rfl (by omega) hL ?_
  refine law_arg 5 5 dL_law_249 dL_law_250 dL_law_251 dL_law_252 dL_law_253 rfl (by omega) hL ?_
  refine mG.callL (S2 := S1) (as := [.int (sq x (i + 1)), .int (sq x (i + 2)), .int (sq x (i + 3)), .int (sq x (i + 4)), .int (sq x (i + 5))]) (st := []) dL_law_254 mvX8_house wk6_7 rfl (by decide +kernel) rfl (by decide) h1 h2 (Nat.le_of_ble_eq_true rfl) hc1 ?_
  refine mG.aload_n 1 dL_law_257 rfl ?_
  refine law_arg 1 1 dL_law_258 dL_law_259 dL_law_260 dL_law_261 dL_law_262 rfl (by omega) hL ?_
  refine law_arg 2 2 dL_law_263 dL_law_264 dL_law_265 dL_law_266 dL_law_267 rfl (by omega) hL ?_
  refine law_arg 3 3 dL_law_268 dL_law_269 dL_law_270 dL_law_271 dL_law_272 rfl (by omega) hL ?_
  refine law_arg 4 4 dL_law_273 dL_law_274 dL_law_275 dL_law_276 dL_law_277 rfl (by omega) hL ?_
  refine law_arg 5 5 dL_law_278 dL_law_279 dL_law_280 dL_law_281 dL_law_282 rfl (by omega) hL ?_
  refine mG.callL (S2 := S2) (as := [.int (sq x (i + 1)), .int (sq x (i + 2)), .int (sq x (i + 3)), .int (sq x (i + 4)), .int (sq x (i + 5))]) (st := [.int r]) dL_law_283 mvX9_house wk7_8 rfl (by decide +kernel) rfl (by decide) h1 h2 (Nat.le_of_ble_eq_true rfl) hc2 ?_
  exact mG.icmp_eq 1591 dL_law_286 (by decide) (fun c => hk S2 hI) (fun c => absurd rfl c)
set_option maxHeartbeats 4000000 in
set_option maxRecDepth 100000 in
theorem law_feed {x : mX} {Q : mQt} {nc ns i : Nat} {S : mS} {Inv : mS → Prop} (h1 : nc ≤ 600000) (h2 : ns ≤ 7302250) (hi : i + 6 ≤ x.2.2.2.2.2.2.1) (hL : x.2.2.2.2.2.2.1 ≤ 3072) (hs : Step μX8_feed μX9_feed Inv S [.int (sq x (i + 1)), .int (sq x (i + 2)), .int (sq x (i + 3)), .int (sq x (i + 4)), .int (sq x (i + 5))]) (hk : ∀ S2, Inv S2 → mG x μL 2000 600000 7302250 Q nc ns E0 S2 1591 (lvL i) []) : mG x μL 2000 600000 7302250 Q nc ns E0 S 291 (lvL i) [] := by
  obtain ⟨S1, S2, r, hc1, hc2, hI⟩ := hs
  refine mG.aload_n 2 dL_law_291 rfl ?_
  refine law_arg 1 1 dL_law_292 dL_law_293 dL_law_294 dL_law_295 dL_law_296 rfl (by omega) hL ?_
  refine law_arg 2 2 dL_law_297 dL_law_298 dL_law_299 dL_law_300 dL_law_301 rfl (by omega) hL ?_
  refine law_arg 3 3 dL_law_302 dL_law_303 dL_law_304 dL_law_305 dL_law_306 rfl (by omega) hL ?_
  refine law_arg 4 4 dL_law_307 dL_law_308 dL_law_309 dL_law_310 dL_law_311 rfl (by omega) hL ?_
  refine law_arg 5 5 dL_law_312 dL_law_313 dL_law_314 dL_law_315 dL_law_316 rfl (by omega) hL ?_
  refine mG.callL (S2 := S1) (as := [.int (sq x (i + 1)), .int (sq x (i + 2)), .int (sq x (i + 3)), .int (sq x (i + 4)), .int (sq x (i + 5))]) (st := []) dL_law_317 mvX8_feed wk8_3 rfl (by decide +kernel) rfl (by decide) h1 h2 (Nat.le_of_ble_eq_true rfl) hc1 ?_
  refine mG.aload_n 1 dL_law_320 rfl ?_
  refine law_arg 1 1 dL_law_321 dL_law_322 dL_law_323 dL_law_324 dL_law_325 rfl (by omega) hL ?_
  refine law_arg 2 2 dL_law_326 dL_law_327 dL_law_328 dL_law_329 dL_law_330 rfl (by omega) hL ?_
  refine law_arg 3 3 dL_law_331 dL_law_332 dL_law_333 dL_law_334 dL_law_335 rfl (by omega) hL ?_
  refine law_arg 4 4 dL_law_336 dL_law_337 dL_law_338 dL_law_339 dL_law_340 rfl (by omega) hL ?_
  refine law_arg 5 5 dL_law_341 dL_law_342 dL_law_343 dL_law_344 dL_law_345 rfl (by omega) hL ?_
  refine mG.callL (S2 := S2) (as := [.int (sq x (i + 1)), .int (sq x (i + 2)), .int (sq x (i + 3)), .int (sq x (i + 4)), .int (sq x (i + 5))]) (st := [.int r]) dL_law_346 mvX9_feed wk8_12 rfl (by decide +kernel) rfl (by decide) h1 h2 (Nat.le_of_ble_eq_true rfl) hc2 ?_
  exact mG.icmp_eq 1591 dL_law_349 (by decide) (fun c => hk S2 hI) (fun c => absurd rfl c)
set_option maxHeartbeats 4000000 in
set_option maxRecDepth 100000 in
theorem law_end {x : mX} {Q : mQt} {nc ns i : Nat} {S : mS} {Inv : mS → Prop} (h1 : nc ≤ 600000) (h2 : ns ≤ 7302250) (hi : i + 6 ≤ x.2.2.2.2.2.2.1) (hL : x.2.2.2.2.2.2.1 ≤ 3072) (hs : Step μX8_end μX9_end Inv S [.int (sq x (i + 1))]) (hk : ∀ S2, Inv S2 → mG x μL 2000 600000 7302250 Q nc ns E0 S2 1591 (lvL i) []) : mG x μL 2000 600000 7302250 Q nc ns E0 S 354 (lvL i) [] := by
  obtain ⟨S1, S2, r, hc1, hc2, hI⟩ := hs
  refine mG.aload_n 2 dL_law_354 rfl ?_
  refine law_arg 1 1 dL_law_355 dL_law_356 dL_law_357 dL_law_358 dL_law_359 rfl (by omega) hL ?_
  refine mG.callL (S2 := S1) (as := [.int (sq x (i + 1))]) (st := []) dL_law_360 mvX8_end wk8_21 rfl (by decide +kernel) rfl (by decide) h1 h2 (Nat.le_of_ble_eq_true rfl) hc1 ?_
  refine mG.aload_n 1 dL_law_363 rfl ?_
  refine law_arg 1 1 dL_law_364 dL_law_365 dL_law_366 dL_law_367 dL_law_368 rfl (by omega) hL ?_
  refine mG.callL (S2 := S2) (as := [.int (sq x (i + 1))]) (st := [.int r]) dL_law_369 mvX9_end wk9_1 rfl (by decide +kernel) rfl (by decide) h1 h2 (Nat.le_of_ble_eq_true rfl) hc2 ?_
  exact mG.icmp_eq 1591 dL_law_372 (by decide) (fun c => hk S2 hI) (fun c => absurd rfl c)
set_option maxHeartbeats 4000000 in
set_option maxRecDepth 100000 in
theorem law_text {x : mX} {Q : mQt} {nc ns i : Nat} {S : mS} {Inv : mS → Prop} (h1 : nc ≤ 600000) (h2 : ns ≤ 7302250) (hi : i + 6 ≤ x.2.2.2.2.2.2.1) (hL : x.2.2.2.2.2.2.1 ≤ 3072) (hs : Step μX8_text μX9_text Inv S []) (hk : ∀ S2, Inv S2 → mG x μL 2000 600000 7302250 Q nc ns E0 S2 1591 (lvL i) []) : mG x μL 2000 600000 7302250 Q nc ns E0 S 377 (lvL i) [] := by
  obtain ⟨S1, S2, r, hc1, hc2, hI⟩ := hs
  refine mG.aload_n 2 dL_law_377 rfl ?_
  refine mG.callL (S2 := S1) (as := []) (st := []) dL_law_378 mvX8_text wk9_5 rfl (by decide +kernel) rfl (by decide) h1 h2 (Nat.le_of_ble_eq_true rfl) hc1 ?_
  refine mG.aload_n 1 dL_law_381 rfl ?_
  refine mG.callL (S2 := S2) (as := []) (st := [.int r]) dL_law_382 mvX9_text wk19_20 rfl (by decide +kernel) rfl (by decide) h1 h2 (Nat.le_of_ble_eq_true rfl) hc2 ?_
  exact mG.icmp_eq 1591 dL_law_385 (by decide) (fun c => hk S2 hI) (fun c => absurd rfl c)
set_option maxHeartbeats 4000000 in
set_option maxRecDepth 100000 in
theorem law_fault {x : mX} {Q : mQt} {nc ns i : Nat} {S : mS} {Inv : mS → Prop} (h1 : nc ≤ 600000) (h2 : ns ≤ 7302250) (hi : i + 6 ≤ x.2.2.2.2.2.2.1) (hL : x.2.2.2.2.2.2.1 ≤ 3072) (hs : Step μX8_fault μX9_fault Inv S [.int (sq x (i + 1))]) (hk : ∀ S2, Inv S2 → mG x μL 2000 600000 7302250 Q nc ns E0 S2 1591 (lvL i) []) : mG x μL 2000 600000 7302250 Q nc ns E0 S 390 (lvL i) [] := by
  obtain ⟨S1, S2, r, hc1, hc2, hI⟩ := hs
  refine mG.aload_n 2 dL_law_390 rfl ?_
  refine law_arg 1 1 dL_law_391 dL_law_392 dL_law_393 dL_law_394 dL_law_395 rfl (by omega) hL ?_
  refine mG.callL (S2 := S1) (as := [.int (sq x (i + 1))]) (st := []) dL_law_396 mvX8_fault wk26_5 rfl (by decide +kernel) rfl (by decide) h1 h2 (Nat.le_of_ble_eq_true rfl) hc1 ?_
  refine mG.aload_n 1 dL_law_399 rfl ?_
  refine law_arg 1 1 dL_law_400 dL_law_401 dL_law_402 dL_law_403 dL_law_404 rfl (by omega) hL ?_
  refine mG.callL (S2 := S2) (as := [.int (sq x (i + 1))]) (st := [.int r]) dL_law_405 mvX9_fault wk26_10 rfl (by decide +kernel) rfl (by decide) h1 h2 (Nat.le_of_ble_eq_true rfl) hc2 ?_
  exact mG.icmp_eq 1591 dL_law_408 (by decide) (fun c => hk S2 hI) (fun c => absurd rfl c)
set_option maxHeartbeats 4000000 in
set_option maxRecDepth 100000 in
theorem law_by {x : mX} {Q : mQt} {nc ns i : Nat} {S : mS} {Inv : mS → Prop} (h1 : nc ≤ 600000) (h2 : ns ≤ 7302250) (hi : i + 6 ≤ x.2.2.2.2.2.2.1) (hL : x.2.2.2.2.2.2.1 ≤ 3072) (hs : Step μX8_by μX9_by Inv S [.int (sq x (i + 1))]) (hk : ∀ S2, Inv S2 → mG x μL 2000 600000 7302250 Q nc ns E0 S2 1591 (lvL i) []) : mG x μL 2000 600000 7302250 Q nc ns E0 S 413 (lvL i) [] := by
  obtain ⟨S1, S2, r, hc1, hc2, hI⟩ := hs
  refine mG.aload_n 2 dL_law_413 rfl ?_
  refine law_arg 1 1 dL_law_414 dL_law_415 dL_law_416 dL_law_417 dL_law_418 rfl (by omega) hL ?_
  refine mG.callL (S2 := S1) (as := [.int (sq x (i + 1))]) (st := []) dL_law_419 mvX8_by wk26_14 rfl (by decide +kernel) rfl (by decide) h1 h2 (Nat.le_of_ble_eq_true rfl) hc1 ?_
  refine mG.aload_n 1 dL_law_422 rfl ?_
  refine law_arg 1 1 dL_law_423 dL_law_424 dL_law_425 dL_law_426 dL_law_427 rfl (by omega) hL ?_
  refine mG.callL (S2 := S2) (as := [.int (sq x (i + 1))]) (st := [.int r]) dL_law_428 mvX9_by wk26_23 rfl (by decide +kernel) rfl (by decide) h1 h2 (Nat.le_of_ble_eq_true rfl) hc2 ?_
  exact mG.icmp_eq 1591 dL_law_431 (by decide) (fun c => hk S2 hI) (fun c => absurd rfl c)
set_option maxHeartbeats 4000000 in
set_option maxRecDepth 100000 in
theorem law_knock {x : mX} {Q : mQt} {nc ns i : Nat} {S : mS} {Inv : mS → Prop} (h1 : nc ≤ 600000) (h2 : ns ≤ 7302250) (hi : i + 6 ≤ x.2.2.2.2.2.2.1) (hL : x.2.2.2.2.2.2.1 ≤ 3072) (hs : Step μX8_knock μX9_knock Inv S [.int (sq x (i + 1))]) (hk : ∀ S2, Inv S2 → mG x μL 2000 600000 7302250 Q nc ns E0 S2 1591 (lvL i) []) : mG x μL 2000 600000 7302250 Q nc ns E0 S 436 (lvL i) [] := by
  obtain ⟨S1, S2, r, hc1, hc2, hI⟩ := hs
  refine mG.aload_n 2 dL_law_436 rfl ?_
  refine law_arg 1 1 dL_law_437 dL_law_438 dL_law_439 dL_law_440 dL_law_441 rfl (by omega) hL ?_
  refine mG.callL (S2 := S1) (as := [.int (sq x (i + 1))]) (st := []) dL_law_442 mvX8_knock wk27_3 rfl (by decide +kernel) rfl (by decide) h1 h2 (Nat.le_of_ble_eq_true rfl) hc1 ?_
  refine mG.aload_n 1 dL_law_445 rfl ?_
  refine law_arg 1 1 dL_law_446 dL_law_447 dL_law_448 dL_law_449 dL_law_450 rfl (by omega) hL ?_
  refine mG.callL (S2 := S2) (as := [.int (sq x (i + 1))]) (st := [.int r]) dL_law_451 mvX9_knock wk32_16 rfl (by decide +kernel) rfl (by decide) h1 h2 (Nat.le_of_ble_eq_true rfl) hc2 ?_
  exact mG.icmp_eq 1591 dL_law_454 (by decide) (fun c => hk S2 hI) (fun c => absurd rfl c)
set_option maxHeartbeats 4000000 in
set_option maxRecDepth 100000 in
theorem law_marry {x : mX} {Q : mQt} {nc ns i : Nat} {S : mS} {Inv : mS → Prop} (h1 : nc ≤ 600000) (h2 : ns ≤ 7302250) (hi : i + 6 ≤ x.2.2.2.2.2.2.1) (hL : x.2.2.2.2.2.2.1 ≤ 3072) (hs : Step μX8_marry μX9_marry Inv S [.int (sq x (i + 1)), .int (sq x (i + 2))]) (hk : ∀ S2, Inv S2 → mG x μL 2000 600000 7302250 Q nc ns E0 S2 1591 (lvL i) []) : mG x μL 2000 600000 7302250 Q nc ns E0 S 459 (lvL i) [] := by
  obtain ⟨S1, S2, r, hc1, hc2, hI⟩ := hs
  refine mG.aload_n 2 dL_law_459 rfl ?_
  refine law_arg 1 1 dL_law_460 dL_law_461 dL_law_462 dL_law_463 dL_law_464 rfl (by omega) hL ?_
  refine law_arg 2 2 dL_law_465 dL_law_466 dL_law_467 dL_law_468 dL_law_469 rfl (by omega) hL ?_
  refine mG.callL (S2 := S1) (as := [.int (sq x (i + 1)), .int (sq x (i + 2))]) (st := []) dL_law_470 mvX8_marry wk36_4 rfl (by decide +kernel) rfl (by decide) h1 h2 (Nat.le_of_ble_eq_true rfl) hc1 ?_
  refine mG.aload_n 1 dL_law_473 rfl ?_
  refine law_arg 1 1 dL_law_474 dL_law_475 dL_law_476 dL_law_477 dL_law_478 rfl (by omega) hL ?_
  refine law_arg 2 2 dL_law_479 dL_law_480 dL_law_481 dL_law_482 dL_law_483 rfl (by omega) hL ?_
  refine mG.callL (S2 := S2) (as := [.int (sq x (i + 1)), .int (sq x (i + 2))]) (st := [.int r]) dL_law_484 mvX9_marry wk36_18 rfl (by decide +kernel) rfl (by decide) h1 h2 (Nat.le_of_ble_eq_true rfl) hc2 ?_
  exact mG.icmp_eq 1591 dL_law_487 (by decide) (fun c => hk S2 hI) (fun c => absurd rfl c)
set_option maxHeartbeats 4000000 in
set_option maxRecDepth 100000 in
theorem law_hat {x : mX} {Q : mQt} {nc ns i : Nat} {S : mS} {Inv : mS → Prop} (h1 : nc ≤ 600000) (h2 : ns ≤ 7302250) (hi : i + 6 ≤ x.2.2.2.2.2.2.1) (hL : x.2.2.2.2.2.2.1 ≤ 3072) (hs : Step μX8_hat μX9_hat Inv S [.int (sq x (i + 1))]) (hk : ∀ S2, Inv S2 → mG x μL 2000 600000 7302250 Q nc ns E0 S2 1591 (lvL i) []) : mG x μL 2000 600000 7302250 Q nc ns E0 S 492 (lvL i) [] := by
  obtain ⟨S1, S2, r, hc1, hc2, hI⟩ := hs
  refine mG.aload_n 2 dL_law_492 rfl ?_
  refine law_arg 1 1 dL_law_493 dL_law_494 dL_law_495 dL_law_496 dL_law_497 rfl (by omega) hL ?_
  refine mG.callL (S2 := S1) (as := [.int (sq x (i + 1))]) (st := []) dL_law_498 mvX8_hat wk36_22 rfl (by decide +kernel) rfl (by decide) h1 h2 (Nat.le_of_ble_eq_true rfl) hc1 ?_
  refine mG.aload_n 1 dL_law_501 rfl ?_
  refine law_arg 1 1 dL_law_502 dL_law_503 dL_law_504 dL_law_505 dL_law_506 rfl (by omega) hL ?_
  refine mG.callL (S2 := S2) (as := [.int (sq x (i + 1))]) (st := [.int r]) dL_law_507 mvX9_hat wk37_16 rfl (by decide +kernel) rfl (by decide) h1 h2 (Nat.le_of_ble_eq_true rfl) hc2 ?_
  exact mG.icmp_eq 1591 dL_law_510 (by decide) (fun c => hk S2 hI) (fun c => absurd rfl c)
set_option maxHeartbeats 4000000 in
set_option maxRecDepth 100000 in
theorem law_forget {x : mX} {Q : mQt} {nc ns i : Nat} {S : mS} {Inv : mS → Prop} (h1 : nc ≤ 600000) (h2 : ns ≤ 7302250) (hi : i + 6 ≤ x.2.2.2.2.2.2.1) (hL : x.2.2.2.2.2.2.1 ≤ 3072) (hs : Step μX8_forget μX9_forget Inv S [.int (sq x (i + 1)), .int (sq x (i + 2))]) (hk : ∀ S2, Inv S2 → mG x μL 2000 600000 7302250 Q nc ns E0 S2 1591 (lvL i) []) : mG x μL 2000 600000 7302250 Q nc ns E0 S 515 (lvL i) [] := by
  obtain ⟨S1, S2, r, hc1, hc2, hI⟩ := hs
  refine mG.aload_n 2 dL_law_515 rfl ?_
  refine law_arg 1 1 dL_law_516 dL_law_517 dL_law_518 dL_law_519 dL_law_520 rfl (by omega) hL ?_
  refine law_arg 2 2 dL_law_521 dL_law_522 dL_law_523 dL_law_524 dL_law_525 rfl (by omega) hL ?_
  refine mG.callL (S2 := S1) (as := [.int (sq x (i + 1)), .int (sq x (i + 2))]) (st := []) dL_law_526 mvX8_forget wk38_11 rfl (by decide +kernel) rfl (by decide) h1 h2 (Nat.le_of_ble_eq_true rfl) hc1 ?_
  refine mG.aload_n 1 dL_law_529 rfl ?_
  refine law_arg 1 1 dL_law_530 dL_law_531 dL_law_532 dL_law_533 dL_law_534 rfl (by omega) hL ?_
  refine law_arg 2 2 dL_law_535 dL_law_536 dL_law_537 dL_law_538 dL_law_539 rfl (by omega) hL ?_
  refine mG.callL (S2 := S2) (as := [.int (sq x (i + 1)), .int (sq x (i + 2))]) (st := [.int r]) dL_law_540 mvX9_forget wk39_0 rfl (by decide +kernel) rfl (by decide) h1 h2 (Nat.le_of_ble_eq_true rfl) hc2 ?_
  exact mG.icmp_eq 1591 dL_law_543 (by decide) (fun c => hk S2 hI) (fun c => absurd rfl c)
set_option maxHeartbeats 4000000 in
set_option maxRecDepth 100000 in
theorem law_day {x : mX} {Q : mQt} {nc ns i : Nat} {S : mS} {Inv : mS → Prop} (h1 : nc ≤ 600000) (h2 : ns ≤ 7302250) (hi : i + 6 ≤ x.2.2.2.2.2.2.1) (hL : x.2.2.2.2.2.2.1 ≤ 3072) (hs : Step μX8_day μX9_day Inv S [.int (sq x (i + 1))]) (hk : ∀ S2, Inv S2 → mG x μL 2000 600000 7302250 Q nc ns E0 S2 1591 (lvL i) []) : mG x μL 2000 600000 7302250 Q nc ns E0 S 548 (lvL i) [] := by
  obtain ⟨S1, S2, r, hc1, hc2, hI⟩ := hs
  refine mG.aload_n 2 dL_law_548 rfl ?_
  refine law_arg 1 1 dL_law_549 dL_law_550 dL_law_551 dL_law_552 dL_law_553 rfl (by omega) hL ?_
  refine mG.callL (S2 := S1) (as := [.int (sq x (i + 1))]) (st := []) dL_law_554 mvX8_day wk39_12 rfl (by decide +kernel) rfl (by decide) h1 h2 (Nat.le_of_ble_eq_true rfl) hc1 ?_
  refine mG.aload_n 1 dL_law_557 rfl ?_
  refine law_arg 1 1 dL_law_558 dL_law_559 dL_law_560 dL_law_561 dL_law_562 rfl (by omega) hL ?_
  refine mG.callL (S2 := S2) (as := [.int (sq x (i + 1))]) (st := [.int r]) dL_law_563 mvX9_day wk40_13 rfl (by decide +kernel) rfl (by decide) h1 h2 (Nat.le_of_ble_eq_true rfl) hc2 ?_
  exact mG.icmp_eq 1591 dL_law_566 (by decide) (fun c => hk S2 hI) (fun c => absurd rfl c)
set_option maxHeartbeats 4000000 in
set_option maxRecDepth 100000 in
theorem law_played {x : mX} {Q : mQt} {nc ns i : Nat} {S : mS} {Inv : mS → Prop} (h1 : nc ≤ 600000) (h2 : ns ≤ 7302250) (hi : i + 6 ≤ x.2.2.2.2.2.2.1) (hL : x.2.2.2.2.2.2.1 ≤ 3072) (hs : Step μX8_played μX9_played Inv S [.int (sq x (i + 1))]) (hk : ∀ S2, Inv S2 → mG x μL 2000 600000 7302250 Q nc ns E0 S2 1591 (lvL i) []) : mG x μL 2000 600000 7302250 Q nc ns E0 S 571 (lvL i) [] := by
  obtain ⟨S1, S2, r, hc1, hc2, hI⟩ := hs
  refine mG.aload_n 2 dL_law_571 rfl ?_
  refine law_arg 1 1 dL_law_572 dL_law_573 dL_law_574 dL_law_575 dL_law_576 rfl (by omega) hL ?_
  refine mG.callL (S2 := S1) (as := [.int (sq x (i + 1))]) (st := []) dL_law_577 mvX8_played wk41_13 rfl (by decide +kernel) rfl (by decide) h1 h2 (Nat.le_of_ble_eq_true rfl) hc1 ?_
  refine mG.aload_n 1 dL_law_580 rfl ?_
  refine law_arg 1 1 dL_law_581 dL_law_582 dL_law_583 dL_law_584 dL_law_585 rfl (by omega) hL ?_
  refine mG.callL (S2 := S2) (as := [.int (sq x (i + 1))]) (st := [.int r]) dL_law_586 mvX9_played wk42_15 rfl (by decide +kernel) rfl (by decide) h1 h2 (Nat.le_of_ble_eq_true rfl) hc2 ?_
  exact mG.icmp_eq 1591 dL_law_589 (by decide) (fun c => hk S2 hI) (fun c => absurd rfl c)
set_option maxHeartbeats 4000000 in
set_option maxRecDepth 100000 in
theorem law_years {x : mX} {Q : mQt} {nc ns i : Nat} {S : mS} {Inv : mS → Prop} (h1 : nc ≤ 600000) (h2 : ns ≤ 7302250) (hi : i + 6 ≤ x.2.2.2.2.2.2.1) (hL : x.2.2.2.2.2.2.1 ≤ 3072) (hs : Step μX8_years μX9_years Inv S [.int (sq x (i + 1)), .int (sq x (i + 2))]) (hk : ∀ S2, Inv S2 → mG x μL 2000 600000 7302250 Q nc ns E0 S2 1591 (lvL i) []) : mG x μL 2000 600000 7302250 Q nc ns E0 S 594 (lvL i) [] := by
  obtain ⟨S1, S2, r, hc1, hc2, hI⟩ := hs
  refine mG.aload_n 2 dL_law_594 rfl ?_
  refine law_arg 1 1 dL_law_595 dL_law_596 dL_law_597 dL_law_598 dL_law_599 rfl (by omega) hL ?_
  refine law_arg 2 2 dL_law_600 dL_law_601 dL_law_602 dL_law_603 dL_law_604 rfl (by omega) hL ?_
  refine mG.callL (S2 := S1) (as := [.int (sq x (i + 1)), .int (sq x (i + 2))]) (st := []) dL_law_605 mvX8_years wk43_4 rfl (by decide +kernel) rfl (by decide) h1 h2 (Nat.le_of_ble_eq_true rfl) hc1 ?_
  refine mG.aload_n 1 dL_law_608 rfl ?_
  refine law_arg 1 1 dL_law_609 dL_law_610 dL_law_611 dL_law_612 dL_law_613 rfl (by omega) hL ?_
  refine law_arg 2 2 dL_law_614 dL_law_615 dL_law_616 dL_law_617 dL_law_618 rfl (by omega) hL ?_
  refine mG.callL (S2 := S2) (as := [.int (sq x (i + 1)), .int (sq x (i + 2))]) (st := [.int r]) dL_law_619 mvX9_years wk43_15 rfl (by decide +kernel) rfl (by decide) h1 h2 (Nat.le_of_ble_eq_true rfl) hc2 ?_
  exact mG.icmp_eq 1591 dL_law_622 (by decide) (fun c => hk S2 hI) (fun c => absurd rfl c)
set_option maxHeartbeats 4000000 in
set_option maxRecDepth 100000 in
theorem law_undo {x : mX} {Q : mQt} {nc ns i : Nat} {S : mS} {Inv : mS → Prop} (h1 : nc ≤ 600000) (h2 : ns ≤ 7302250) (hi : i + 6 ≤ x.2.2.2.2.2.2.1) (hL : x.2.2.2.2.2.2.1 ≤ 3072) (hs : Step μX8_undo μX9_undo Inv S []) (hk : ∀ S2, Inv S2 → mG x μL 2000 600000 7302250 Q nc ns E0 S2 1591 (lvL i) []) : mG x μL 2000 600000 7302250 Q nc ns E0 S 627 (lvL i) [] := by
  obtain ⟨S1, S2, r, hc1, hc2, hI⟩ := hs
  refine mG.aload_n 2 dL_law_627 rfl ?_
  refine mG.callL (S2 := S1) (as := []) (st := []) dL_law_628 mvX8_undo wk43_23 rfl (by decide +kernel) rfl (by decide) h1 h2 (Nat.le_of_ble_eq_true rfl) hc1 ?_
  refine mG.aload_n 1 dL_law_631 rfl ?_
  refine mG.callL (S2 := S2) (as := []) (st := [.int r]) dL_law_632 mvX9_undo wk44_8 rfl (by decide +kernel) rfl (by decide) h1 h2 (Nat.le_of_ble_eq_true rfl) hc2 ?_
  exact mG.icmp_eq 1591 dL_law_635 (by decide) (fun c => hk S2 hI) (fun c => absurd rfl c)
set_option maxHeartbeats 4000000 in
set_option maxRecDepth 100000 in
theorem law_of {x : mX} {Q : mQt} {nc ns i : Nat} {S : mS} {Inv : mS → Prop} (h1 : nc ≤ 600000) (h2 : ns ≤ 7302250) (hi : i + 6 ≤ x.2.2.2.2.2.2.1) (hL : x.2.2.2.2.2.2.1 ≤ 3072) (hs : Step μX8_of μX9_of Inv S [.int (sq x (i + 1)), .int (sq x (i + 2))]) (hk : ∀ S2, Inv S2 → mG x μL 2000 600000 7302250 Q nc ns E0 S2 1591 (lvL i) []) : mG x μL 2000 600000 7302250 Q nc ns E0 S 640 (lvL i) [] := by
  obtain ⟨S1, S2, r, hc1, hc2, hI⟩ := hs
  refine mG.aload_n 2 dL_law_640 rfl ?_
  refine law_arg 1 1 dL_law_641 dL_law_642 dL_law_643 dL_law_644 dL_law_645 rfl (by omega) hL ?_
  refine law_arg 2 2 dL_law_646 dL_law_647 dL_law_648 dL_law_649 dL_law_650 rfl (by omega) hL ?_
  refine mG.callL (S2 := S1) (as := [.int (sq x (i + 1)), .int (sq x (i + 2))]) (st := []) dL_law_651 mvX8_of wk44_12 rfl (by decide +kernel) rfl (by decide) h1 h2 (Nat.le_of_ble_eq_true rfl) hc1 ?_
  refine mG.aload_n 1 dL_law_654 rfl ?_
  refine law_arg 1 1 dL_law_655 dL_law_656 dL_law_657 dL_law_658 dL_law_659 rfl (by omega) hL ?_
  refine law_arg 2 2 dL_law_660 dL_law_661 dL_law_662 dL_law_663 dL_law_664 rfl (by omega) hL ?_
  refine mG.callL (S2 := S2) (as := [.int (sq x (i + 1)), .int (sq x (i + 2))]) (st := [.int r]) dL_law_665 mvX9_of wk45_4 rfl (by decide +kernel) rfl (by decide) h1 h2 (Nat.le_of_ble_eq_true rfl) hc2 ?_
  exact mG.icmp_eq 1591 dL_law_668 (by decide) (fun c => hk S2 hI) (fun c => absurd rfl c)
set_option maxHeartbeats 4000000 in
set_option maxRecDepth 100000 in
theorem law_is {x : mX} {Q : mQt} {nc ns i : Nat} {S : mS} {Inv : mS → Prop} (h1 : nc ≤ 600000) (h2 : ns ≤ 7302250) (hi : i + 6 ≤ x.2.2.2.2.2.2.1) (hL : x.2.2.2.2.2.2.1 ≤ 3072) (hs : Step μX8_is μX9_is Inv S [.int (sq x (i + 1))]) (hk : ∀ S2, Inv S2 → mG x μL 2000 600000 7302250 Q nc ns E0 S2 1591 (lvL i) []) : mG x μL 2000 600000 7302250 Q nc ns E0 S 673 (lvL i) [] := by
  obtain ⟨S1, S2, r, hc1, hc2, hI⟩ := hs
  refine mG.aload_n 2 dL_law_673 rfl ?_
  refine law_arg 1 1 dL_law_674 dL_law_675 dL_law_676 dL_law_677 dL_law_678 rfl (by omega) hL ?_
  refine mG.callL (S2 := S1) (as := [.int (sq x (i + 1))]) (st := []) dL_law_679 mvX8_is wk45_8 rfl (by decide +kernel) rfl (by decide) h1 h2 (Nat.le_of_ble_eq_true rfl) hc1 ?_
  refine mG.aload_n 1 dL_law_682 rfl ?_
  refine law_arg 1 1 dL_law_683 dL_law_684 dL_law_685 dL_law_686 dL_law_687 rfl (by omega) hL ?_
  refine mG.callL (S2 := S2) (as := [.int (sq x (i + 1))]) (st := [.int r]) dL_law_688 mvX9_is wk45_14 rfl (by decide +kernel) rfl (by decide) h1 h2 (Nat.le_of_ble_eq_true rfl) hc2 ?_
  exact mG.icmp_eq 1591 dL_law_691 (by decide) (fun c => hk S2 hI) (fun c => absurd rfl c)
set_option maxHeartbeats 4000000 in
set_option maxRecDepth 100000 in
theorem law_book {x : mX} {Q : mQt} {nc ns i : Nat} {S : mS} {Inv : mS → Prop} (h1 : nc ≤ 600000) (h2 : ns ≤ 7302250) (hi : i + 6 ≤ x.2.2.2.2.2.2.1) (hL : x.2.2.2.2.2.2.1 ≤ 3072) (hs : Step μX8_book μX9_book Inv S [.int (sq x (i + 1)), .int (sq x (i + 2))]) (hk : ∀ S2, Inv S2 → mG x μL 2000 600000 7302250 Q nc ns E0 S2 1591 (lvL i) []) : mG x μL 2000 600000 7302250 Q nc ns E0 S 696 (lvL i) [] := by
  obtain ⟨S1, S2, r, hc1, hc2, hI⟩ := hs
  refine mG.aload_n 2 dL_law_696 rfl ?_
  refine law_arg 1 1 dL_law_697 dL_law_698 dL_law_699 dL_law_700 dL_law_701 rfl (by omega) hL ?_
  refine law_arg 2 2 dL_law_702 dL_law_703 dL_law_704 dL_law_705 dL_law_706 rfl (by omega) hL ?_
  refine mG.callL (S2 := S1) (as := [.int (sq x (i + 1)), .int (sq x (i + 2))]) (st := []) dL_law_707 mvX8_book wk45_18 rfl (by decide +kernel) rfl (by decide) h1 h2 (Nat.le_of_ble_eq_true rfl) hc1 ?_
  refine mG.aload_n 1 dL_law_710 rfl ?_
  refine law_arg 1 1 dL_law_711 dL_law_712 dL_law_713 dL_law_714 dL_law_715 rfl (by omega) hL ?_
  refine law_arg 2 2 dL_law_716 dL_law_717 dL_law_718 dL_law_719 dL_law_720 rfl (by omega) hL ?_
  refine mG.callL (S2 := S2) (as := [.int (sq x (i + 1)), .int (sq x (i + 2))]) (st := [.int r]) dL_law_721 mvX9_book wk46_11 rfl (by decide +kernel) rfl (by decide) h1 h2 (Nat.le_of_ble_eq_true rfl) hc2 ?_
  exact mG.icmp_eq 1591 dL_law_724 (by decide) (fun c => hk S2 hI) (fun c => absurd rfl c)
set_option maxHeartbeats 4000000 in
set_option maxRecDepth 100000 in
theorem law_foretold {x : mX} {Q : mQt} {nc ns i : Nat} {S : mS} {Inv : mS → Prop} (h1 : nc ≤ 600000) (h2 : ns ≤ 7302250) (hi : i + 6 ≤ x.2.2.2.2.2.2.1) (hL : x.2.2.2.2.2.2.1 ≤ 3072) (hs : Step μX8_foretold μX9_foretold Inv S [.int (sq x (i + 1)), .int (sq x (i + 2))]) (hk : ∀ S2, Inv S2 → mG x μL 2000 600000 7302250 Q nc ns E0 S2 1591 (lvL i) []) : mG x μL 2000 600000 7302250 Q nc ns E0 S 729 (lvL i) [] := by
  obtain ⟨S1, S2, r, hc1, hc2, hI⟩ := hs
  refine mG.aload_n 2 dL_law_729 rfl ?_
  refine law_arg 1 1 dL_law_730 dL_law_731 dL_law_732 dL_law_733 dL_law_734 rfl (by omega) hL ?_
  refine law_arg 2 2 dL_law_735 dL_law_736 dL_law_737 dL_law_738 dL_law_739 rfl (by omega) hL ?_
  refine mG.callL (S2 := S1) (as := [.int (sq x (i + 1)), .int (sq x (i + 2))]) (st := []) dL_law_740 mvX8_foretold wk46_19 rfl (by decide +kernel) rfl (by decide) h1 h2 (Nat.le_of_ble_eq_true rfl) hc1 ?_
  refine mG.aload_n 1 dL_law_743 rfl ?_
  refine law_arg 1 1 dL_law_744 dL_law_745 dL_law_746 dL_law_747 dL_law_748 rfl (by omega) hL ?_
  refine law_arg 2 2 dL_law_749 dL_law_750 dL_law_751 dL_law_752 dL_law_753 rfl (by omega) hL ?_
  refine mG.callL (S2 := S2) (as := [.int (sq x (i + 1)), .int (sq x (i + 2))]) (st := [.int r]) dL_law_754 mvX9_foretold wk47_4 rfl (by decide +kernel) rfl (by decide) h1 h2 (Nat.le_of_ble_eq_true rfl) hc2 ?_
  exact mG.icmp_eq 1591 dL_law_757 (by decide) (fun c => hk S2 hI) (fun c => absurd rfl c)
set_option maxHeartbeats 4000000 in
set_option maxRecDepth 100000 in
theorem law_indoors {x : mX} {Q : mQt} {nc ns i : Nat} {S : mS} {Inv : mS → Prop} (h1 : nc ≤ 600000) (h2 : ns ≤ 7302250) (hi : i + 6 ≤ x.2.2.2.2.2.2.1) (hL : x.2.2.2.2.2.2.1 ≤ 3072) (hs : Step μX8_indoors μX9_indoors Inv S [.int (sq x (i + 1))]) (hk : ∀ S2, Inv S2 → mG x μL 2000 600000 7302250 Q nc ns E0 S2 1591 (lvL i) []) : mG x μL 2000 600000 7302250 Q nc ns E0 S 762 (lvL i) [] := by
  obtain ⟨S1, S2, r, hc1, hc2, hI⟩ := hs
  refine mG.aload_n 2 dL_law_762 rfl ?_
  refine law_arg 1 1 dL_law_763 dL_law_764 dL_law_765 dL_law_766 dL_law_767 rfl (by omega) hL ?_
  refine mG.callL (S2 := S1) (as := [.int (sq x (i + 1))]) (st := []) dL_law_768 mvX8_indoors wk47_20 rfl (by decide +kernel) rfl (by decide) h1 h2 (Nat.le_of_ble_eq_true rfl) hc1 ?_
  refine mG.aload_n 1 dL_law_771 rfl ?_
  refine law_arg 1 1 dL_law_772 dL_law_773 dL_law_774 dL_law_775 dL_law_776 rfl (by omega) hL ?_
  refine mG.callL (S2 := S2) (as := [.int (sq x (i + 1))]) (st := [.int r]) dL_law_777 mvX9_indoors wk48_4 rfl (by decide +kernel) rfl (by decide) h1 h2 (Nat.le_of_ble_eq_true rfl) hc2 ?_
  exact mG.icmp_eq 1591 dL_law_780 (by decide) (fun c => hk S2 hI) (fun c => absurd rfl c)
set_option maxHeartbeats 4000000 in
set_option maxRecDepth 100000 in
theorem law_crowded {x : mX} {Q : mQt} {nc ns i : Nat} {S : mS} {Inv : mS → Prop} (h1 : nc ≤ 600000) (h2 : ns ≤ 7302250) (hi : i + 6 ≤ x.2.2.2.2.2.2.1) (hL : x.2.2.2.2.2.2.1 ≤ 3072) (hs : Step μX8_crowded μX9_crowded Inv S [.int (zb (sq x (i + 1)))]) (hk : ∀ S2, Inv S2 → mG x μL 2000 600000 7302250 Q nc ns E0 S2 1591 (lvL i) []) : mG x μL 2000 600000 7302250 Q nc ns E0 S 785 (lvL i) [] := by
  obtain ⟨S1, S2, r, hc1, hc2, hI⟩ := hs
  refine mG.aload_n 2 dL_law_785 rfl ?_
  refine law_argb 1 1 dL_law_786 dL_law_787 dL_law_788 dL_law_789 dL_law_790 dL_law_791 dL_law_794 dL_law_795 dL_law_798 rfl (by omega) hL ?_
  refine mG.callL (S2 := S1) (as := [.int (zb (sq x (i + 1)))]) (st := []) dL_law_799 mvX8_crowded wk48_12 rfl (by decide +kernel) rfl (by decide) h1 h2 (Nat.le_of_ble_eq_true rfl) hc1 ?_
  refine mG.aload_n 1 dL_law_802 rfl ?_
  refine law_argb 1 1 dL_law_803 dL_law_804 dL_law_805 dL_law_806 dL_law_807 dL_law_808 dL_law_811 dL_law_812 dL_law_815 rfl (by omega) hL ?_
  refine mG.callL (S2 := S2) (as := [.int (zb (sq x (i + 1)))]) (st := [.int r]) dL_law_816 mvX9_crowded wk48_16 rfl (by decide +kernel) rfl (by decide) h1 h2 (Nat.le_of_ble_eq_true rfl) hc2 ?_
  exact mG.icmp_eq 1591 dL_law_819 (by decide) (fun c => hk S2 hI) (fun c => absurd rfl c)
set_option maxHeartbeats 4000000 in
set_option maxRecDepth 100000 in
theorem law_feast {x : mX} {Q : mQt} {nc ns i : Nat} {S : mS} {Inv : mS → Prop} (h1 : nc ≤ 600000) (h2 : ns ≤ 7302250) (hi : i + 6 ≤ x.2.2.2.2.2.2.1) (hL : x.2.2.2.2.2.2.1 ≤ 3072) (hs : Step μX8_feast μX9_feast Inv S [.int (zb (sq x (i + 1)))]) (hk : ∀ S2, Inv S2 → mG x μL 2000 600000 7302250 Q nc ns E0 S2 1591 (lvL i) []) : mG x μL 2000 600000 7302250 Q nc ns E0 S 824 (lvL i) [] := by
  obtain ⟨S1, S2, r, hc1, hc2, hI⟩ := hs
  refine mG.aload_n 2 dL_law_824 rfl ?_
  refine law_argb 1 1 dL_law_825 dL_law_826 dL_law_827 dL_law_828 dL_law_829 dL_law_830 dL_law_833 dL_law_834 dL_law_837 rfl (by omega) hL ?_
  refine mG.callL (S2 := S1) (as := [.int (zb (sq x (i + 1)))]) (st := []) dL_law_838 mvX8_feast wk48_20 rfl (by decide +kernel) rfl (by decide) h1 h2 (Nat.le_of_ble_eq_true rfl) hc1 ?_
  refine mG.aload_n 1 dL_law_841 rfl ?_
  refine law_argb 1 1 dL_law_842 dL_law_843 dL_law_844 dL_law_845 dL_law_846 dL_law_847 dL_law_850 dL_law_851 dL_law_854 rfl (by omega) hL ?_
  refine mG.callL (S2 := S2) (as := [.int (zb (sq x (i + 1)))]) (st := [.int r]) dL_law_855 mvX9_feast wk49_5 rfl (by decide +kernel) rfl (by decide) h1 h2 (Nat.le_of_ble_eq_true rfl) hc2 ?_
  exact mG.icmp_eq 1591 dL_law_858 (by decide) (fun c => hk S2 hI) (fun c => absurd rfl c)
set_option maxHeartbeats 4000000 in
set_option maxRecDepth 100000 in
theorem law_alone {x : mX} {Q : mQt} {nc ns i : Nat} {S : mS} {Inv : mS → Prop} (h1 : nc ≤ 600000) (h2 : ns ≤ 7302250) (hi : i + 6 ≤ x.2.2.2.2.2.2.1) (hL : x.2.2.2.2.2.2.1 ≤ 3072) (hs : Step μX8_alone μX9_alone Inv S []) (hk : ∀ S2, Inv S2 → mG x μL 2000 600000 7302250 Q nc ns E0 S2 1591 (lvL i) []) : mG x μL 2000 600000 7302250 Q nc ns E0 S 863 (lvL i) [] := by
  obtain ⟨S1, S2, r, hc1, hc2, hI⟩ := hs
  refine mG.aload_n 2 dL_law_863 rfl ?_
  refine mG.callL (S2 := S1) (as := []) (st := []) dL_law_864 mvX8_alone wk49_13 rfl (by decide +kernel) rfl (by decide) h1 h2 (Nat.le_of_ble_eq_true rfl) hc1 ?_
  refine mG.aload_n 1 dL_law_867 rfl ?_
  refine mG.callL (S2 := S2) (as := []) (st := [.int r]) dL_law_868 mvX9_alone wk49_21 rfl (by decide +kernel) rfl (by decide) h1 h2 (Nat.le_of_ble_eq_true rfl) hc2 ?_
  exact mG.icmp_eq 1591 dL_law_871 (by decide) (fun c => hk S2 hI) (fun c => absurd rfl c)
set_option maxHeartbeats 4000000 in
set_option maxRecDepth 100000 in
theorem law_nobodys {x : mX} {Q : mQt} {nc ns i : Nat} {S : mS} {Inv : mS → Prop} (h1 : nc ≤ 600000) (h2 : ns ≤ 7302250) (hi : i + 6 ≤ x.2.2.2.2.2.2.1) (hL : x.2.2.2.2.2.2.1 ≤ 3072) (hs : Step μX8_nobodys μX9_nobodys Inv S []) (hk : ∀ S2, Inv S2 → mG x μL 2000 600000 7302250 Q nc ns E0 S2 1591 (lvL i) []) : mG x μL 2000 600000 7302250 Q nc ns E0 S 876 (lvL i) [] := by
  obtain ⟨S1, S2, r, hc1, hc2, hI⟩ := hs
  refine mG.aload_n 2 dL_law_876 rfl ?_
  refine mG.callL (S2 := S1) (as := []) (st := []) dL_law_877 mvX8_nobodys wk50_1 rfl (by decide +kernel) rfl (by decide) h1 h2 (Nat.le_of_ble_eq_true rfl) hc1 ?_
  refine mG.aload_n 1 dL_law_880 rfl ?_
  refine mG.callL (S2 := S2) (as := []) (st := [.int r]) dL_law_881 mvX9_nobodys wk50_6 rfl (by decide +kernel) rfl (by decide) h1 h2 (Nat.le_of_ble_eq_true rfl) hc2 ?_
  exact mG.icmp_eq 1591 dL_law_884 (by decide) (fun c => hk S2 hI) (fun c => absurd rfl c)
set_option maxHeartbeats 4000000 in
set_option maxRecDepth 100000 in
theorem law_poorest {x : mX} {Q : mQt} {nc ns i : Nat} {S : mS} {Inv : mS → Prop} (h1 : nc ≤ 600000) (h2 : ns ≤ 7302250) (hi : i + 6 ≤ x.2.2.2.2.2.2.1) (hL : x.2.2.2.2.2.2.1 ≤ 3072) (hs : Step μX8_poorest μX9_poorest Inv S [.int (sq x (i + 1))]) (hk : ∀ S2, Inv S2 → mG x μL 2000 600000 7302250 Q nc ns E0 S2 1591 (lvL i) []) : mG x μL 2000 600000 7302250 Q nc ns E0 S 889 (lvL i) [] := by
  obtain ⟨S1, S2, r, hc1, hc2, hI⟩ := hs
  refine mG.aload_n 2 dL_law_889 rfl ?_
  refine law_arg 1 1 dL_law_890 dL_law_891 dL_law_892 dL_law_893 dL_law_894 rfl (by omega) hL ?_
  refine mG.callL (S2 := S1) (as := [.int (sq x (i + 1))]) (st := []) dL_law_895 mvX8_poorest wk50_10 rfl (by decide +kernel) rfl (by decide) h1 h2 (Nat.le_of_ble_eq_true rfl) hc1 ?_
  refine mG.aload_n 1 dL_law_898 rfl ?_
  refine law_arg 1 1 dL_law_899 dL_law_900 dL_law_901 dL_law_902 dL_law_903 rfl (by omega) hL ?_
  refine mG.callL (S2 := S2) (as := [.int (sq x (i + 1))]) (st := [.int r]) dL_law_904 mvX9_poorest wk50_14 rfl (by decide +kernel) rfl (by decide) h1 h2 (Nat.le_of_ble_eq_true rfl) hc2 ?_
  exact mG.icmp_eq 1591 dL_law_907 (by decide) (fun c => hk S2 hI) (fun c => absurd rfl c)
set_option maxHeartbeats 4000000 in
set_option maxRecDepth 100000 in
theorem law_seen {x : mX} {Q : mQt} {nc ns i : Nat} {S : mS} {Inv : mS → Prop} (h1 : nc ≤ 600000) (h2 : ns ≤ 7302250) (hi : i + 6 ≤ x.2.2.2.2.2.2.1) (hL : x.2.2.2.2.2.2.1 ≤ 3072) (hs : Step μX8_seen μX9_seen Inv S [.int (sq x (i + 1)), .int (sq x (i + 2)), .int (zb (sq x (i + 3)))]) (hk : ∀ S2, Inv S2 → mG x μL 2000 600000 7302250 Q nc ns E0 S2 1591 (lvL i) []) : mG x μL 2000 600000 7302250 Q nc ns E0 S 912 (lvL i) [] := by
  obtain ⟨S1, S2, r, hc1, hc2, hI⟩ := hs
  refine mG.aload_n 2 dL_law_912 rfl ?_
  refine law_arg 1 1 dL_law_913 dL_law_914 dL_law_915 dL_law_916 dL_law_917 rfl (by omega) hL ?_
  refine law_arg 2 2 dL_law_918 dL_law_919 dL_law_920 dL_law_921 dL_law_922 rfl (by omega) hL ?_
  refine law_argb 3 3 dL_law_923 dL_law_924 dL_law_925 dL_law_926 dL_law_927 dL_law_928 dL_law_931 dL_law_932 dL_law_935 rfl (by omega) hL ?_
  refine mG.callL (S2 := S1) (as := [.int (sq x (i + 1)), .int (sq x (i + 2)), .int (zb (sq x (i + 3)))]) (st := []) dL_law_936 mvX8_seen wk50_18 rfl (by decide +kernel) rfl (by decide) h1 h2 (Nat.le_of_ble_eq_true rfl) hc1 ?_
  refine mG.aload_n 1 dL_law_939 rfl ?_
  refine law_arg 1 1 dL_law_940 dL_law_941 dL_law_942 dL_law_943 dL_law_944 rfl (by omega) hL ?_
  refine law_arg 2 2 dL_law_945 dL_law_946 dL_law_947 dL_law_948 dL_law_949 rfl (by omega) hL ?_
  refine law_argb 3 3 dL_law_950 dL_law_951 dL_law_952 dL_law_953 dL_law_954 dL_law_955 dL_law_958 dL_law_959 dL_law_962 rfl (by omega) hL ?_
  refine mG.callL (S2 := S2) (as := [.int (sq x (i + 1)), .int (sq x (i + 2)), .int (zb (sq x (i + 3)))]) (st := [.int r]) dL_law_963 mvX9_seen wk51_2 rfl (by decide +kernel) rfl (by decide) h1 h2 (Nat.le_of_ble_eq_true rfl) hc2 ?_
  exact mG.icmp_eq 1591 dL_law_966 (by decide) (fun c => hk S2 hI) (fun c => absurd rfl c)
set_option maxHeartbeats 4000000 in
set_option maxRecDepth 100000 in
theorem law_sets {x : mX} {Q : mQt} {nc ns i : Nat} {S : mS} {Inv : mS → Prop} (h1 : nc ≤ 600000) (h2 : ns ≤ 7302250) (hi : i + 6 ≤ x.2.2.2.2.2.2.1) (hL : x.2.2.2.2.2.2.1 ≤ 3072) (hs : Step μX8_sets μX9_sets Inv S [.int (sq x (i + 1)), .int (sq x (i + 2)), .int (zb (sq x (i + 3)))]) (hk : ∀ S2, Inv S2 → mG x μL 2000 600000 7302250 Q nc ns E0 S2 1591 (lvL i) []) : mG x μL 2000 600000 7302250 Q nc ns E0 S 971 (lvL i) [] := by
  obtain ⟨S1, S2, r, hc1, hc2, hI⟩ := hs
  refine mG.aload_n 2 dL_law_971 rfl ?_
  refine law_arg 1 1 dL_law_972 dL_law_973 dL_law_974 dL_law_975 dL_law_976 rfl (by omega) hL ?_
  refine law_arg 2 2 dL_law_977 dL_law_978 dL_law_979 dL_law_980 dL_law_981 rfl (by omega) hL ?_
  refine law_argb 3 3 dL_law_982 dL_law_983 dL_law_984 dL_law_985 dL_law_986 dL_law_987 dL_law_990 dL_law_991 dL_law_994 rfl (by omega) hL ?_
  refine mG.callL (S2 := S1) (as := [.int (sq x (i + 1)), .int (sq x (i + 2)), .int (zb (sq x (i + 3)))]) (st := []) dL_law_995 mvX8_sets wk51_6 rfl (by decide +kernel) rfl (by decide) h1 h2 (Nat.le_of_ble_eq_true rfl) hc1 ?_
  refine mG.aload_n 1 dL_law_998 rfl ?_
  refine law_arg 1 1 dL_law_999 dL_law_1000 dL_law_1001 dL_law_1002 dL_law_1003 rfl (by omega) hL ?_
  refine law_arg 2 2 dL_law_1004 dL_law_1005 dL_law_1006 dL_law_1007 dL_law_1008 rfl (by omega) hL ?_
  refine law_argb 3 3 dL_law_1009 dL_law_1010 dL_law_1011 dL_law_1012 dL_law_1013 dL_law_1014 dL_law_1017 dL_law_1018 dL_law_1021 rfl (by omega) hL ?_
  refine mG.callL (S2 := S2) (as := [.int (sq x (i + 1)), .int (sq x (i + 2)), .int (zb (sq x (i + 3)))]) (st := [.int r]) dL_law_1022 mvX9_sets wk53_1 rfl (by decide +kernel) rfl (by decide) h1 h2 (Nat.le_of_ble_eq_true rfl) hc2 ?_
  exact mG.icmp_eq 1591 dL_law_1025 (by decide) (fun c => hk S2 hI) (fun c => absurd rfl c)
set_option maxHeartbeats 4000000 in
set_option maxRecDepth 100000 in
theorem law_odds {x : mX} {Q : mQt} {nc ns i : Nat} {S : mS} {Inv : mS → Prop} (h1 : nc ≤ 600000) (h2 : ns ≤ 7302250) (hi : i + 6 ≤ x.2.2.2.2.2.2.1) (hL : x.2.2.2.2.2.2.1 ≤ 3072) (hs : Step μX8_odds μX9_odds Inv S [.int (sq x (i + 1)), .int (sq x (i + 2)), .int (sq x (i + 3)), .int (zb (sq x (i + 4)))]) (hk : ∀ S2, Inv S2 → mG x μL 2000 600000 7302250 Q nc ns E0 S2 1591 (lvL i) []) : mG x μL 2000 600000 7302250 Q nc ns E0 S 1030 (lvL i) [] := by
  obtain ⟨S1, S2, r, hc1, hc2, hI⟩ := hs
  refine mG.aload_n 2 dL_law_1030 rfl ?_
  refine law_arg 1 1 dL_law_1031 dL_law_1032 dL_law_1033 dL_law_1034 dL_law_1035 rfl (by omega) hL ?_
  refine law_arg 2 2 dL_law_1036 dL_law_1037 dL_law_1038 dL_law_1039 dL_law_1040 rfl (by omega) hL ?_
  refine law_arg 3 3 dL_law_1041 dL_law_1042 dL_law_1043 dL_law_1044 dL_law_1045 rfl (by omega) hL ?_
  refine law_argb 4 4 dL_law_1046 dL_law_1047 dL_law_1048 dL_law_1049 dL_law_1050 dL_law_1051 dL_law_1054 dL_law_1055 dL_law_1058 rfl (by omega) hL ?_
  refine mG.callL (S2 := S1) (as := [.int (sq x (i + 1)), .int (sq x (i + 2)), .int (sq x (i + 3)), .int (zb (sq x (i + 4)))]) (st := []) dL_law_1059 mvX8_odds wk53_22 rfl (by decide +kernel) rfl (by decide) h1 h2 (Nat.le_of_ble_eq_true rfl) hc1 ?_
  refine mG.aload_n 1 dL_law_1062 rfl ?_
  refine law_arg 1 1 dL_law_1063 dL_law_1064 dL_law_1065 dL_law_1066 dL_law_1067 rfl (by omega) hL ?_
  refine law_arg 2 2 dL_law_1068 dL_law_1069 dL_law_1070 dL_law_1071 dL_law_1072 rfl (by omega) hL ?_
  refine law_arg 3 3 dL_law_1073 dL_law_1074 dL_law_1075 dL_law_1076 dL_law_1077 rfl (by omega) hL ?_
  refine law_argb 4 4 dL_law_1078 dL_law_1079 dL_law_1080 dL_law_1081 dL_law_1082 dL_law_1083 dL_law_1086 dL_law_1087 dL_law_1090 rfl (by omega) hL ?_
  refine mG.callL (S2 := S2) (as := [.int (sq x (i + 1)), .int (sq x (i + 2)), .int (sq x (i + 3)), .int (zb (sq x (i + 4)))]) (st := [.int r]) dL_law_1091 mvX9_odds wk54_6 rfl (by decide +kernel) rfl (by decide) h1 h2 (Nat.le_of_ble_eq_true rfl) hc2 ?_
  exact mG.icmp_eq 1591 dL_law_1094 (by decide) (fun c => hk S2 hI) (fun c => absurd rfl c)
set_option maxHeartbeats 4000000 in
set_option maxRecDepth 100000 in
theorem law_nextKnock {x : mX} {Q : mQt} {nc ns i : Nat} {S : mS} {Inv : mS → Prop} (h1 : nc ≤ 600000) (h2 : ns ≤ 7302250) (hi : i + 6 ≤ x.2.2.2.2.2.2.1) (hL : x.2.2.2.2.2.2.1 ≤ 3072) (hs : Step μX8_nextKnock μX9_nextKnock Inv S [.int (sq x (i + 1)), .int (sq x (i + 2))]) (hk : ∀ S2, Inv S2 → mG x μL 2000 600000 7302250 Q nc ns E0 S2 1591 (lvL i) []) : mG x μL 2000 600000 7302250 Q nc ns E0 S 1099 (lvL i) [] := by
  obtain ⟨S1, S2, r, hc1, hc2, hI⟩ := hs
  refine mG.aload_n 2 dL_law_1099 rfl ?_
  refine law_arg 1 1 dL_law_1100 dL_law_1101 dL_law_1102 dL_law_1103 dL_law_1104 rfl (by omega) hL ?_
  refine law_arg 2 2 dL_law_1105 dL_law_1106 dL_law_1107 dL_law_1108 dL_law_1109 rfl (by omega) hL ?_
  refine mG.callL (S2 := S1) (as := [.int (sq x (i + 1)), .int (sq x (i + 2))]) (st := []) dL_law_1110 mvX8_nextKnock wk54_13 rfl (by decide +kernel) rfl (by decide) h1 h2 (Nat.le_of_ble_eq_true rfl) hc1 ?_
  refine mG.aload_n 1 dL_law_1113 rfl ?_
  refine law_arg 1 1 dL_law_1114 dL_law_1115 dL_law_1116 dL_law_1117 dL_law_1118 rfl (by omega) hL ?_
  refine law_arg 2 2 dL_law_1119 dL_law_1120 dL_law_1121 dL_law_1122 dL_law_1123 rfl (by omega) hL ?_
  refine mG.callL (S2 := S2) (as := [.int (sq x (i + 1)), .int (sq x (i + 2))]) (st := [.int r]) dL_law_1124 mvX9_nextKnock wk54_22 rfl (by decide +kernel) rfl (by decide) h1 h2 (Nat.le_of_ble_eq_true rfl) hc2 ?_
  exact mG.icmp_eq 1591 dL_law_1127 (by decide) (fun c => hk S2 hI) (fun c => absurd rfl c)
set_option maxHeartbeats 4000000 in
set_option maxRecDepth 100000 in
theorem law_thieves {x : mX} {Q : mQt} {nc ns i : Nat} {S : mS} {Inv : mS → Prop} (h1 : nc ≤ 600000) (h2 : ns ≤ 7302250) (hi : i + 6 ≤ x.2.2.2.2.2.2.1) (hL : x.2.2.2.2.2.2.1 ≤ 3072) (hs : Step μX8_thieves μX9_thieves Inv S [.int (sq x (i + 1)), .int (sq x (i + 2)), .int (zb (sq x (i + 3)))]) (hk : ∀ S2, Inv S2 → mG x μL 2000 600000 7302250 Q nc ns E0 S2 1591 (lvL i) []) : mG x μL 2000 600000 7302250 Q nc ns E0 S 1132 (lvL i) [] := by
  obtain ⟨S1, S2, r, hc1, hc2, hI⟩ := hs
  refine mG.aload_n 2 dL_law_1132 rfl ?_
  refine law_arg 1 1 dL_law_1133 dL_law_1134 dL_law_1135 dL_law_1136 dL_law_1137 rfl (by omega) hL ?_
  refine law_arg 2 2 dL_law_1138 dL_law_1139 dL_law_1140 dL_law_1141 dL_law_1142 rfl (by omega) hL ?_
  refine law_argb 3 3 dL_law_1143 dL_law_1144 dL_law_1145 dL_law_1146 dL_law_1147 dL_law_1148 dL_law_1151 dL_law_1152 dL_law_1155 rfl (by omega) hL ?_
  refine mG.callL (S2 := S1) (as := [.int (sq x (i + 1)), .int (sq x (i + 2)), .int (zb (sq x (i + 3)))]) (st := []) dL_law_1156 mvX8_thieves wk55_3 rfl (by decide +kernel) rfl (by decide) h1 h2 (Nat.le_of_ble_eq_true rfl) hc1 ?_
  refine mG.aload_n 1 dL_law_1159 rfl ?_
  refine law_arg 1 1 dL_law_1160 dL_law_1161 dL_law_1162 dL_law_1163 dL_law_1164 rfl (by omega) hL ?_
  refine law_arg 2 2 dL_law_1165 dL_law_1166 dL_law_1167 dL_law_1168 dL_law_1169 rfl (by omega) hL ?_
  refine law_argb 3 3 dL_law_1170 dL_law_1171 dL_law_1172 dL_law_1173 dL_law_1174 dL_law_1175 dL_law_1178 dL_law_1179 dL_law_1182 rfl (by omega) hL ?_
  refine mG.callL (S2 := S2) (as := [.int (sq x (i + 1)), .int (sq x (i + 2)), .int (zb (sq x (i + 3)))]) (st := [.int r]) dL_law_1183 mvX9_thieves wk55_16 rfl (by decide +kernel) rfl (by decide) h1 h2 (Nat.le_of_ble_eq_true rfl) hc2 ?_
  exact mG.icmp_eq 1591 dL_law_1186 (by decide) (fun c => hk S2 hI) (fun c => absurd rfl c)
set_option maxHeartbeats 4000000 in
set_option maxRecDepth 100000 in
theorem law_night {x : mX} {Q : mQt} {nc ns i : Nat} {S : mS} {Inv : mS → Prop} (h1 : nc ≤ 600000) (h2 : ns ≤ 7302250) (hi : i + 6 ≤ x.2.2.2.2.2.2.1) (hL : x.2.2.2.2.2.2.1 ≤ 3072) (hs : Step μX8_night μX9_night Inv S [.int (sq x (i + 1))]) (hk : ∀ S2, Inv S2 → mG x μL 2000 600000 7302250 Q nc ns E0 S2 1591 (lvL i) []) : mG x μL 2000 600000 7302250 Q nc ns E0 S 1191 (lvL i) [] := by
  obtain ⟨S1, S2, r, hc1, hc2, hI⟩ := hs
  refine mG.aload_n 2 dL_law_1191 rfl ?_
  refine law_arg 1 1 dL_law_1192 dL_law_1193 dL_law_1194 dL_law_1195 dL_law_1196 rfl (by omega) hL ?_
  refine mG.callL (S2 := S1) (as := [.int (sq x (i + 1))]) (st := []) dL_law_1197 mvX8_night wk56_2 rfl (by decide +kernel) rfl (by decide) h1 h2 (Nat.le_of_ble_eq_true rfl) hc1 ?_
  refine mG.aload_n 1 dL_law_1200 rfl ?_
  refine law_arg 1 1 dL_law_1201 dL_law_1202 dL_law_1203 dL_law_1204 dL_law_1205 rfl (by omega) hL ?_
  refine mG.callL (S2 := S2) (as := [.int (sq x (i + 1))]) (st := [.int r]) dL_law_1206 mvX9_night wk56_6 rfl (by decide +kernel) rfl (by decide) h1 h2 (Nat.le_of_ble_eq_true rfl) hc2 ?_
  exact mG.icmp_eq 1591 dL_law_1209 (by decide) (fun c => hk S2 hI) (fun c => absurd rfl c)
set_option maxHeartbeats 4000000 in
set_option maxRecDepth 100000 in
theorem law_appointments {x : mX} {Q : mQt} {nc ns i : Nat} {S : mS} {Inv : mS → Prop} (h1 : nc ≤ 600000) (h2 : ns ≤ 7302250) (hi : i + 6 ≤ x.2.2.2.2.2.2.1) (hL : x.2.2.2.2.2.2.1 ≤ 3072) (hs : Step μX8_appointments μX9_appointments Inv S [.int (sq x (i + 1)), .int (sq x (i + 2))]) (hk : ∀ S2, Inv S2 → mG x μL 2000 600000 7302250 Q nc ns E0 S2 1591 (lvL i) []) : mG x μL 2000 600000 7302250 Q nc ns E0 S 1214 (lvL i) [] := by
  obtain ⟨S1, S2, r, hc1, hc2, hI⟩ := hs
  refine mG.aload_n 2 dL_law_1214 rfl ?_
  refine law_arg 1 1 dL_law_1215 dL_law_1216 dL_law_1217 dL_law_1218 dL_law_1219 rfl (by omega) hL ?_
  refine law_arg 2 2 dL_law_1220 dL_law_1221 dL_law_1222 dL_law_1223 dL_law_1224 rfl (by omega) hL ?_
  refine mG.callL (S2 := S1) (as := [.int (sq x (i + 1)), .int (sq x (i + 2))]) (st := []) dL_law_1225 mvX8_appointments wk56_10 rfl (by decide +kernel) rfl (by decide) h1 h2 (Nat.le_of_ble_eq_true rfl) hc1 ?_
  refine mG.aload_n 1 dL_law_1228 rfl ?_
  refine law_arg 1 1 dL_law_1229 dL_law_1230 dL_law_1231 dL_law_1232 dL_law_1233 rfl (by omega) hL ?_
  refine law_arg 2 2 dL_law_1234 dL_law_1235 dL_law_1236 dL_law_1237 dL_law_1238 rfl (by omega) hL ?_
  refine mG.callL (S2 := S2) (as := [.int (sq x (i + 1)), .int (sq x (i + 2))]) (st := [.int r]) dL_law_1239 mvX9_appointments wk57_4 rfl (by decide +kernel) rfl (by decide) h1 h2 (Nat.le_of_ble_eq_true rfl) hc2 ?_
  exact mG.icmp_eq 1591 dL_law_1242 (by decide) (fun c => hk S2 hI) (fun c => absurd rfl c)
set_option maxHeartbeats 4000000 in
set_option maxRecDepth 100000 in
theorem law_rounds {x : mX} {Q : mQt} {nc ns i : Nat} {S : mS} {Inv : mS → Prop} (h1 : nc ≤ 600000) (h2 : ns ≤ 7302250) (hi : i + 6 ≤ x.2.2.2.2.2.2.1) (hL : x.2.2.2.2.2.2.1 ≤ 3072) (hs : Step μX8_rounds μX9_rounds Inv S []) (hk : ∀ S2, Inv S2 → mG x μL 2000 600000 7302250 Q nc ns E0 S2 1591 (lvL i) []) : mG x μL 2000 600000 7302250 Q nc ns E0 S 1247 (lvL i) [] := by
  obtain ⟨S1, S2, r, hc1, hc2, hI⟩ := hs
  refine mG.aload_n 2 dL_law_1247 rfl ?_
  refine mG.callL (S2 := S1) (as := []) (st := []) dL_law_1248 mvX8_rounds wk57_20 rfl (by decide +kernel) rfl (by decide) h1 h2 (Nat.le_of_ble_eq_true rfl) hc1 ?_
  refine mG.aload_n 1 dL_law_1251 rfl ?_
  refine mG.callL (S2 := S2) (as := []) (st := [.int r]) dL_law_1252 mvX9_rounds wk58_4 rfl (by decide +kernel) rfl (by decide) h1 h2 (Nat.le_of_ble_eq_true rfl) hc2 ?_
  exact mG.icmp_eq 1591 dL_law_1255 (by decide) (fun c => hk S2 hI) (fun c => absurd rfl c)
set_option maxHeartbeats 4000000 in
set_option maxRecDepth 100000 in
theorem law_weddings {x : mX} {Q : mQt} {nc ns i : Nat} {S : mS} {Inv : mS → Prop} (h1 : nc ≤ 600000) (h2 : ns ≤ 7302250) (hi : i + 6 ≤ x.2.2.2.2.2.2.1) (hL : x.2.2.2.2.2.2.1 ≤ 3072) (hs : Step μX8_weddings μX9_weddings Inv S [.int (sq x (i + 1))]) (hk : ∀ S2, Inv S2 → mG x μL 2000 600000 7302250 Q nc ns E0 S2 1591 (lvL i) []) : mG x μL 2000 600000 7302250 Q nc ns E0 S 1260 (lvL i) [] := by
  obtain ⟨S1, S2, r, hc1, hc2, hI⟩ := hs
  refine mG.aload_n 2 dL_law_1260 rfl ?_
  refine law_arg 1 1 dL_law_1261 dL_law_1262 dL_law_1263 dL_law_1264 dL_law_1265 rfl (by omega) hL ?_
  refine mG.callL (S2 := S1) (as := [.int (sq x (i + 1))]) (st := []) dL_law_1266 mvX8_weddings wk58_12 rfl (by decide +kernel) rfl (by decide) h1 h2 (Nat.le_of_ble_eq_true rfl) hc1 ?_
  refine mG.aload_n 1 dL_law_1269 rfl ?_
  refine law_arg 1 1 dL_law_1270 dL_law_1271 dL_law_1272 dL_law_1273 dL_law_1274 rfl (by omega) hL ?_
  refine mG.callL (S2 := S2) (as := [.int (sq x (i + 1))]) (st := [.int r]) dL_law_1275 mvX9_weddings wk59_11 rfl (by decide +kernel) rfl (by decide) h1 h2 (Nat.le_of_ble_eq_true rfl) hc2 ?_
  exact mG.icmp_eq 1591 dL_law_1278 (by decide) (fun c => hk S2 hI) (fun c => absurd rfl c)
set_option maxHeartbeats 4000000 in
set_option maxRecDepth 100000 in
theorem law_twins {x : mX} {Q : mQt} {nc ns i : Nat} {S : mS} {Inv : mS → Prop} (h1 : nc ≤ 600000) (h2 : ns ≤ 7302250) (hi : i + 6 ≤ x.2.2.2.2.2.2.1) (hL : x.2.2.2.2.2.2.1 ≤ 3072) (hs : Step μX8_twins μX9_twins Inv S []) (hk : ∀ S2, Inv S2 → mG x μL 2000 600000 7302250 Q nc ns E0 S2 1591 (lvL i) []) : mG x μL 2000 600000 7302250 Q nc ns E0 S 1283 (lvL i) [] := by
  obtain ⟨S1, S2, r, hc1, hc2, hI⟩ := hs
  refine mG.aload_n 2 dL_law_1283 rfl ?_
  refine mG.callL (S2 := S1) (as := []) (st := []) dL_law_1284 mvX8_twins wk60_7 rfl (by decide +kernel) rfl (by decide) h1 h2 (Nat.le_of_ble_eq_true rfl) hc1 ?_
  refine mG.aload_n 1 dL_law_1287 rfl ?_
  refine mG.callL (S2 := S2) (as := []) (st := [.int r]) dL_law_1288 mvX9_twins wk60_11 rfl (by decide +kernel) rfl (by decide) h1 h2 (Nat.le_of_ble_eq_true rfl) hc2 ?_
  exact mG.icmp_eq 1591 dL_law_1291 (by decide) (fun c => hk S2 hI) (fun c => absurd rfl c)
set_option maxHeartbeats 4000000 in
set_option maxRecDepth 100000 in
theorem law_gossip {x : mX} {Q : mQt} {nc ns i : Nat} {S : mS} {Inv : mS → Prop} (h1 : nc ≤ 600000) (h2 : ns ≤ 7302250) (hi : i + 6 ≤ x.2.2.2.2.2.2.1) (hL : x.2.2.2.2.2.2.1 ≤ 3072) (hs : Step μX8_gossip μX9_gossip Inv S [.int (sq x (i + 1)), .int (sq x (i + 2))]) (hk : ∀ S2, Inv S2 → mG x μL 2000 600000 7302250 Q nc ns E0 S2 1591 (lvL i) []) : mG x μL 2000 600000 7302250 Q nc ns E0 S 1296 (lvL i) [] := by
  obtain ⟨S1, S2, r, hc1, hc2, hI⟩ := hs
  refine mG.aload_n 2 dL_law_1296 rfl ?_
  refine law_arg 1 1 dL_law_1297 dL_law_1298 dL_law_1299 dL_law_1300 dL_law_1301 rfl (by omega) hL ?_
  refine law_arg 2 2 dL_law_1302 dL_law_1303 dL_law_1304 dL_law_1305 dL_law_1306 rfl (by omega) hL ?_
  refine mG.callL (S2 := S1) (as := [.int (sq x (i + 1)), .int (sq x (i + 2))]) (st := []) dL_law_1307 mvX8_gossip wk60_15 rfl (by decide +kernel) rfl (by decide) h1 h2 (Nat.le_of_ble_eq_true rfl) hc1 ?_
  refine mG.aload_n 1 dL_law_1310 rfl ?_
  refine law_arg 1 1 dL_law_1311 dL_law_1312 dL_law_1313 dL_law_1314 dL_law_1315 rfl (by omega) hL ?_
  refine law_arg 2 2 dL_law_1316 dL_law_1317 dL_law_1318 dL_law_1319 dL_law_1320 rfl (by omega) hL ?_
  refine mG.callL (S2 := S2) (as := [.int (sq x (i + 1)), .int (sq x (i + 2))]) (st := [.int r]) dL_law_1321 mvX9_gossip wk60_22 rfl (by decide +kernel) rfl (by decide) h1 h2 (Nat.le_of_ble_eq_true rfl) hc2 ?_
  exact mG.icmp_eq 1591 dL_law_1324 (by decide) (fun c => hk S2 hI) (fun c => absurd rfl c)
set_option maxHeartbeats 4000000 in
set_option maxRecDepth 100000 in
theorem law_knows {x : mX} {Q : mQt} {nc ns i : Nat} {S : mS} {Inv : mS → Prop} (h1 : nc ≤ 600000) (h2 : ns ≤ 7302250) (hi : i + 6 ≤ x.2.2.2.2.2.2.1) (hL : x.2.2.2.2.2.2.1 ≤ 3072) (hs : Step μX8_knows μX9_knows Inv S [.int (sq x (i + 1)), .int (sq x (i + 2))]) (hk : ∀ S2, Inv S2 → mG x μL 2000 600000 7302250 Q nc ns E0 S2 1591 (lvL i) []) : mG x μL 2000 600000 7302250 Q nc ns E0 S 1329 (lvL i) [] := by
  obtain ⟨S1, S2, r, hc1, hc2, hI⟩ := hs
  refine mG.aload_n 2 dL_law_1329 rfl ?_
  refine law_arg 1 1 dL_law_1330 dL_law_1331 dL_law_1332 dL_law_1333 dL_law_1334 rfl (by omega) hL ?_
  refine law_arg 2 2 dL_law_1335 dL_law_1336 dL_law_1337 dL_law_1338 dL_law_1339 rfl (by omega) hL ?_
  refine mG.callL (S2 := S1) (as := [.int (sq x (i + 1)), .int (sq x (i + 2))]) (st := []) dL_law_1340 mvX8_knows wk61_2 rfl (by decide +kernel) rfl (by decide) h1 h2 (Nat.le_of_ble_eq_true rfl) hc1 ?_
  refine mG.aload_n 1 dL_law_1343 rfl ?_
  refine law_arg 1 1 dL_law_1344 dL_law_1345 dL_law_1346 dL_law_1347 dL_law_1348 rfl (by omega) hL ?_
  refine law_arg 2 2 dL_law_1349 dL_law_1350 dL_law_1351 dL_law_1352 dL_law_1353 rfl (by omega) hL ?_
  refine mG.callL (S2 := S2) (as := [.int (sq x (i + 1)), .int (sq x (i + 2))]) (st := [.int r]) dL_law_1354 mvX9_knows wk61_11 rfl (by decide +kernel) rfl (by decide) h1 h2 (Nat.le_of_ble_eq_true rfl) hc2 ?_
  exact mG.icmp_eq 1591 dL_law_1357 (by decide) (fun c => hk S2 hI) (fun c => absurd rfl c)
set_option maxHeartbeats 4000000 in
set_option maxRecDepth 100000 in
theorem law_never {x : mX} {Q : mQt} {nc ns i : Nat} {S : mS} {Inv : mS → Prop} (h1 : nc ≤ 600000) (h2 : ns ≤ 7302250) (hi : i + 6 ≤ x.2.2.2.2.2.2.1) (hL : x.2.2.2.2.2.2.1 ≤ 3072) (hs : Step μX8_never μX9_never Inv S [.int (sq x (i + 1))]) (hk : ∀ S2, Inv S2 → mG x μL 2000 600000 7302250 Q nc ns E0 S2 1591 (lvL i) []) : mG x μL 2000 600000 7302250 Q nc ns E0 S 1362 (lvL i) [] := by
  obtain ⟨S1, S2, r, hc1, hc2, hI⟩ := hs
  refine mG.aload_n 2 dL_law_1362 rfl ?_
  refine law_arg 1 1 dL_law_1363 dL_law_1364 dL_law_1365 dL_law_1366 dL_law_1367 rfl (by omega) hL ?_
  refine mG.callL (S2 := S1) (as := [.int (sq x (i + 1))]) (st := []) dL_law_1368 mvX8_never wk61_19 rfl (by decide +kernel) rfl (by decide) h1 h2 (Nat.le_of_ble_eq_true rfl) hc1 ?_
  refine mG.aload_n 1 dL_law_1371 rfl ?_
  refine law_arg 1 1 dL_law_1372 dL_law_1373 dL_law_1374 dL_law_1375 dL_law_1376 rfl (by omega) hL ?_
  refine mG.callL (S2 := S2) (as := [.int (sq x (i + 1))]) (st := [.int r]) dL_law_1377 mvX9_never wk61_23 rfl (by decide +kernel) rfl (by decide) h1 h2 (Nat.le_of_ble_eq_true rfl) hc2 ?_
  exact mG.icmp_eq 1591 dL_law_1380 (by decide) (fun c => hk S2 hI) (fun c => absurd rfl c)
set_option maxHeartbeats 4000000 in
set_option maxRecDepth 100000 in
theorem law_richest {x : mX} {Q : mQt} {nc ns i : Nat} {S : mS} {Inv : mS → Prop} (h1 : nc ≤ 600000) (h2 : ns ≤ 7302250) (hi : i + 6 ≤ x.2.2.2.2.2.2.1) (hL : x.2.2.2.2.2.2.1 ≤ 3072) (hs : Step μX8_richest μX9_richest Inv S [.int (zb (sq x (i + 1)))]) (hk : ∀ S2, Inv S2 → mG x μL 2000 600000 7302250 Q nc ns E0 S2 1591 (lvL i) []) : mG x μL 2000 600000 7302250 Q nc ns E0 S 1385 (lvL i) [] := by
  obtain ⟨S1, S2, r, hc1, hc2, hI⟩ := hs
  refine mG.aload_n 2 dL_law_1385 rfl ?_
  refine law_argb 1 1 dL_law_1386 dL_law_1387 dL_law_1388 dL_law_1389 dL_law_1390 dL_law_1391 dL_law_1394 dL_law_1395 dL_law_1398 rfl (by omega) hL ?_
  refine mG.callL (S2 := S1) (as := [.int (zb (sq x (i + 1)))]) (st := []) dL_law_1399 mvX8_richest wk62_3 rfl (by decide +kernel) rfl (by decide) h1 h2 (Nat.le_of_ble_eq_true rfl) hc1 ?_
  refine mG.aload_n 1 dL_law_1402 rfl ?_
  refine law_argb 1 1 dL_law_1403 dL_law_1404 dL_law_1405 dL_law_1406 dL_law_1407 dL_law_1408 dL_law_1411 dL_law_1412 dL_law_1415 rfl (by omega) hL ?_
  refine mG.callL (S2 := S2) (as := [.int (zb (sq x (i + 1)))]) (st := [.int r]) dL_law_1416 mvX9_richest wk62_12 rfl (by decide +kernel) rfl (by decide) h1 h2 (Nat.le_of_ble_eq_true rfl) hc2 ?_
  exact mG.icmp_eq 1591 dL_law_1419 (by decide) (fun c => hk S2 hI) (fun c => absurd rfl c)
set_option maxHeartbeats 4000000 in
set_option maxRecDepth 100000 in
theorem law_whose {x : mX} {Q : mQt} {nc ns i : Nat} {S : mS} {Inv : mS → Prop} (h1 : nc ≤ 600000) (h2 : ns ≤ 7302250) (hi : i + 6 ≤ x.2.2.2.2.2.2.1) (hL : x.2.2.2.2.2.2.1 ≤ 3072) (hs : Step μX8_whose μX9_whose Inv S [.int (sq x (i + 1))]) (hk : ∀ S2, Inv S2 → mG x μL 2000 600000 7302250 Q nc ns E0 S2 1591 (lvL i) []) : mG x μL 2000 600000 7302250 Q nc ns E0 S 1424 (lvL i) [] := by
  obtain ⟨S1, S2, r, hc1, hc2, hI⟩ := hs
  refine mG.aload_n 2 dL_law_1424 rfl ?_
  refine law_arg 1 1 dL_law_1425 dL_law_1426 dL_law_1427 dL_law_1428 dL_law_1429 rfl (by omega) hL ?_
  refine mG.callL (S2 := S1) (as := [.int (sq x (i + 1))]) (st := []) dL_law_1430 mvX8_whose wk62_20 rfl (by decide +kernel) rfl (by decide) h1 h2 (Nat.le_of_ble_eq_true rfl) hc1 ?_
  refine mG.aload_n 1 dL_law_1433 rfl ?_
  refine law_arg 1 1 dL_law_1434 dL_law_1435 dL_law_1436 dL_law_1437 dL_law_1438 rfl (by omega) hL ?_
  refine mG.callL (S2 := S2) (as := [.int (sq x (i + 1))]) (st := [.int r]) dL_law_1439 mvX9_whose wk63_4 rfl (by decide +kernel) rfl (by decide) h1 h2 (Nat.le_of_ble_eq_true rfl) hc2 ?_
  exact mG.icmp_eq 1591 dL_law_1442 (by decide) (fun c => hk S2 hI) (fun c => absurd rfl c)
set_option maxHeartbeats 4000000 in
set_option maxRecDepth 100000 in
theorem law_knocks {x : mX} {Q : mQt} {nc ns i : Nat} {S : mS} {Inv : mS → Prop} (h1 : nc ≤ 600000) (h2 : ns ≤ 7302250) (hi : i + 6 ≤ x.2.2.2.2.2.2.1) (hL : x.2.2.2.2.2.2.1 ≤ 3072) (hs : Step μX8_knocks μX9_knocks Inv S [.int (sq x (i + 1)), .int (zb (sq x (i + 2)))]) (hk : ∀ S2, Inv S2 → mG x μL 2000 600000 7302250 Q nc ns E0 S2 1591 (lvL i) []) : mG x μL 2000 600000 7302250 Q nc ns E0 S 1447 (lvL i) [] := by
  obtain ⟨S1, S2, r, hc1, hc2, hI⟩ := hs
  refine mG.aload_n 2 dL_law_1447 rfl ?_
  refine law_arg 1 1 dL_law_1448 dL_law_1449 dL_law_1450 dL_law_1451 dL_law_1452 rfl (by omega) hL ?_
  refine law_argb 2 2 dL_law_1453 dL_law_1454 dL_law_1455 dL_law_1456 dL_law_1457 dL_law_1458 dL_law_1461 dL_law_1462 dL_law_1465 rfl (by omega) hL ?_
  refine mG.callL (S2 := S1) (as := [.int (sq x (i + 1)), .int (zb (sq x (i + 2)))]) (st := []) dL_law_1466 mvX8_knocks wk63_8 rfl (by decide +kernel) rfl (by decide) h1 h2 (Nat.le_of_ble_eq_true rfl) hc1 ?_
  refine mG.aload_n 1 dL_law_1469 rfl ?_
  refine law_arg 1 1 dL_law_1470 dL_law_1471 dL_law_1472 dL_law_1473 dL_law_1474 rfl (by omega) hL ?_
  refine law_argb 2 2 dL_law_1475 dL_law_1476 dL_law_1477 dL_law_1478 dL_law_1479 dL_law_1480 dL_law_1483 dL_law_1484 dL_law_1487 rfl (by omega) hL ?_
  refine mG.callL (S2 := S2) (as := [.int (sq x (i + 1)), .int (zb (sq x (i + 2)))]) (st := [.int r]) dL_law_1488 mvX9_knocks wk63_18 rfl (by decide +kernel) rfl (by decide) h1 h2 (Nat.le_of_ble_eq_true rfl) hc2 ?_
  exact mG.icmp_eq 1591 dL_law_1491 (by decide) (fun c => hk S2 hI) (fun c => absurd rfl c)
set_option maxHeartbeats 4000000 in
set_option maxRecDepth 100000 in
theorem law_offended {x : mX} {Q : mQt} {nc ns i : Nat} {S : mS} {Inv : mS → Prop} (h1 : nc ≤ 600000) (h2 : ns ≤ 7302250) (hi : i + 6 ≤ x.2.2.2.2.2.2.1) (hL : x.2.2.2.2.2.2.1 ≤ 3072) (hs : Step μX8_offended μX9_offended Inv S []) (hk : ∀ S2, Inv S2 → mG x μL 2000 600000 7302250 Q nc ns E0 S2 1591 (lvL i) []) : mG x μL 2000 600000 7302250 Q nc ns E0 S 1496 (lvL i) [] := by
  obtain ⟨S1, S2, r, hc1, hc2, hI⟩ := hs
  refine mG.aload_n 2 dL_law_1496 rfl ?_
  refine mG.callL (S2 := S1) (as := []) (st := []) dL_law_1497 mvX8_offended wk64_2 rfl (by decide +kernel) rfl (by decide) h1 h2 (Nat.le_of_ble_eq_true rfl) hc1 ?_
  refine mG.aload_n 1 dL_law_1500 rfl ?_
  refine mG.callL (S2 := S2) (as := []) (st := [.int r]) dL_law_1501 mvX9_offended wk64_6 rfl (by decide +kernel) rfl (by decide) h1 h2 (Nat.le_of_ble_eq_true rfl) hc2 ?_
  exact mG.icmp_eq 1591 dL_law_1504 (by decide) (fun c => hk S2 hI) (fun c => absurd rfl c)
set_option maxHeartbeats 4000000 in
set_option maxRecDepth 100000 in
theorem law_leap {x : mX} {Q : mQt} {nc ns i : Nat} {S : mS} {Inv : mS → Prop} (h1 : nc ≤ 600000) (h2 : ns ≤ 7302250) (hi : i + 6 ≤ x.2.2.2.2.2.2.1) (hL : x.2.2.2.2.2.2.1 ≤ 3072) (hs : Step μX8_leap μX9_leap Inv S [.int (sq x (i + 1)), .int (sq x (i + 2))]) (hk : ∀ S2, Inv S2 → mG x μL 2000 600000 7302250 Q nc ns E0 S2 1591 (lvL i) []) : mG x μL 2000 600000 7302250 Q nc ns E0 S 1509 (lvL i) [] := by
  obtain ⟨S1, S2, r, hc1, hc2, hI⟩ := hs
  refine mG.aload_n 2 dL_law_1509 rfl ?_
  refine law_arg 1 1 dL_law_1510 dL_law_1511 dL_law_1512 dL_law_1513 dL_law_1514 rfl (by omega) hL ?_
  refine law_arg 2 2 dL_law_1515 dL_law_1516 dL_law_1517 dL_law_1518 dL_law_1519 rfl (by omega) hL ?_
  refine mG.callL (S2 := S1) (as := [.int (sq x (i + 1)), .int (sq x (i + 2))]) (st := []) dL_law_1520 mvX8_leap wk64_10 rfl (by decide +kernel) rfl (by decide) h1 h2 (Nat.le_of_ble_eq_true rfl) hc1 ?_
  refine mG.aload_n 1 dL_law_1523 rfl ?_
  refine law_arg 1 1 dL_law_1524 dL_law_1525 dL_law_1526 dL_law_1527 dL_law_1528 rfl (by omega) hL ?_
  refine law_arg 2 2 dL_law_1529 dL_law_1530 dL_law_1531 dL_law_1532 dL_law_1533 rfl (by omega) hL ?_
  refine mG.callL (S2 := S2) (as := [.int (sq x (i + 1)), .int (sq x (i + 2))]) (st := [.int r]) dL_law_1534 mvX9_leap wk64_14 rfl (by decide +kernel) rfl (by decide) h1 h2 (Nat.le_of_ble_eq_true rfl) hc2 ?_
  exact mG.icmp_eq 1591 dL_law_1537 (by decide) (fun c => hk S2 hI) (fun c => absurd rfl c)
set_option maxHeartbeats 4000000 in
set_option maxRecDepth 100000 in
theorem law_image {x : mX} {Q : mQt} {nc ns i : Nat} {S : mS} {Inv : mS → Prop} (h1 : nc ≤ 600000) (h2 : ns ≤ 7302250) (hi : i + 6 ≤ x.2.2.2.2.2.2.1) (hL : x.2.2.2.2.2.2.1 ≤ 3072) (hs : Step μX8_image μX9_image Inv S []) (hk : ∀ S2, Inv S2 → mG x μL 2000 600000 7302250 Q nc ns E0 S2 1591 (lvL i) []) : mG x μL 2000 600000 7302250 Q nc ns E0 S 1542 (lvL i) [] := by
  obtain ⟨S1, S2, r, hc1, hc2, hI⟩ := hs
  refine mG.aload_n 2 dL_law_1542 rfl ?_
  refine mG.callL (S2 := S1) (as := []) (st := []) dL_law_1543 mvX8_image wk64_21 rfl (by decide +kernel) rfl (by decide) h1 h2 (Nat.le_of_ble_eq_true rfl) hc1 ?_
  refine mG.aload_n 1 dL_law_1546 rfl ?_
  refine mG.callL (S2 := S2) (as := []) (st := [.int r]) dL_law_1547 mvX9_image wk65_8 rfl (by decide +kernel) rfl (by decide) h1 h2 (Nat.le_of_ble_eq_true rfl) hc2 ?_
  exact mG.icmp_eq 1591 dL_law_1550 (by decide) (fun c => hk S2 hI) (fun c => absurd rfl c)
set_option maxHeartbeats 4000000 in
set_option maxRecDepth 100000 in
theorem law_back {x : mX} {Q : mQt} {nc ns i : Nat} {S : mS} {Inv : mS → Prop} (h1 : nc ≤ 600000) (h2 : ns ≤ 7302250) (hi : i + 6 ≤ x.2.2.2.2.2.2.1) (hL : x.2.2.2.2.2.2.1 ≤ 3072) (hs : Step μX8_back μX9_back Inv S []) (hk : ∀ S2, Inv S2 → mG x μL 2000 600000 7302250 Q nc ns E0 S2 1591 (lvL i) []) : mG x μL 2000 600000 7302250 Q nc ns E0 S 1555 (lvL i) [] := by
  obtain ⟨S1, S2, r, hc1, hc2, hI⟩ := hs
  refine mG.aload_n 2 dL_law_1555 rfl ?_
  refine mG.callL (S2 := S1) (as := []) (st := []) dL_law_1556 mvX8_back wk65_12 rfl (by decide +kernel) rfl (by decide) h1 h2 (Nat.le_of_ble_eq_true rfl) hc1 ?_
  refine mG.aload_n 1 dL_law_1559 rfl ?_
  refine mG.callL (S2 := S2) (as := []) (st := [.int r]) dL_law_1560 mvX9_back wk65_16 rfl (by decide +kernel) rfl (by decide) h1 h2 (Nat.le_of_ble_eq_true rfl) hc2 ?_
  exact mG.icmp_eq 1591 dL_law_1563 (by decide) (fun c => hk S2 hI) (fun c => absurd rfl c)
set_option maxHeartbeats 4000000 in
set_option maxRecDepth 100000 in
theorem law_about {x : mX} {Q : mQt} {nc ns i : Nat} {S : mS} {Inv : mS → Prop} (h1 : nc ≤ 600000) (h2 : ns ≤ 7302250) (hi : i + 6 ≤ x.2.2.2.2.2.2.1) (hL : x.2.2.2.2.2.2.1 ≤ 3072) (hs : Step μX8_about μX9_about Inv S [.int (sq x (i + 1))]) (hk : ∀ S2, Inv S2 → mG x μL 2000 600000 7302250 Q nc ns E0 S2 1591 (lvL i) []) : mG x μL 2000 600000 7302250 Q nc ns E0 S 1568 (lvL i) [] := by
  obtain ⟨S1, S2, r, hc1, hc2, hI⟩ := hs
  refine mG.aload_n 2 dL_law_1568 rfl ?_
  refine law_arg 1 1 dL_law_1569 dL_law_1570 dL_law_1571 dL_law_1572 dL_law_1573 rfl (by omega) hL ?_
  refine mG.callL (S2 := S1) (as := [.int (sq x (i + 1))]) (st := []) dL_law_1574 mvX8_about wk65_20 rfl (by decide +kernel) rfl (by decide) h1 h2 (Nat.le_of_ble_eq_true rfl) hc1 ?_
  refine mG.aload_n 1 dL_law_1577 rfl ?_
  refine law_arg 1 1 dL_law_1578 dL_law_1579 dL_law_1580 dL_law_1581 dL_law_1582 rfl (by omega) hL ?_
  refine mG.callL (S2 := S2) (as := [.int (sq x (i + 1))]) (st := [.int r]) dL_law_1583 mvX9_about wk66_1 rfl (by decide +kernel) rfl (by decide) h1 h2 (Nat.le_of_ble_eq_true rfl) hc2 ?_
  exact mG.icmp_eq 1591 dL_law_1586 (by decide) (fun c => hk S2 hI) (fun c => absurd rfl c)
def Steps0 (Inv : mS → Prop) : Prop := (∀ S, Inv S → ∀ a1 a2 a3 a4 a5, Step μX8_house μX9_house Inv S [.int a1, .int a2, .int a3, .int a4, .int a5]) ∧ (∀ S, Inv S → ∀ a1 a2 a3 a4 a5, Step μX8_feed μX9_feed Inv S [.int a1, .int a2, .int a3, .int a4, .int a5]) ∧ (∀ S, Inv S → ∀ a1, Step μX8_end μX9_end Inv S [.int a1]) ∧ (∀ S, Inv S → Step μX8_text μX9_text Inv S []) ∧ (∀ S, Inv S → ∀ a1, Step μX8_fault μX9_fault Inv S [.int a1]) ∧ (∀ S, Inv S → ∀ a1, Step μX8_by μX9_by Inv S [.int a1]) ∧ (∀ S, Inv S → ∀ a1, Step μX8_knock μX9_knock Inv S [.int a1]) ∧ (∀ S, Inv S → ∀ a1 a2, Step μX8_marry μX9_marry Inv S [.int a1, .int a2]) ∧ (∀ S, Inv S → ∀ a1, Step μX8_hat μX9_hat Inv S [.int a1]) ∧ (∀ S, Inv S → ∀ a1 a2, Step μX8_forget μX9_forget Inv S [.int a1, .int a2]) ∧ (∀ S, Inv S → ∀ a1, Step μX8_day μX9_day Inv S [.int a1]) ∧ (∀ S, Inv S → ∀ a1, Step μX8_played μX9_played Inv S [.int a1]) ∧ (∀ S, Inv S → ∀ a1 a2, Step μX8_years μX9_years Inv S [.int a1, .int a2]) ∧ (∀ S, Inv S → Step μX8_undo μX9_undo Inv S []) ∧ (∀ S, Inv S → ∀ a1 a2, Step μX8_of μX9_of Inv S [.int a1, .int a2])
def Steps1 (Inv : mS → Prop) : Prop := (∀ S, Inv S → ∀ a1, Step μX8_is μX9_is Inv S [.int a1]) ∧ (∀ S, Inv S → ∀ a1 a2, Step μX8_book μX9_book Inv S [.int a1, .int a2]) ∧ (∀ S, Inv S → ∀ a1 a2, Step μX8_foretold μX9_foretold Inv S [.int a1, .int a2]) ∧ (∀ S, Inv S → ∀ a1, Step μX8_indoors μX9_indoors Inv S [.int a1]) ∧ (∀ S, Inv S → ∀ a1, Step μX8_crowded μX9_crowded Inv S [.int (zb a1)]) ∧ (∀ S, Inv S → ∀ a1, Step μX8_feast μX9_feast Inv S [.int (zb a1)]) ∧ (∀ S, Inv S → Step μX8_alone μX9_alone Inv S []) ∧ (∀ S, Inv S → Step μX8_nobodys μX9_nobodys Inv S []) ∧ (∀ S, Inv S → ∀ a1, Step μX8_poorest μX9_poorest Inv S [.int a1]) ∧ (∀ S, Inv S → ∀ a1 a2 a3, Step μX8_seen μX9_seen Inv S [.int a1, .int a2, .int (zb a3)]) ∧ (∀ S, Inv S → ∀ a1 a2 a3, Step μX8_sets μX9_sets Inv S [.int a1, .int a2, .int (zb a3)]) ∧ (∀ S, Inv S → ∀ a1 a2 a3 a4, Step μX8_odds μX9_odds Inv S [.int a1, .int a2, .int a3, .int (zb a4)]) ∧ (∀ S, Inv S → ∀ a1 a2, Step μX8_nextKnock μX9_nextKnock Inv S [.int a1, .int a2]) ∧ (∀ S, Inv S → ∀ a1 a2 a3, Step μX8_thieves μX9_thieves Inv S [.int a1, .int a2, .int (zb a3)]) ∧ (∀ S, Inv S → ∀ a1, Step μX8_night μX9_night Inv S [.int a1])
def Steps2 (Inv : mS → Prop) : Prop := (∀ S, Inv S → ∀ a1 a2, Step μX8_appointments μX9_appointments Inv S [.int a1, .int a2]) ∧ (∀ S, Inv S → Step μX8_rounds μX9_rounds Inv S []) ∧ (∀ S, Inv S → ∀ a1, Step μX8_weddings μX9_weddings Inv S [.int a1]) ∧ (∀ S, Inv S → Step μX8_twins μX9_twins Inv S []) ∧ (∀ S, Inv S → ∀ a1 a2, Step μX8_gossip μX9_gossip Inv S [.int a1, .int a2]) ∧ (∀ S, Inv S → ∀ a1 a2, Step μX8_knows μX9_knows Inv S [.int a1, .int a2]) ∧ (∀ S, Inv S → ∀ a1, Step μX8_never μX9_never Inv S [.int a1]) ∧ (∀ S, Inv S → ∀ a1, Step μX8_richest μX9_richest Inv S [.int (zb a1)]) ∧ (∀ S, Inv S → ∀ a1, Step μX8_whose μX9_whose Inv S [.int a1]) ∧ (∀ S, Inv S → ∀ a1 a2, Step μX8_knocks μX9_knocks Inv S [.int a1, .int (zb a2)]) ∧ (∀ S, Inv S → Step μX8_offended μX9_offended Inv S []) ∧ (∀ S, Inv S → ∀ a1 a2, Step μX8_leap μX9_leap Inv S [.int a1, .int a2]) ∧ (∀ S, Inv S → Step μX8_image μX9_image Inv S []) ∧ (∀ S, Inv S → Step μX8_back μX9_back Inv S []) ∧ (∀ S, Inv S → ∀ a1, Step μX8_about μX9_about Inv S [.int a1])
def AllSteps (Inv : mS → Prop) : Prop := Steps0 Inv ∧ Steps1 Inv ∧ Steps2 Inv
theorem and63 (v : Int32) : ∃ j : Nat, j < 64 ∧ v &&& 63 = nI j := pk_andE v (m := 63) 6 (by decide)
set_option maxHeartbeats 8000000 in
set_option maxRecDepth 100000 in
theorem law_body {x : mX} {Q : mQt} {nc ns i : Nat} {S : mS} {Inv : mS → Prop} (h1 : nc ≤ 600000) (h2 : ns ≤ 7302250) (hi : i + 6 ≤ x.2.2.2.2.2.2.1) (hL : x.2.2.2.2.2.2.1 ≤ 3072) (hI : Inv S) (ha : AllSteps Inv) (hk : ∀ S2, Inv S2 → mG x μL 2000 600000 7302250 Q nc ns E0 S2 1591 (lvL i) []) : mG x μL 2000 600000 7302250 Q nc ns E0 S 27 (lvL i) [] := by
  refine mG.sload_n 3 dL_law_27 rfl ?_
  refine mG.iload_n 0 dL_law_28 rfl ?_
  refine mG.scrLd dL_law_29 (vp_in_nI (by omega) (by omega)) ?_
  refine mG.bipush (v := 63) dL_law_30 (by decide) ?_
  refine mG.iand dL_law_32 ?_
  obtain ⟨j, hj, ej⟩ := and63 (sq x (nI i).toNatClampNeg)
  refine mG.top ej ?_
  by_cases hj2 : 45 ≤ j
  · refine mG.tblOut 1591 dL_law_33 (Or.inr (by rw [nI_toInt (by omega)]; omega)) (by decide) ?_
    exact hk S hI
  by_cases e0 : j = 0
  · subst e0
    refine mG.tblIn (195) 228 dL_law_33 (by decide) (by decide) (by decide) (by decide) ?_
    exact law_house h1 h2 hi hL (ha.1.1 S hI _ _ _ _ _) hk
  by_cases e1 : j = 1
  · subst e1
    refine mG.tblIn (258) 291 dL_law_33 (by decide) (by decide) (by decide) (by decide) ?_
    exact law_feed h1 h2 hi hL (ha.1.2.1 S hI _ _ _ _ _) hk
  by_cases e2 : j = 2
  · subst e2
    refine mG.tblIn (321) 354 dL_law_33 (by decide) (by decide) (by decide) (by decide) ?_
    exact law_end h1 h2 hi hL (ha.1.2.2.1 S hI _) hk
  by_cases e3 : j = 3
  · subst e3
    refine mG.tblIn (344) 377 dL_law_33 (by decide) (by decide) (by decide) (by decide) ?_
    exact law_text h1 h2 hi hL (ha.1.2.2.2.1 S hI) hk
  by_cases e4 : j = 4
  · subst e4
    refine mG.tblIn (357) 390 dL_law_33 (by decide) (by decide) (by decide) (by decide) ?_
    exact law_fault h1 h2 hi hL (ha.1.2.2.2.2.1 S hI _) hk
  by_cases e5 : j = 5
  · subst e5
    refine mG.tblIn (380) 413 dL_law_33 (by decide) (by decide) (by decide) (by decide) ?_
    exact law_by h1 h2 hi hL (ha.1.2.2.2.2.2.1 S hI _) hk
  by_cases e6 : j = 6
  · subst e6
    refine mG.tblIn (403) 436 dL_law_33 (by decide) (by decide) (by decide) (by decide) ?_
    exact law_knock h1 h2 hi hL (ha.1.2.2.2.2.2.2.1 S hI _) hk
  by_cases e7 : j = 7
  · subst e7
    refine mG.tblIn (426) 459 dL_law_33 (by decide) (by decide) (by decide) (by decide) ?_
    exact law_marry h1 h2 hi hL (ha.1.2.2.2.2.2.2.2.1 S hI _ _) hk
  by_cases e8 : j = 8
  · subst e8
    refine mG.tblIn (459) 492 dL_law_33 (by decide) (by decide) (by decide) (by decide) ?_
    exact law_hat h1 h2 hi hL (ha.1.2.2.2.2.2.2.2.2.1 S hI _) hk
  by_cases e9 : j = 9
  · subst e9
    refine mG.tblIn (482) 515 dL_law_33 (by decide) (by decide) (by decide) (by decide) ?_
    exact law_forget h1 h2 hi hL (ha.1.2.2.2.2.2.2.2.2.2.1 S hI _ _) hk
  by_cases e10 : j = 10
  · subst e10
    refine mG.tblIn (515) 548 dL_law_33 (by decide) (by decide) (by decide) (by decide) ?_
    exact law_day h1 h2 hi hL (ha.1.2.2.2.2.2.2.2.2.2.2.1 S hI _) hk
  by_cases e11 : j = 11
  · subst e11
    refine mG.tblIn (538) 571 dL_law_33 (by decide) (by decide) (by decide) (by decide) ?_
    exact law_played h1 h2 hi hL (ha.1.2.2.2.2.2.2.2.2.2.2.2.1 S hI _) hk
  by_cases e12 : j = 12
  · subst e12
    refine mG.tblIn (561) 594 dL_law_33 (by decide) (by decide) (by decide) (by decide) ?_
    exact law_years h1 h2 hi hL (ha.1.2.2.2.2.2.2.2.2.2.2.2.2.1 S hI _ _) hk
  by_cases e13 : j = 13
  · subst e13
    refine mG.tblIn (594) 627 dL_law_33 (by decide) (by decide) (by decide) (by decide) ?_
    exact law_undo h1 h2 hi hL (ha.1.2.2.2.2.2.2.2.2.2.2.2.2.2.1 S hI) hk
  by_cases e14 : j = 14
  · subst e14
    refine mG.tblIn (607) 640 dL_law_33 (by decide) (by decide) (by decide) (by decide) ?_
    exact law_of h1 h2 hi hL (ha.1.2.2.2.2.2.2.2.2.2.2.2.2.2.2 S hI _ _) hk
  by_cases e15 : j = 15
  · subst e15
    refine mG.tblIn (640) 673 dL_law_33 (by decide) (by decide) (by decide) (by decide) ?_
    exact law_is h1 h2 hi hL (ha.2.1.1 S hI _) hk
  by_cases e16 : j = 16
  · subst e16
    refine mG.tblIn (663) 696 dL_law_33 (by decide) (by decide) (by decide) (by decide) ?_
    exact law_book h1 h2 hi hL (ha.2.1.2.1 S hI _ _) hk
  by_cases e17 : j = 17
  · subst e17
    refine mG.tblIn (696) 729 dL_law_33 (by decide) (by decide) (by decide) (by decide) ?_
    exact law_foretold h1 h2 hi hL (ha.2.1.2.2.1 S hI _ _) hk
  by_cases e18 : j = 18
  · subst e18
    refine mG.tblIn (729) 762 dL_law_33 (by decide) (by decide) (by decide) (by decide) ?_
    exact law_indoors h1 h2 hi hL (ha.2.1.2.2.2.1 S hI _) hk
  by_cases e19 : j = 19
  · subst e19
    refine mG.tblIn (752) 785 dL_law_33 (by decide) (by decide) (by decide) (by decide) ?_
    exact law_crowded h1 h2 hi hL (ha.2.1.2.2.2.2.1 S hI _) hk
  by_cases e20 : j = 20
  · subst e20
    refine mG.tblIn (791) 824 dL_law_33 (by decide) (by decide) (by decide) (by decide) ?_
    exact law_feast h1 h2 hi hL (ha.2.1.2.2.2.2.2.1 S hI _) hk
  by_cases e21 : j = 21
  · subst e21
    refine mG.tblIn (830) 863 dL_law_33 (by decide) (by decide) (by decide) (by decide) ?_
    exact law_alone h1 h2 hi hL (ha.2.1.2.2.2.2.2.2.1 S hI) hk
  by_cases e22 : j = 22
  · subst e22
    refine mG.tblIn (843) 876 dL_law_33 (by decide) (by decide) (by decide) (by decide) ?_
    exact law_nobodys h1 h2 hi hL (ha.2.1.2.2.2.2.2.2.2.1 S hI) hk
  by_cases e23 : j = 23
  · subst e23
    refine mG.tblIn (856) 889 dL_law_33 (by decide) (by decide) (by decide) (by decide) ?_
    exact law_poorest h1 h2 hi hL (ha.2.1.2.2.2.2.2.2.2.2.1 S hI _) hk
  by_cases e24 : j = 24
  · subst e24
    refine mG.tblIn (879) 912 dL_law_33 (by decide) (by decide) (by decide) (by decide) ?_
    exact law_seen h1 h2 hi hL (ha.2.1.2.2.2.2.2.2.2.2.2.1 S hI _ _ _) hk
  by_cases e25 : j = 25
  · subst e25
    refine mG.tblIn (938) 971 dL_law_33 (by decide) (by decide) (by decide) (by decide) ?_
    exact law_sets h1 h2 hi hL (ha.2.1.2.2.2.2.2.2.2.2.2.2.1 S hI _ _ _) hk
  by_cases e26 : j = 26
  · subst e26
    refine mG.tblIn (997) 1030 dL_law_33 (by decide) (by decide) (by decide) (by decide) ?_
    exact law_odds h1 h2 hi hL (ha.2.1.2.2.2.2.2.2.2.2.2.2.2.1 S hI _ _ _ _) hk
  by_cases e27 : j = 27
  · subst e27
    refine mG.tblIn (1066) 1099 dL_law_33 (by decide) (by decide) (by decide) (by decide) ?_
    exact law_nextKnock h1 h2 hi hL (ha.2.1.2.2.2.2.2.2.2.2.2.2.2.2.1 S hI _ _) hk
  by_cases e28 : j = 28
  · subst e28
    refine mG.tblIn (1099) 1132 dL_law_33 (by decide) (by decide) (by decide) (by decide) ?_
    exact law_thieves h1 h2 hi hL (ha.2.1.2.2.2.2.2.2.2.2.2.2.2.2.2.1 S hI _ _ _) hk
  by_cases e29 : j = 29
  · subst e29
    refine mG.tblIn (1158) 1191 dL_law_33 (by decide) (by decide) (by decide) (by decide) ?_
    exact law_night h1 h2 hi hL (ha.2.1.2.2.2.2.2.2.2.2.2.2.2.2.2.2 S hI _) hk
  by_cases e30 : j = 30
  · subst e30
    refine mG.tblIn (1181) 1214 dL_law_33 (by decide) (by decide) (by decide) (by decide) ?_
    exact law_appointments h1 h2 hi hL (ha.2.2.1 S hI _ _) hk
  by_cases e31 : j = 31
  · subst e31
    refine mG.tblIn (1214) 1247 dL_law_33 (by decide) (by decide) (by decide) (by decide) ?_
    exact law_rounds h1 h2 hi hL (ha.2.2.2.1 S hI) hk
  by_cases e32 : j = 32
  · subst e32
    refine mG.tblIn (1227) 1260 dL_law_33 (by decide) (by decide) (by decide) (by decide) ?_
    exact law_weddings h1 h2 hi hL (ha.2.2.2.2.1 S hI _) hk
  by_cases e33 : j = 33
  · subst e33
    refine mG.tblIn (1250) 1283 dL_law_33 (by decide) (by decide) (by decide) (by decide) ?_
    exact law_twins h1 h2 hi hL (ha.2.2.2.2.2.1 S hI) hk
  by_cases e34 : j = 34
  · subst e34
    refine mG.tblIn (1263) 1296 dL_law_33 (by decide) (by decide) (by decide) (by decide) ?_
    exact law_gossip h1 h2 hi hL (ha.2.2.2.2.2.2.1 S hI _ _) hk
  by_cases e35 : j = 35
  · subst e35
    refine mG.tblIn (1296) 1329 dL_law_33 (by decide) (by decide) (by decide) (by decide) ?_
    exact law_knows h1 h2 hi hL (ha.2.2.2.2.2.2.2.1 S hI _ _) hk
  by_cases e36 : j = 36
  · subst e36
    refine mG.tblIn (1329) 1362 dL_law_33 (by decide) (by decide) (by decide) (by decide) ?_
    exact law_never h1 h2 hi hL (ha.2.2.2.2.2.2.2.2.1 S hI _) hk
  by_cases e37 : j = 37
  · subst e37
    refine mG.tblIn (1352) 1385 dL_law_33 (by decide) (by decide) (by decide) (by decide) ?_
    exact law_richest h1 h2 hi hL (ha.2.2.2.2.2.2.2.2.2.1 S hI _) hk
  by_cases e38 : j = 38
  · subst e38
    refine mG.tblIn (1391) 1424 dL_law_33 (by decide) (by decide) (by decide) (by decide) ?_
    exact law_whose h1 h2 hi hL (ha.2.2.2.2.2.2.2.2.2.2.1 S hI _) hk
  by_cases e39 : j = 39
  · subst e39
    refine mG.tblIn (1414) 1447 dL_law_33 (by decide) (by decide) (by decide) (by decide) ?_
    exact law_knocks h1 h2 hi hL (ha.2.2.2.2.2.2.2.2.2.2.2.1 S hI _ _) hk
  by_cases e40 : j = 40
  · subst e40
    refine mG.tblIn (1463) 1496 dL_law_33 (by decide) (by decide) (by decide) (by decide) ?_
    exact law_offended h1 h2 hi hL (ha.2.2.2.2.2.2.2.2.2.2.2.2.1 S hI) hk
  by_cases e41 : j = 41
  · subst e41
    refine mG.tblIn (1476) 1509 dL_law_33 (by decide) (by decide) (by decide) (by decide) ?_
    exact law_leap h1 h2 hi hL (ha.2.2.2.2.2.2.2.2.2.2.2.2.2.1 S hI _ _) hk
  by_cases e42 : j = 42
  · subst e42
    refine mG.tblIn (1509) 1542 dL_law_33 (by decide) (by decide) (by decide) (by decide) ?_
    exact law_image h1 h2 hi hL (ha.2.2.2.2.2.2.2.2.2.2.2.2.2.2.1 S hI) hk
  by_cases e43 : j = 43
  · subst e43
    refine mG.tblIn (1522) 1555 dL_law_33 (by decide) (by decide) (by decide) (by decide) ?_
    exact law_back h1 h2 hi hL (ha.2.2.2.2.2.2.2.2.2.2.2.2.2.2.2.1 S hI) hk
  by_cases e44 : j = 44
  · subst e44
    refine mG.tblIn (1535) 1568 dL_law_33 (by decide) (by decide) (by decide) (by decide) ?_
    exact law_about h1 h2 hi hL (ha.2.2.2.2.2.2.2.2.2.2.2.2.2.2.2.2 S hI _) hk
  omega
