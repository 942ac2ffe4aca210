theorem dL_law_0 : decode cL_law 0 = .ok (.new 7, 3) := by decide +kernel
theorem dL_law_3 : decode cL_law 3 = .ok (.dup, 1) := by decide +kernel
theorem dL_law_4 : decode cL_law 4 = .ok (.invokespecial 9, 3) := by decide +kernel
theorem dL_law_7 : decode cL_law 7 = .ok (.astore_n 1, 1) := by decide +kernel
theorem dL_law_8 : decode cL_law 8 = .ok (.new 10, 3) := by decide +kernel
theorem dL_law_11 : decode cL_law 11 = .ok (.dup, 1) := by decide +kernel
theorem dL_law_12 : decode cL_law 12 = .ok (.invokespecial 12, 3) := by decide +kernel
theorem dL_law_15 : decode cL_law 15 = .ok (.astore_n 2, 1) := by decide +kernel
theorem dL_law_16 : decode cL_law 16 = .ok (.iconst 0, 1) := by decide +kernel
theorem dL_law_17 : decode cL_law 17 = .ok (.istore_n 3, 1) := by decide +kernel
theorem dL_law_18 : decode cL_law 18 = .ok (.iload_n 3, 1) := by decide +kernel
theorem dL_law_19 : decode cL_law 19 = .ok (.aload_n 0, 1) := by decide +kernel
theorem dL_law_20 : decode cL_law 20 = .ok (.arraylength, 1) := by decide +kernel
theorem dL_law_21 : decode cL_law 21 = .ok (.iconst 5, 1) := by decide +kernel
theorem dL_law_22 : decode cL_law 22 = .ok (.isub, 1) := by decide +kernel
theorem dL_law_23 : decode cL_law 23 = .ok (.if_icmp .gt 1240, 3) := by decide +kernel
theorem dL_law_26 : decode cL_law 26 = .ok (.aload_n 0, 1) := by decide +kernel
theorem dL_law_27 : decode cL_law 27 = .ok (.iload_n 3, 1) := by decide +kernel
theorem dL_law_28 : decode cL_law 28 = .ok (.iaload, 1) := by decide +kernel
theorem dL_law_29 : decode cL_law 29 = .ok (.bipush 63, 2) := by decide +kernel
theorem dL_law_31 : decode cL_law 31 = .ok (.iand, 1) := by decide +kernel
theorem dL_law_32 : decode cL_law 32 = .ok (.tableswitch 1225 0 36 #[164, 217, 240, 253, 266, 299, 332, 365, 398, 421, 454, 477, 500, 523, 546, 599, 632, 645, 678, 711, 734, 777, 810, 833, 856, 889, 912, 935, 958, 991, 1014, 1027, 1050, 1093, 1136, 1189, 1202], 164) := by decide +kernel
theorem dL_law_196 : decode cL_law 196 = .ok (.aload_n 1, 1) := by decide +kernel
theorem dL_law_197 : decode cL_law 197 = .ok (.aload_n 0, 1) := by decide +kernel
theorem dL_law_198 : decode cL_law 198 = .ok (.iload_n 3, 1) := by decide +kernel
theorem dL_law_199 : decode cL_law 199 = .ok (.iconst 1, 1) := by decide +kernel
theorem dL_law_200 : decode cL_law 200 = .ok (.iadd, 1) := by decide +kernel
theorem dL_law_201 : decode cL_law 201 = .ok (.iaload, 1) := by decide +kernel
theorem dL_law_202 : decode cL_law 202 = .ok (.i2l, 1) := by decide +kernel
theorem dL_law_203 : decode cL_law 203 = .ok (.bipush 32, 2) := by decide +kernel
theorem dL_law_205 : decode cL_law 205 = .ok (.lshl, 1) := by decide +kernel
theorem dL_law_206 : decode cL_law 206 = .ok (.aload_n 0, 1) := by decide +kernel
theorem dL_law_207 : decode cL_law 207 = .ok (.iload_n 3, 1) := by decide +kernel
theorem dL_law_208 : decode cL_law 208 = .ok (.iconst 2, 1) := by decide +kernel
theorem dL_law_209 : decode cL_law 209 = .ok (.iadd, 1) := by decide +kernel
theorem dL_law_210 : decode cL_law 210 = .ok (.iaload, 1) := by decide +kernel
theorem dL_law_211 : decode cL_law 211 = .ok (.i2l, 1) := by decide +kernel
theorem dL_law_212 : decode cL_law 212 = .ok (.ldc2_w 13, 3) := by decide +kernel
theorem dL_law_215 : decode cL_law 215 = .ok (.land, 1) := by decide +kernel
theorem dL_law_216 : decode cL_law 216 = .ok (.lor, 1) := by decide +kernel
theorem dL_law_217 : decode cL_law 217 = .ok (.invokevirtual 15, 3) := by decide +kernel
theorem dL_law_220 : decode cL_law 220 = .ok (.aload_n 2, 1) := by decide +kernel
theorem dL_law_221 : decode cL_law 221 = .ok (.aload_n 0, 1) := by decide +kernel
theorem dL_law_222 : decode cL_law 222 = .ok (.iload_n 3, 1) := by decide +kernel
theorem dL_law_223 : decode cL_law 223 = .ok (.iconst 1, 1) := by decide +kernel
theorem dL_law_224 : decode cL_law 224 = .ok (.iadd, 1) := by decide +kernel
theorem dL_law_225 : decode cL_law 225 = .ok (.iaload, 1) := by decide +kernel
theorem dL_law_226 : decode cL_law 226 = .ok (.i2l, 1) := by decide +kernel
theorem dL_law_227 : decode cL_law 227 = .ok (.bipush 32, 2) := by decide +kernel
theorem dL_law_229 : decode cL_law 229 = .ok (.lshl, 1) := by decide +kernel
theorem dL_law_230 : decode cL_law 230 = .ok (.aload_n 0, 1) := by decide +kernel
theorem dL_law_231 : decode cL_law 231 = .ok (.iload_n 3, 1) := by decide +kernel
theorem dL_law_232 : decode cL_law 232 = .ok (.iconst 2, 1) := by decide +kernel
theorem dL_law_233 : decode cL_law 233 = .ok (.iadd, 1) := by decide +kernel
theorem dL_law_234 : decode cL_law 234 = .ok (.iaload, 1) := by decide +kernel
theorem dL_law_235 : decode cL_law 235 = .ok (.i2l, 1) := by decide +kernel
theorem dL_law_236 : decode cL_law 236 = .ok (.ldc2_w 13, 3) := by decide +kernel
theorem dL_law_239 : decode cL_law 239 = .ok (.land, 1) := by decide +kernel
theorem dL_law_240 : decode cL_law 240 = .ok (.lor, 1) := by decide +kernel
theorem dL_law_241 : decode cL_law 241 = .ok (.invokevirtual 19, 3) := by decide +kernel
theorem dL_law_244 : decode cL_law 244 = .ok (.if_icmp .eq 1013, 3) := by decide +kernel
theorem dL_law_247 : decode cL_law 247 = .ok (.iconst 0, 1) := by decide +kernel
theorem dL_law_248 : decode cL_law 248 = .ok (.ireturn, 1) := by decide +kernel
theorem dL_law_249 : decode cL_law 249 = .ok (.aload_n 1, 1) := by decide +kernel
theorem dL_law_250 : decode cL_law 250 = .ok (.aload_n 0, 1) := by decide +kernel
theorem dL_law_251 : decode cL_law 251 = .ok (.iload_n 3, 1) := by decide +kernel
theorem dL_law_252 : decode cL_law 252 = .ok (.iconst 1, 1) := by decide +kernel
theorem dL_law_253 : decode cL_law 253 = .ok (.iadd, 1) := by decide +kernel
theorem dL_law_254 : decode cL_law 254 = .ok (.iaload, 1) := by decide +kernel
theorem dL_law_255 : decode cL_law 255 = .ok (.invokevirtual 20, 3) := by decide +kernel
theorem dL_law_258 : decode cL_law 258 = .ok (.aload_n 2, 1) := by decide +kernel
theorem dL_law_259 : decode cL_law 259 = .ok (.aload_n 0, 1) := by decide +kernel
theorem dL_law_260 : decode cL_law 260 = .ok (.iload_n 3, 1) := by decide +kernel
theorem dL_law_261 : decode cL_law 261 = .ok (.iconst 1, 1) := by decide +kernel
theorem dL_law_262 : decode cL_law 262 = .ok (.iadd, 1) := by decide +kernel
theorem dL_law_263 : decode cL_law 263 = .ok (.iaload, 1) := by decide +kernel
theorem dL_law_264 : decode cL_law 264 = .ok (.invokevirtual 24, 3) := by decide +kernel
theorem dL_law_267 : decode cL_law 267 = .ok (.if_icmp .eq 990, 3) := by decide +kernel
theorem dL_law_270 : decode cL_law 270 = .ok (.iconst 0, 1) := by decide +kernel
theorem dL_law_271 : decode cL_law 271 = .ok (.ireturn, 1) := by decide +kernel
theorem dL_law_272 : decode cL_law 272 = .ok (.aload_n 1, 1) := by decide +kernel
theorem dL_law_273 : decode cL_law 273 = .ok (.invokevirtual 25, 3) := by decide +kernel
theorem dL_law_276 : decode cL_law 276 = .ok (.aload_n 2, 1) := by decide +kernel
theorem dL_law_277 : decode cL_law 277 = .ok (.invokevirtual 29, 3) := by decide +kernel
theorem dL_law_280 : decode cL_law 280 = .ok (.if_icmp .eq 977, 3) := by decide +kernel
theorem dL_law_283 : decode cL_law 283 = .ok (.iconst 0, 1) := by decide +kernel
theorem dL_law_284 : decode cL_law 284 = .ok (.ireturn, 1) := by decide +kernel
theorem dL_law_285 : decode cL_law 285 = .ok (.aload_n 1, 1) := by decide +kernel
theorem dL_law_286 : decode cL_law 286 = .ok (.invokevirtual 30, 3) := by decide +kernel
theorem dL_law_289 : decode cL_law 289 = .ok (.aload_n 2, 1) := by decide +kernel
theorem dL_law_290 : decode cL_law 290 = .ok (.invokevirtual 33, 3) := by decide +kernel
theorem dL_law_293 : decode cL_law 293 = .ok (.if_icmp .eq 964, 3) := by decide +kernel
theorem dL_law_296 : decode cL_law 296 = .ok (.iconst 0, 1) := by decide +kernel
theorem dL_law_297 : decode cL_law 297 = .ok (.ireturn, 1) := by decide +kernel
theorem dL_law_298 : decode cL_law 298 = .ok (.aload_n 1, 1) := by decide +kernel
theorem dL_law_299 : decode cL_law 299 = .ok (.aload_n 0, 1) := by decide +kernel
theorem dL_law_300 : decode cL_law 300 = .ok (.iload_n 3, 1) := by decide +kernel
theorem dL_law_301 : decode cL_law 301 = .ok (.iconst 1, 1) := by decide +kernel
theorem dL_law_302 : decode cL_law 302 = .ok (.iadd, 1) := by decide +kernel
theorem dL_law_303 : decode cL_law 303 = .ok (.iaload, 1) := by decide +kernel
theorem dL_law_304 : decode cL_law 304 = .ok (.aload_n 0, 1) := by decide +kernel
theorem dL_law_305 : decode cL_law 305 = .ok (.iload_n 3, 1) := by decide +kernel
theorem dL_law_306 : decode cL_law 306 = .ok (.iconst 2, 1) := by decide +kernel
theorem dL_law_307 : decode cL_law 307 = .ok (.iadd, 1) := by decide +kernel
theorem dL_law_308 : decode cL_law 308 = .ok (.iaload, 1) := by decide +kernel
theorem dL_law_309 : decode cL_law 309 = .ok (.invokevirtual 34, 3) := by decide +kernel
theorem dL_law_312 : decode cL_law 312 = .ok (.aload_n 2, 1) := by decide +kernel
theorem dL_law_313 : decode cL_law 313 = .ok (.aload_n 0, 1) := by decide +kernel
theorem dL_law_314 : decode cL_law 314 = .ok (.iload_n 3, 1) := by decide +kernel
theorem dL_law_315 : decode cL_law 315 = .ok (.iconst 1, 1) := by decide +kernel
theorem dL_law_316 : decode cL_law 316 = .ok (.iadd, 1) := by decide +kernel
theorem dL_law_317 : decode cL_law 317 = .ok (.iaload, 1) := by decide +kernel
theorem dL_law_318 : decode cL_law 318 = .ok (.aload_n 0, 1) := by decide +kernel
theorem dL_law_319 : decode cL_law 319 = .ok (.iload_n 3, 1) := by decide +kernel
theorem dL_law_320 : decode cL_law 320 = .ok (.iconst 2, 1) := by decide +kernel
theorem dL_law_321 : decode cL_law 321 = .ok (.iadd, 1) := by decide +kernel
theorem dL_law_322 : decode cL_law 322 = .ok (.iaload, 1) := by decide +kernel
theorem dL_law_323 : decode cL_law 323 = .ok (.invokevirtual 38, 3) := by decide +kernel
theorem dL_law_326 : decode cL_law 326 = .ok (.if_icmp .eq 931, 3) := by decide +kernel
theorem dL_law_329 : decode cL_law 329 = .ok (.iconst 0, 1) := by decide +kernel
theorem dL_law_330 : decode cL_law 330 = .ok (.ireturn, 1) := by decide +kernel
theorem dL_law_331 : decode cL_law 331 = .ok (.aload_n 1, 1) := by decide +kernel
theorem dL_law_332 : decode cL_law 332 = .ok (.aload_n 0, 1) := by decide +kernel
theorem dL_law_333 : decode cL_law 333 = .ok (.iload_n 3, 1) := by decide +kernel
theorem dL_law_334 : decode cL_law 334 = .ok (.iconst 1, 1) := by decide +kernel
theorem dL_law_335 : decode cL_law 335 = .ok (.iadd, 1) := by decide +kernel
theorem dL_law_336 : decode cL_law 336 = .ok (.iaload, 1) := by decide +kernel
theorem dL_law_337 : decode cL_law 337 = .ok (.aload_n 0, 1) := by decide +kernel
theorem dL_law_338 : decode cL_law 338 = .ok (.iload_n 3, 1) := by decide +kernel
theorem dL_law_339 : decode cL_law 339 = .ok (.iconst 2, 1) := by decide +kernel
theorem dL_law_340 : decode cL_law 340 = .ok (.iadd, 1) := by decide +kernel
theorem dL_law_341 : decode cL_law 341 = .ok (.iaload, 1) := by decide +kernel
theorem dL_law_342 : decode cL_law 342 = .ok (.invokevirtual 39, 3) := by decide +kernel
theorem dL_law_345 : decode cL_law 345 = .ok (.aload_n 2, 1) := by decide +kernel
theorem dL_law_346 : decode cL_law 346 = .ok (.aload_n 0, 1) := by decide +kernel
theorem dL_law_347 : decode cL_law 347 = .ok (.iload_n 3, 1) := by decide +kernel
theorem dL_law_348 : decode cL_law 348 = .ok (.iconst 1, 1) := by decide +kernel
theorem dL_law_349 : decode cL_law 349 = .ok (.iadd, 1) := by decide +kernel
theorem dL_law_350 : decode cL_law 350 = .ok (.iaload, 1) := by decide +kernel
theorem dL_law_351 : decode cL_law 351 = .ok (.aload_n 0, 1) := by decide +kernel
theorem dL_law_352 : decode cL_law 352 = .ok (.iload_n 3, 1) := by decide +kernel
theorem dL_law_353 : decode cL_law 353 = .ok (.iconst 2, 1) := by decide +kernel
theorem dL_law_354 : decode cL_law 354 = .ok (.iadd, 1) := by decide +kernel
theorem dL_law_355 : decode cL_law 355 = .ok (.iaload, 1) := by decide +kernel
theorem dL_law_356 : decode cL_law 356 = .ok (.invokevirtual 42, 3) := by decide +kernel
theorem dL_law_359 : decode cL_law 359 = .ok (.if_icmp .eq 898, 3) := by decide +kernel
theorem dL_law_362 : decode cL_law 362 = .ok (.iconst 0, 1) := by decide +kernel
theorem dL_law_363 : decode cL_law 363 = .ok (.ireturn, 1) := by decide +kernel
theorem dL_law_364 : decode cL_law 364 = .ok (.aload_n 1, 1) := by decide +kernel
theorem dL_law_365 : decode cL_law 365 = .ok (.aload_n 0, 1) := by decide +kernel
theorem dL_law_366 : decode cL_law 366 = .ok (.iload_n 3, 1) := by decide +kernel
theorem dL_law_367 : decode cL_law 367 = .ok (.iconst 1, 1) := by decide +kernel
theorem dL_law_368 : decode cL_law 368 = .ok (.iadd, 1) := by decide +kernel
theorem dL_law_369 : decode cL_law 369 = .ok (.iaload, 1) := by decide +kernel
theorem dL_law_370 : decode cL_law 370 = .ok (.aload_n 0, 1) := by decide +kernel
theorem dL_law_371 : decode cL_law 371 = .ok (.iload_n 3, 1) := by decide +kernel
theorem dL_law_372 : decode cL_law 372 = .ok (.iconst 2, 1) := by decide +kernel
theorem dL_law_373 : decode cL_law 373 = .ok (.iadd, 1) := by decide +kernel
theorem dL_law_374 : decode cL_law 374 = .ok (.iaload, 1) := by decide +kernel
theorem dL_law_375 : decode cL_law 375 = .ok (.invokevirtual 43, 3) := by decide +kernel
theorem dL_law_378 : decode cL_law 378 = .ok (.aload_n 2, 1) := by decide +kernel
theorem dL_law_379 : decode cL_law 379 = .ok (.aload_n 0, 1) := by decide +kernel
theorem dL_law_380 : decode cL_law 380 = .ok (.iload_n 3, 1) := by decide +kernel
theorem dL_law_381 : decode cL_law 381 = .ok (.iconst 1, 1) := by decide +kernel
theorem dL_law_382 : decode cL_law 382 = .ok (.iadd, 1) := by decide +kernel
theorem dL_law_383 : decode cL_law 383 = .ok (.iaload, 1) := by decide +kernel
theorem dL_law_384 : decode cL_law 384 = .ok (.aload_n 0, 1) := by decide +kernel
theorem dL_law_385 : decode cL_law 385 = .ok (.iload_n 3, 1) := by decide +kernel
theorem dL_law_386 : decode cL_law 386 = .ok (.iconst 2, 1) := by decide +kernel
theorem dL_law_387 : decode cL_law 387 = .ok (.iadd, 1) := by decide +kernel
theorem dL_law_388 : decode cL_law 388 = .ok (.iaload, 1) := by decide +kernel
theorem dL_law_389 : decode cL_law 389 = .ok (.invokevirtual 46, 3) := by decide +kernel
theorem dL_law_392 : decode cL_law 392 = .ok (.if_icmp .eq 865, 3) := by decide +kernel
theorem dL_law_395 : decode cL_law 395 = .ok (.iconst 0, 1) := by decide +kernel
theorem dL_law_396 : decode cL_law 396 = .ok (.ireturn, 1) := by decide +kernel
theorem dL_law_397 : decode cL_law 397 = .ok (.aload_n 1, 1) := by decide +kernel
theorem dL_law_398 : decode cL_law 398 = .ok (.aload_n 0, 1) := by decide +kernel
theorem dL_law_399 : decode cL_law 399 = .ok (.iload_n 3, 1) := by decide +kernel
theorem dL_law_400 : decode cL_law 400 = .ok (.iconst 1, 1) := by decide +kernel
theorem dL_law_401 : decode cL_law 401 = .ok (.iadd, 1) := by decide +kernel
theorem dL_law_402 : decode cL_law 402 = .ok (.iaload, 1) := by decide +kernel
theorem dL_law_403 : decode cL_law 403 = .ok (.aload_n 0, 1) := by decide +kernel
theorem dL_law_404 : decode cL_law 404 = .ok (.iload_n 3, 1) := by decide +kernel
theorem dL_law_405 : decode cL_law 405 = .ok (.iconst 2, 1) := by decide +kernel
theorem dL_law_406 : decode cL_law 406 = .ok (.iadd, 1) := by decide +kernel
theorem dL_law_407 : decode cL_law 407 = .ok (.iaload, 1) := by decide +kernel
theorem dL_law_408 : decode cL_law 408 = .ok (.invokevirtual 47, 3) := by decide +kernel
theorem dL_law_411 : decode cL_law 411 = .ok (.aload_n 2, 1) := by decide +kernel
theorem dL_law_412 : decode cL_law 412 = .ok (.aload_n 0, 1) := by decide +kernel
theorem dL_law_413 : decode cL_law 413 = .ok (.iload_n 3, 1) := by decide +kernel
theorem dL_law_414 : decode cL_law 414 = .ok (.iconst 1, 1) := by decide +kernel
theorem dL_law_415 : decode cL_law 415 = .ok (.iadd, 1) := by decide +kernel
theorem dL_law_416 : decode cL_law 416 = .ok (.iaload, 1) := by decide +kernel
theorem dL_law_417 : decode cL_law 417 = .ok (.aload_n 0, 1) := by decide +kernel
theorem dL_law_418 : decode cL_law 418 = .ok (.iload_n 3, 1) := by decide +kernel
theorem dL_law_419 : decode cL_law 419 = .ok (.iconst 2, 1) := by decide +kernel
theorem dL_law_420 : decode cL_law 420 = .ok (.iadd, 1) := by decide +kernel
theorem dL_law_421 : decode cL_law 421 = .ok (.iaload, 1) := by decide +kernel
theorem dL_law_422 : decode cL_law 422 = .ok (.invokevirtual 50, 3) := by decide +kernel
theorem dL_law_425 : decode cL_law 425 = .ok (.if_icmp .eq 832, 3) := by decide +kernel
theorem dL_law_428 : decode cL_law 428 = .ok (.iconst 0, 1) := by decide +kernel
theorem dL_law_429 : decode cL_law 429 = .ok (.ireturn, 1) := by decide +kernel
theorem dL_law_430 : decode cL_law 430 = .ok (.aload_n 1, 1) := by decide +kernel
theorem dL_law_431 : decode cL_law 431 = .ok (.aload_n 0, 1) := by decide +kernel
theorem dL_law_432 : decode cL_law 432 = .ok (.iload_n 3, 1) := by decide +kernel
theorem dL_law_433 : decode cL_law 433 = .ok (.iconst 1, 1) := by decide +kernel
theorem dL_law_434 : decode cL_law 434 = .ok (.iadd, 1) := by decide +kernel
theorem dL_law_435 : decode cL_law 435 = .ok (.iaload, 1) := by decide +kernel
theorem dL_law_436 : decode cL_law 436 = .ok (.invokevirtual 51, 3) := by decide +kernel
theorem dL_law_439 : decode cL_law 439 = .ok (.aload_n 2, 1) := by decide +kernel
theorem dL_law_440 : decode cL_law 440 = .ok (.aload_n 0, 1) := by decide +kernel
theorem dL_law_441 : decode cL_law 441 = .ok (.iload_n 3, 1) := by decide +kernel
theorem dL_law_442 : decode cL_law 442 = .ok (.iconst 1, 1) := by decide +kernel
theorem dL_law_443 : decode cL_law 443 = .ok (.iadd, 1) := by decide +kernel
theorem dL_law_444 : decode cL_law 444 = .ok (.iaload, 1) := by decide +kernel
theorem dL_law_445 : decode cL_law 445 = .ok (.invokevirtual 54, 3) := by decide +kernel
theorem dL_law_448 : decode cL_law 448 = .ok (.if_icmp .eq 809, 3) := by decide +kernel
theorem dL_law_451 : decode cL_law 451 = .ok (.iconst 0, 1) := by decide +kernel
theorem dL_law_452 : decode cL_law 452 = .ok (.ireturn, 1) := by decide +kernel
theorem dL_law_453 : decode cL_law 453 = .ok (.aload_n 1, 1) := by decide +kernel
theorem dL_law_454 : decode cL_law 454 = .ok (.aload_n 0, 1) := by decide +kernel
theorem dL_law_455 : decode cL_law 455 = .ok (.iload_n 3, 1) := by decide +kernel
theorem dL_law_456 : decode cL_law 456 = .ok (.iconst 1, 1) := by decide +kernel
theorem dL_law_457 : decode cL_law 457 = .ok (.iadd, 1) := by decide +kernel
theorem dL_law_458 : decode cL_law 458 = .ok (.iaload, 1) := by decide +kernel
theorem dL_law_459 : decode cL_law 459 = .ok (.aload_n 0, 1) := by decide +kernel
theorem dL_law_460 : decode cL_law 460 = .ok (.iload_n 3, 1) := by decide +kernel
theorem dL_law_461 : decode cL_law 461 = .ok (.iconst 2, 1) := by decide +kernel
theorem dL_law_462 : decode cL_law 462 = .ok (.iadd, 1) := by decide +kernel
theorem dL_law_463 : decode cL_law 463 = .ok (.iaload, 1) := by decide +kernel
theorem dL_law_464 : decode cL_law 464 = .ok (.invokevirtual 55, 3) := by decide +kernel
theorem dL_law_467 : decode cL_law 467 = .ok (.aload_n 2, 1) := by decide +kernel
theorem dL_law_468 : decode cL_law 468 = .ok (.aload_n 0, 1) := by decide +kernel
theorem dL_law_469 : decode cL_law 469 = .ok (.iload_n 3, 1) := by decide +kernel
theorem dL_law_470 : decode cL_law 470 = .ok (.iconst 1, 1) := by decide +kernel
theorem dL_law_471 : decode cL_law 471 = .ok (.iadd, 1) := by decide +kernel
theorem dL_law_472 : decode cL_law 472 = .ok (.iaload, 1) := by decide +kernel
theorem dL_law_473 : decode cL_law 473 = .ok (.aload_n 0, 1) := by decide +kernel
theorem dL_law_474 : decode cL_law 474 = .ok (.iload_n 3, 1) := by decide +kernel
theorem dL_law_475 : decode cL_law 475 = .ok (.iconst 2, 1) := by decide +kernel
theorem dL_law_476 : decode cL_law 476 = .ok (.iadd, 1) := by decide +kernel
theorem dL_law_477 : decode cL_law 477 = .ok (.iaload, 1) := by decide +kernel
theorem dL_law_478 : decode cL_law 478 = .ok (.invokevirtual 58, 3) := by decide +kernel
theorem dL_law_481 : decode cL_law 481 = .ok (.if_icmp .eq 776, 3) := by decide +kernel
theorem dL_law_484 : decode cL_law 484 = .ok (.iconst 0, 1) := by decide +kernel
theorem dL_law_485 : decode cL_law 485 = .ok (.ireturn, 1) := by decide +kernel
theorem dL_law_486 : decode cL_law 486 = .ok (.aload_n 1, 1) := by decide +kernel
theorem dL_law_487 : decode cL_law 487 = .ok (.aload_n 0, 1) := by decide +kernel
theorem dL_law_488 : decode cL_law 488 = .ok (.iload_n 3, 1) := by decide +kernel
theorem dL_law_489 : decode cL_law 489 = .ok (.iconst 1, 1) := by decide +kernel
theorem dL_law_490 : decode cL_law 490 = .ok (.iadd, 1) := by decide +kernel
theorem dL_law_491 : decode cL_law 491 = .ok (.iaload, 1) := by decide +kernel
theorem dL_law_492 : decode cL_law 492 = .ok (.invokevirtual 59, 3) := by decide +kernel
theorem dL_law_495 : decode cL_law 495 = .ok (.aload_n 2, 1) := by decide +kernel
theorem dL_law_496 : decode cL_law 496 = .ok (.aload_n 0, 1) := by decide +kernel
theorem dL_law_497 : decode cL_law 497 = .ok (.iload_n 3, 1) := by decide +kernel
theorem dL_law_498 : decode cL_law 498 = .ok (.iconst 1, 1) := by decide +kernel
theorem dL_law_499 : decode cL_law 499 = .ok (.iadd, 1) := by decide +kernel
theorem dL_law_500 : decode cL_law 500 = .ok (.iaload, 1) := by decide +kernel
theorem dL_law_501 : decode cL_law 501 = .ok (.invokevirtual 62, 3) := by decide +kernel
theorem dL_law_504 : decode cL_law 504 = .ok (.if_icmp .eq 753, 3) := by decide +kernel
theorem dL_law_507 : decode cL_law 507 = .ok (.iconst 0, 1) := by decide +kernel
theorem dL_law_508 : decode cL_law 508 = .ok (.ireturn, 1) := by decide +kernel
theorem dL_law_509 : decode cL_law 509 = .ok (.aload_n 1, 1) := by decide +kernel
theorem dL_law_510 : decode cL_law 510 = .ok (.aload_n 0, 1) := by decide +kernel
theorem dL_law_511 : decode cL_law 511 = .ok (.iload_n 3, 1) := by decide +kernel
theorem dL_law_512 : decode cL_law 512 = .ok (.iconst 1, 1) := by decide +kernel
theorem dL_law_513 : decode cL_law 513 = .ok (.iadd, 1) := by decide +kernel
theorem dL_law_514 : decode cL_law 514 = .ok (.iaload, 1) := by decide +kernel
theorem dL_law_515 : decode cL_law 515 = .ok (.invokevirtual 63, 3) := by decide +kernel
theorem dL_law_518 : decode cL_law 518 = .ok (.aload_n 2, 1) := by decide +kernel
theorem dL_law_519 : decode cL_law 519 = .ok (.aload_n 0, 1) := by decide +kernel
theorem dL_law_520 : decode cL_law 520 = .ok (.iload_n 3, 1) := by decide +kernel
theorem dL_law_521 : decode cL_law 521 = .ok (.iconst 1, 1) := by decide +kernel
theorem dL_law_522 : decode cL_law 522 = .ok (.iadd, 1) := by decide +kernel
theorem dL_law_523 : decode cL_law 523 = .ok (.iaload, 1) := by decide +kernel
theorem dL_law_524 : decode cL_law 524 = .ok (.invokevirtual 66, 3) := by decide +kernel
theorem dL_law_527 : decode cL_law 527 = .ok (.if_icmp .eq 730, 3) := by decide +kernel
theorem dL_law_530 : decode cL_law 530 = .ok (.iconst 0, 1) := by decide +kernel
theorem dL_law_531 : decode cL_law 531 = .ok (.ireturn, 1) := by decide +kernel
theorem dL_law_532 : decode cL_law 532 = .ok (.aload_n 1, 1) := by decide +kernel
theorem dL_law_533 : decode cL_law 533 = .ok (.aload_n 0, 1) := by decide +kernel
theorem dL_law_534 : decode cL_law 534 = .ok (.iload_n 3, 1) := by decide +kernel
theorem dL_law_535 : decode cL_law 535 = .ok (.iconst 1, 1) := by decide +kernel
theorem dL_law_536 : decode cL_law 536 = .ok (.iadd, 1) := by decide +kernel
theorem dL_law_537 : decode cL_law 537 = .ok (.iaload, 1) := by decide +kernel
theorem dL_law_538 : decode cL_law 538 = .ok (.invokevirtual 67, 3) := by decide +kernel
theorem dL_law_541 : decode cL_law 541 = .ok (.aload_n 2, 1) := by decide +kernel
theorem dL_law_542 : decode cL_law 542 = .ok (.aload_n 0, 1) := by decide +kernel
theorem dL_law_543 : decode cL_law 543 = .ok (.iload_n 3, 1) := by decide +kernel
theorem dL_law_544 : decode cL_law 544 = .ok (.iconst 1, 1) := by decide +kernel
theorem dL_law_545 : decode cL_law 545 = .ok (.iadd, 1) := by decide +kernel
theorem dL_law_546 : decode cL_law 546 = .ok (.iaload, 1) := by decide +kernel
theorem dL_law_547 : decode cL_law 547 = .ok (.invokevirtual 70, 3) := by decide +kernel
theorem dL_law_550 : decode cL_law 550 = .ok (.if_icmp .eq 707, 3) := by decide +kernel
theorem dL_law_553 : decode cL_law 553 = .ok (.iconst 0, 1) := by decide +kernel
theorem dL_law_554 : decode cL_law 554 = .ok (.ireturn, 1) := by decide +kernel
theorem dL_law_555 : decode cL_law 555 = .ok (.aload_n 1, 1) := by decide +kernel
theorem dL_law_556 : decode cL_law 556 = .ok (.aload_n 0, 1) := by decide +kernel
theorem dL_law_557 : decode cL_law 557 = .ok (.iload_n 3, 1) := by decide +kernel
theorem dL_law_558 : decode cL_law 558 = .ok (.iconst 1, 1) := by decide +kernel
theorem dL_law_559 : decode cL_law 559 = .ok (.iadd, 1) := by decide +kernel
theorem dL_law_560 : decode cL_law 560 = .ok (.iaload, 1) := by decide +kernel
theorem dL_law_561 : decode cL_law 561 = .ok (.invokevirtual 71, 3) := by decide +kernel
theorem dL_law_564 : decode cL_law 564 = .ok (.aload_n 2, 1) := by decide +kernel
theorem dL_law_565 : decode cL_law 565 = .ok (.aload_n 0, 1) := by decide +kernel
theorem dL_law_566 : decode cL_law 566 = .ok (.iload_n 3, 1) := by decide +kernel
theorem dL_law_567 : decode cL_law 567 = .ok (.iconst 1, 1) := by decide +kernel
theorem dL_law_568 : decode cL_law 568 = .ok (.iadd, 1) := by decide +kernel
theorem dL_law_569 : decode cL_law 569 = .ok (.iaload, 1) := by decide +kernel
theorem dL_law_570 : decode cL_law 570 = .ok (.invokevirtual 74, 3) := by decide +kernel
theorem dL_law_573 : decode cL_law 573 = .ok (.if_icmp .eq 684, 3) := by decide +kernel
theorem dL_law_576 : decode cL_law 576 = .ok (.iconst 0, 1) := by decide +kernel
theorem dL_law_577 : decode cL_law 577 = .ok (.ireturn, 1) := by decide +kernel
theorem dL_law_578 : decode cL_law 578 = .ok (.aload_n 1, 1) := by decide +kernel
theorem dL_law_579 : decode cL_law 579 = .ok (.aload_n 0, 1) := by decide +kernel
theorem dL_law_580 : decode cL_law 580 = .ok (.iload_n 3, 1) := by decide +kernel
theorem dL_law_581 : decode cL_law 581 = .ok (.iconst 1, 1) := by decide +kernel
theorem dL_law_582 : decode cL_law 582 = .ok (.iadd, 1) := by decide +kernel
theorem dL_law_583 : decode cL_law 583 = .ok (.iaload, 1) := by decide +kernel
theorem dL_law_584 : decode cL_law 584 = .ok (.aload_n 0, 1) := by decide +kernel
theorem dL_law_585 : decode cL_law 585 = .ok (.iload_n 3, 1) := by decide +kernel
theorem dL_law_586 : decode cL_law 586 = .ok (.iconst 2, 1) := by decide +kernel
theorem dL_law_587 : decode cL_law 587 = .ok (.iadd, 1) := by decide +kernel
theorem dL_law_588 : decode cL_law 588 = .ok (.iaload, 1) := by decide +kernel
theorem dL_law_589 : decode cL_law 589 = .ok (.aload_n 0, 1) := by decide +kernel
theorem dL_law_590 : decode cL_law 590 = .ok (.iload_n 3, 1) := by decide +kernel
theorem dL_law_591 : decode cL_law 591 = .ok (.iconst 3, 1) := by decide +kernel
theorem dL_law_592 : decode cL_law 592 = .ok (.iadd, 1) := by decide +kernel
theorem dL_law_593 : decode cL_law 593 = .ok (.iaload, 1) := by decide +kernel
theorem dL_law_594 : decode cL_law 594 = .ok (.aload_n 0, 1) := by decide +kernel
theorem dL_law_595 : decode cL_law 595 = .ok (.iload_n 3, 1) := by decide +kernel
theorem dL_law_596 : decode cL_law 596 = .ok (.iconst 4, 1) := by decide +kernel
theorem dL_law_597 : decode cL_law 597 = .ok (.iadd, 1) := by decide +kernel
theorem dL_law_598 : decode cL_law 598 = .ok (.iaload, 1) := by decide +kernel
theorem dL_law_599 : decode cL_law 599 = .ok (.invokevirtual 75, 3) := by decide +kernel
theorem dL_law_602 : decode cL_law 602 = .ok (.aload_n 2, 1) := by decide +kernel
theorem dL_law_603 : decode cL_law 603 = .ok (.aload_n 0, 1) := by decide +kernel
theorem dL_law_604 : decode cL_law 604 = .ok (.iload_n 3, 1) := by decide +kernel
theorem dL_law_605 : decode cL_law 605 = .ok (.iconst 1, 1) := by decide +kernel
theorem dL_law_606 : decode cL_law 606 = .ok (.iadd, 1) := by decide +kernel
theorem dL_law_607 : decode cL_law 607 = .ok (.iaload, 1) := by decide +kernel
theorem dL_law_608 : decode cL_law 608 = .ok (.aload_n 0, 1) := by decide +kernel
theorem dL_law_609 : decode cL_law 609 = .ok (.iload_n 3, 1) := by decide +kernel
theorem dL_law_610 : decode cL_law 610 = .ok (.iconst 2, 1) := by decide +kernel
theorem dL_law_611 : decode cL_law 611 = .ok (.iadd, 1) := by decide +kernel
theorem dL_law_612 : decode cL_law 612 = .ok (.iaload, 1) := by decide +kernel
theorem dL_law_613 : decode cL_law 613 = .ok (.aload_n 0, 1) := by decide +kernel
theorem dL_law_614 : decode cL_law 614 = .ok (.iload_n 3, 1) := by decide +kernel
theorem dL_law_615 : decode cL_law 615 = .ok (.iconst 3, 1) := by decide +kernel
theorem dL_law_616 : decode cL_law 616 = .ok (.iadd, 1) := by decide +kernel
theorem dL_law_617 : decode cL_law 617 = .ok (.iaload, 1) := by decide +kernel
theorem dL_law_618 : decode cL_law 618 = .ok (.aload_n 0, 1) := by decide +kernel
theorem dL_law_619 : decode cL_law 619 = .ok (.iload_n 3, 1) := by decide +kernel
theorem dL_law_620 : decode cL_law 620 = .ok (.iconst 4, 1) := by decide +kernel
theorem dL_law_621 : decode cL_law 621 = .ok (.iadd, 1) := by decide +kernel
theorem dL_law_622 : decode cL_law 622 = .ok (.iaload, 1) := by decide +kernel
theorem dL_law_623 : decode cL_law 623 = .ok (.invokevirtual 79, 3) := by decide +kernel
theorem dL_law_626 : decode cL_law 626 = .ok (.if_icmp .eq 631, 3) := by decide +kernel
theorem dL_law_629 : decode cL_law 629 = .ok (.iconst 0, 1) := by decide +kernel
theorem dL_law_630 : decode cL_law 630 = .ok (.ireturn, 1) := by decide +kernel
theorem dL_law_631 : decode cL_law 631 = .ok (.aload_n 1, 1) := by decide +kernel
theorem dL_law_632 : decode cL_law 632 = .ok (.aload_n 0, 1) := by decide +kernel
theorem dL_law_633 : decode cL_law 633 = .ok (.iload_n 3, 1) := by decide +kernel
theorem dL_law_634 : decode cL_law 634 = .ok (.iconst 1, 1) := by decide +kernel
theorem dL_law_635 : decode cL_law 635 = .ok (.iadd, 1) := by decide +kernel
theorem dL_law_636 : decode cL_law 636 = .ok (.iaload, 1) := by decide +kernel
theorem dL_law_637 : decode cL_law 637 = .ok (.aload_n 0, 1) := by decide +kernel
theorem dL_law_638 : decode cL_law 638 = .ok (.iload_n 3, 1) := by decide +kernel
theorem dL_law_639 : decode cL_law 639 = .ok (.iconst 2, 1) := by decide +kernel
theorem dL_law_640 : decode cL_law 640 = .ok (.iadd, 1) := by decide +kernel
theorem dL_law_641 : decode cL_law 641 = .ok (.iaload, 1) := by decide +kernel
theorem dL_law_642 : decode cL_law 642 = .ok (.invokevirtual 80, 3) := by decide +kernel
theorem dL_law_645 : decode cL_law 645 = .ok (.aload_n 2, 1) := by decide +kernel
theorem dL_law_646 : decode cL_law 646 = .ok (.aload_n 0, 1) := by decide +kernel
theorem dL_law_647 : decode cL_law 647 = .ok (.iload_n 3, 1) := by decide +kernel
theorem dL_law_648 : decode cL_law 648 = .ok (.iconst 1, 1) := by decide +kernel
theorem dL_law_649 : decode cL_law 649 = .ok (.iadd, 1) := by decide +kernel
theorem dL_law_650 : decode cL_law 650 = .ok (.iaload, 1) := by decide +kernel
theorem dL_law_651 : decode cL_law 651 = .ok (.aload_n 0, 1) := by decide +kernel
theorem dL_law_652 : decode cL_law 652 = .ok (.iload_n 3, 1) := by decide +kernel
theorem dL_law_653 : decode cL_law 653 = .ok (.iconst 2, 1) := by decide +kernel
theorem dL_law_654 : decode cL_law 654 = .ok (.iadd, 1) := by decide +kernel
theorem dL_law_655 : decode cL_law 655 = .ok (.iaload, 1) := by decide +kernel
theorem dL_law_656 : decode cL_law 656 = .ok (.invokevirtual 83, 3) := by decide +kernel
theorem dL_law_659 : decode cL_law 659 = .ok (.if_icmp .eq 598, 3) := by decide +kernel
theorem dL_law_662 : decode cL_law 662 = .ok (.iconst 0, 1) := by decide +kernel
theorem dL_law_663 : decode cL_law 663 = .ok (.ireturn, 1) := by decide +kernel
theorem dL_law_664 : decode cL_law 664 = .ok (.aload_n 1, 1) := by decide +kernel
theorem dL_law_665 : decode cL_law 665 = .ok (.invokevirtual 84, 3) := by decide +kernel
theorem dL_law_668 : decode cL_law 668 = .ok (.aload_n 2, 1) := by decide +kernel
theorem dL_law_669 : decode cL_law 669 = .ok (.invokevirtual 87, 3) := by decide +kernel
theorem dL_law_672 : decode cL_law 672 = .ok (.if_icmp .eq 585, 3) := by decide +kernel
theorem dL_law_675 : decode cL_law 675 = .ok (.iconst 0, 1) := by decide +kernel
theorem dL_law_676 : decode cL_law 676 = .ok (.ireturn, 1) := by decide +kernel
theorem dL_law_677 : decode cL_law 677 = .ok (.aload_n 1, 1) := by decide +kernel
theorem dL_law_678 : decode cL_law 678 = .ok (.aload_n 0, 1) := by decide +kernel
theorem dL_law_679 : decode cL_law 679 = .ok (.iload_n 3, 1) := by decide +kernel
theorem dL_law_680 : decode cL_law 680 = .ok (.iconst 1, 1) := by decide +kernel
theorem dL_law_681 : decode cL_law 681 = .ok (.iadd, 1) := by decide +kernel
theorem dL_law_682 : decode cL_law 682 = .ok (.iaload, 1) := by decide +kernel
theorem dL_law_683 : decode cL_law 683 = .ok (.aload_n 0, 1) := by decide +kernel
theorem dL_law_684 : decode cL_law 684 = .ok (.iload_n 3, 1) := by decide +kernel
theorem dL_law_685 : decode cL_law 685 = .ok (.iconst 2, 1) := by decide +kernel
theorem dL_law_686 : decode cL_law 686 = .ok (.iadd, 1) := by decide +kernel
theorem dL_law_687 : decode cL_law 687 = .ok (.iaload, 1) := by decide +kernel
theorem dL_law_688 : decode cL_law 688 = .ok (.invokevirtual 88, 3) := by decide +kernel
theorem dL_law_691 : decode cL_law 691 = .ok (.aload_n 2, 1) := by decide +kernel
theorem dL_law_692 : decode cL_law 692 = .ok (.aload_n 0, 1) := by decide +kernel
theorem dL_law_693 : decode cL_law 693 = .ok (.iload_n 3, 1) := by decide +kernel
theorem dL_law_694 : decode cL_law 694 = .ok (.iconst 1, 1) := by decide +kernel
theorem dL_law_695 : decode cL_law 695 = .ok (.iadd, 1) := by decide +kernel
theorem dL_law_696 : decode cL_law 696 = .ok (.iaload, 1) := by decide +kernel
theorem dL_law_697 : decode cL_law 697 = .ok (.aload_n 0, 1) := by decide +kernel
theorem dL_law_698 : decode cL_law 698 = .ok (.iload_n 3, 1) := by decide +kernel
theorem dL_law_699 : decode cL_law 699 = .ok (.iconst 2, 1) := by decide +kernel
theorem dL_law_700 : decode cL_law 700 = .ok (.iadd, 1) := by decide +kernel
theorem dL_law_701 : decode cL_law 701 = .ok (.iaload, 1) := by decide +kernel
theorem dL_law_702 : decode cL_law 702 = .ok (.invokevirtual 91, 3) := by decide +kernel
theorem dL_law_705 : decode cL_law 705 = .ok (.if_icmp .eq 552, 3) := by decide +kernel
theorem dL_law_708 : decode cL_law 708 = .ok (.iconst 0, 1) := by decide +kernel
theorem dL_law_709 : decode cL_law 709 = .ok (.ireturn, 1) := by decide +kernel
theorem dL_law_710 : decode cL_law 710 = .ok (.aload_n 1, 1) := by decide +kernel
theorem dL_law_711 : decode cL_law 711 = .ok (.aload_n 0, 1) := by decide +kernel
theorem dL_law_712 : decode cL_law 712 = .ok (.iload_n 3, 1) := by decide +kernel
theorem dL_law_713 : decode cL_law 713 = .ok (.iconst 1, 1) := by decide +kernel
theorem dL_law_714 : decode cL_law 714 = .ok (.iadd, 1) := by decide +kernel
theorem dL_law_715 : decode cL_law 715 = .ok (.iaload, 1) := by decide +kernel
theorem dL_law_716 : decode cL_law 716 = .ok (.aload_n 0, 1) := by decide +kernel
theorem dL_law_717 : decode cL_law 717 = .ok (.iload_n 3, 1) := by decide +kernel
theorem dL_law_718 : decode cL_law 718 = .ok (.iconst 2, 1) := by decide +kernel
theorem dL_law_719 : decode cL_law 719 = .ok (.iadd, 1) := by decide +kernel
theorem dL_law_720 : decode cL_law 720 = .ok (.iaload, 1) := by decide +kernel
theorem dL_law_721 : decode cL_law 721 = .ok (.invokevirtual 92, 3) := by decide +kernel
theorem dL_law_724 : decode cL_law 724 = .ok (.aload_n 2, 1) := by decide +kernel
theorem dL_law_725 : decode cL_law 725 = .ok (.aload_n 0, 1) := by decide +kernel
theorem dL_law_726 : decode cL_law 726 = .ok (.iload_n 3, 1) := by decide +kernel
theorem dL_law_727 : decode cL_law 727 = .ok (.iconst 1, 1) := by decide +kernel
theorem dL_law_728 : decode cL_law 728 = .ok (.iadd, 1) := by decide +kernel
theorem dL_law_729 : decode cL_law 729 = .ok (.iaload, 1) := by decide +kernel
theorem dL_law_730 : decode cL_law 730 = .ok (.aload_n 0, 1) := by decide +kernel
theorem dL_law_731 : decode cL_law 731 = .ok (.iload_n 3, 1) := by decide +kernel
theorem dL_law_732 : decode cL_law 732 = .ok (.iconst 2, 1) := by decide +kernel
theorem dL_law_733 : decode cL_law 733 = .ok (.iadd, 1) := by decide +kernel
theorem dL_law_734 : decode cL_law 734 = .ok (.iaload, 1) := by decide +kernel
theorem dL_law_735 : decode cL_law 735 = .ok (.invokevirtual 95, 3) := by decide +kernel
theorem dL_law_738 : decode cL_law 738 = .ok (.if_icmp .eq 519, 3) := by decide +kernel
theorem dL_law_741 : decode cL_law 741 = .ok (.iconst 0, 1) := by decide +kernel
theorem dL_law_742 : decode cL_law 742 = .ok (.ireturn, 1) := by decide +kernel
theorem dL_law_743 : decode cL_law 743 = .ok (.aload_n 1, 1) := by decide +kernel
theorem dL_law_744 : decode cL_law 744 = .ok (.aload_n 0, 1) := by decide +kernel
theorem dL_law_745 : decode cL_law 745 = .ok (.iload_n 3, 1) := by decide +kernel
theorem dL_law_746 : decode cL_law 746 = .ok (.iconst 1, 1) := by decide +kernel
theorem dL_law_747 : decode cL_law 747 = .ok (.iadd, 1) := by decide +kernel
theorem dL_law_748 : decode cL_law 748 = .ok (.iaload, 1) := by decide +kernel
theorem dL_law_749 : decode cL_law 749 = .ok (.invokevirtual 96, 3) := by decide +kernel
theorem dL_law_752 : decode cL_law 752 = .ok (.aload_n 2, 1) := by decide +kernel
theorem dL_law_753 : decode cL_law 753 = .ok (.aload_n 0, 1) := by decide +kernel
theorem dL_law_754 : decode cL_law 754 = .ok (.iload_n 3, 1) := by decide +kernel
theorem dL_law_755 : decode cL_law 755 = .ok (.iconst 1, 1) := by decide +kernel
theorem dL_law_756 : decode cL_law 756 = .ok (.iadd, 1) := by decide +kernel
theorem dL_law_757 : decode cL_law 757 = .ok (.iaload, 1) := by decide +kernel
theorem dL_law_758 : decode cL_law 758 = .ok (.invokevirtual 99, 3) := by decide +kernel
theorem dL_law_761 : decode cL_law 761 = .ok (.if_icmp .eq 496, 3) := by decide +kernel
theorem dL_law_764 : decode cL_law 764 = .ok (.iconst 0, 1) := by decide +kernel
theorem dL_law_765 : decode cL_law 765 = .ok (.ireturn, 1) := by decide +kernel
theorem dL_law_766 : decode cL_law 766 = .ok (.aload_n 1, 1) := by decide +kernel
theorem dL_law_767 : decode cL_law 767 = .ok (.aload_n 0, 1) := by decide +kernel
theorem dL_law_768 : decode cL_law 768 = .ok (.iload_n 3, 1) := by decide +kernel
theorem dL_law_769 : decode cL_law 769 = .ok (.iconst 1, 1) := by decide +kernel
theorem dL_law_770 : decode cL_law 770 = .ok (.iadd, 1) := by decide +kernel
theorem dL_law_771 : decode cL_law 771 = .ok (.iaload, 1) := by decide +kernel
theorem dL_law_772 : decode cL_law 772 = .ok (.aload_n 0, 1) := by decide +kernel
theorem dL_law_773 : decode cL_law 773 = .ok (.iload_n 3, 1) := by decide +kernel
theorem dL_law_774 : decode cL_law 774 = .ok (.iconst 2, 1) := by decide +kernel
theorem dL_law_775 : decode cL_law 775 = .ok (.iadd, 1) := by decide +kernel
theorem dL_law_776 : decode cL_law 776 = .ok (.iaload, 1) := by decide +kernel
theorem dL_law_777 : decode cL_law 777 = .ok (.aload_n 0, 1) := by decide +kernel
theorem dL_law_778 : decode cL_law 778 = .ok (.iload_n 3, 1) := by decide +kernel
theorem dL_law_779 : decode cL_law 779 = .ok (.iconst 3, 1) := by decide +kernel
theorem dL_law_780 : decode cL_law 780 = .ok (.iadd, 1) := by decide +kernel
theorem dL_law_781 : decode cL_law 781 = .ok (.iaload, 1) := by decide +kernel
theorem dL_law_782 : decode cL_law 782 = .ok (.invokevirtual 100, 3) := by decide +kernel
theorem dL_law_785 : decode cL_law 785 = .ok (.aload_n 2, 1) := by decide +kernel
theorem dL_law_786 : decode cL_law 786 = .ok (.aload_n 0, 1) := by decide +kernel
theorem dL_law_787 : decode cL_law 787 = .ok (.iload_n 3, 1) := by decide +kernel
theorem dL_law_788 : decode cL_law 788 = .ok (.iconst 1, 1) := by decide +kernel
theorem dL_law_789 : decode cL_law 789 = .ok (.iadd, 1) := by decide +kernel
theorem dL_law_790 : decode cL_law 790 = .ok (.iaload, 1) := by decide +kernel
theorem dL_law_791 : decode cL_law 791 = .ok (.aload_n 0, 1) := by decide +kernel
theorem dL_law_792 : decode cL_law 792 = .ok (.iload_n 3, 1) := by decide +kernel
theorem dL_law_793 : decode cL_law 793 = .ok (.iconst 2, 1) := by decide +kernel
theorem dL_law_794 : decode cL_law 794 = .ok (.iadd, 1) := by decide +kernel
theorem dL_law_795 : decode cL_law 795 = .ok (.iaload, 1) := by decide +kernel
theorem dL_law_796 : decode cL_law 796 = .ok (.aload_n 0, 1) := by decide +kernel
theorem dL_law_797 : decode cL_law 797 = .ok (.iload_n 3, 1) := by decide +kernel
theorem dL_law_798 : decode cL_law 798 = .ok (.iconst 3, 1) := by decide +kernel
theorem dL_law_799 : decode cL_law 799 = .ok (.iadd, 1) := by decide +kernel
theorem dL_law_800 : decode cL_law 800 = .ok (.iaload, 1) := by decide +kernel
theorem dL_law_801 : decode cL_law 801 = .ok (.invokevirtual 104, 3) := by decide +kernel
theorem dL_law_804 : decode cL_law 804 = .ok (.if_icmp .eq 453, 3) := by decide +kernel
theorem dL_law_807 : decode cL_law 807 = .ok (.iconst 0, 1) := by decide +kernel
theorem dL_law_808 : decode cL_law 808 = .ok (.ireturn, 1) := by decide +kernel
theorem dL_law_809 : decode cL_law 809 = .ok (.aload_n 1, 1) := by decide +kernel
theorem dL_law_810 : decode cL_law 810 = .ok (.aload_n 0, 1) := by decide +kernel
theorem dL_law_811 : decode cL_law 811 = .ok (.iload_n 3, 1) := by decide +kernel
theorem dL_law_812 : decode cL_law 812 = .ok (.iconst 1, 1) := by decide +kernel
theorem dL_law_813 : decode cL_law 813 = .ok (.iadd, 1) := by decide +kernel
theorem dL_law_814 : decode cL_law 814 = .ok (.iaload, 1) := by decide +kernel
theorem dL_law_815 : decode cL_law 815 = .ok (.aload_n 0, 1) := by decide +kernel
theorem dL_law_816 : decode cL_law 816 = .ok (.iload_n 3, 1) := by decide +kernel
theorem dL_law_817 : decode cL_law 817 = .ok (.iconst 2, 1) := by decide +kernel
theorem dL_law_818 : decode cL_law 818 = .ok (.iadd, 1) := by decide +kernel
theorem dL_law_819 : decode cL_law 819 = .ok (.iaload, 1) := by decide +kernel
theorem dL_law_820 : decode cL_law 820 = .ok (.invokevirtual 105, 3) := by decide +kernel
theorem dL_law_823 : decode cL_law 823 = .ok (.aload_n 2, 1) := by decide +kernel
theorem dL_law_824 : decode cL_law 824 = .ok (.aload_n 0, 1) := by decide +kernel
theorem dL_law_825 : decode cL_law 825 = .ok (.iload_n 3, 1) := by decide +kernel
theorem dL_law_826 : decode cL_law 826 = .ok (.iconst 1, 1) := by decide +kernel
theorem dL_law_827 : decode cL_law 827 = .ok (.iadd, 1) := by decide +kernel
theorem dL_law_828 : decode cL_law 828 = .ok (.iaload, 1) := by decide +kernel
theorem dL_law_829 : decode cL_law 829 = .ok (.aload_n 0, 1) := by decide +kernel
theorem dL_law_830 : decode cL_law 830 = .ok (.iload_n 3, 1) := by decide +kernel
theorem dL_law_831 : decode cL_law 831 = .ok (.iconst 2, 1) := by decide +kernel
theorem dL_law_832 : decode cL_law 832 = .ok (.iadd, 1) := by decide +kernel
theorem dL_law_833 : decode cL_law 833 = .ok (.iaload, 1) := by decide +kernel
theorem dL_law_834 : decode cL_law 834 = .ok (.invokevirtual 108, 3) := by decide +kernel
theorem dL_law_837 : decode cL_law 837 = .ok (.if_icmp .eq 420, 3) := by decide +kernel
theorem dL_law_840 : decode cL_law 840 = .ok (.iconst 0, 1) := by decide +kernel
theorem dL_law_841 : decode cL_law 841 = .ok (.ireturn, 1) := by decide +kernel
theorem dL_law_842 : decode cL_law 842 = .ok (.aload_n 1, 1) := by decide +kernel
theorem dL_law_843 : decode cL_law 843 = .ok (.aload_n 0, 1) := by decide +kernel
theorem dL_law_844 : decode cL_law 844 = .ok (.iload_n 3, 1) := by decide +kernel
theorem dL_law_845 : decode cL_law 845 = .ok (.iconst 1, 1) := by decide +kernel
theorem dL_law_846 : decode cL_law 846 = .ok (.iadd, 1) := by decide +kernel
theorem dL_law_847 : decode cL_law 847 = .ok (.iaload, 1) := by decide +kernel
theorem dL_law_848 : decode cL_law 848 = .ok (.invokevirtual 109, 3) := by decide +kernel
theorem dL_law_851 : decode cL_law 851 = .ok (.aload_n 2, 1) := by decide +kernel
theorem dL_law_852 : decode cL_law 852 = .ok (.aload_n 0, 1) := by decide +kernel
theorem dL_law_853 : decode cL_law 853 = .ok (.iload_n 3, 1) := by decide +kernel
theorem dL_law_854 : decode cL_law 854 = .ok (.iconst 1, 1) := by decide +kernel
theorem dL_law_855 : decode cL_law 855 = .ok (.iadd, 1) := by decide +kernel
theorem dL_law_856 : decode cL_law 856 = .ok (.iaload, 1) := by decide +kernel
theorem dL_law_857 : decode cL_law 857 = .ok (.invokevirtual 112, 3) := by decide +kernel
theorem dL_law_860 : decode cL_law 860 = .ok (.if_icmp .eq 397, 3) := by decide +kernel
theorem dL_law_863 : decode cL_law 863 = .ok (.iconst 0, 1) := by decide +kernel
theorem dL_law_864 : decode cL_law 864 = .ok (.ireturn, 1) := by decide +kernel
theorem dL_law_865 : decode cL_law 865 = .ok (.aload_n 1, 1) := by decide +kernel
theorem dL_law_866 : decode cL_law 866 = .ok (.aload_n 0, 1) := by decide +kernel
theorem dL_law_867 : decode cL_law 867 = .ok (.iload_n 3, 1) := by decide +kernel
theorem dL_law_868 : decode cL_law 868 = .ok (.iconst 1, 1) := by decide +kernel
theorem dL_law_869 : decode cL_law 869 = .ok (.iadd, 1) := by decide +kernel
theorem dL_law_870 : decode cL_law 870 = .ok (.iaload, 1) := by decide +kernel
theorem dL_law_871 : decode cL_law 871 = .ok (.invokevirtual 113, 3) := by decide +kernel
theorem dL_law_874 : decode cL_law 874 = .ok (.aload_n 2, 1) := by decide +kernel
theorem dL_law_875 : decode cL_law 875 = .ok (.aload_n 0, 1) := by decide +kernel
theorem dL_law_876 : decode cL_law 876 = .ok (.iload_n 3, 1) := by decide +kernel
theorem dL_law_877 : decode cL_law 877 = .ok (.iconst 1, 1) := by decide +kernel
theorem dL_law_878 : decode cL_law 878 = .ok (.iadd, 1) := by decide +kernel
theorem dL_law_879 : decode cL_law 879 = .ok (.iaload, 1) := by decide +kernel
theorem dL_law_880 : decode cL_law 880 = .ok (.invokevirtual 116, 3) := by decide +kernel
theorem dL_law_883 : decode cL_law 883 = .ok (.if_icmp .eq 374, 3) := by decide +kernel
theorem dL_law_886 : decode cL_law 886 = .ok (.iconst 0, 1) := by decide +kernel
theorem dL_law_887 : decode cL_law 887 = .ok (.ireturn, 1) := by decide +kernel
theorem dL_law_888 : decode cL_law 888 = .ok (.aload_n 1, 1) := by decide +kernel
theorem dL_law_889 : decode cL_law 889 = .ok (.aload_n 0, 1) := by decide +kernel
theorem dL_law_890 : decode cL_law 890 = .ok (.iload_n 3, 1) := by decide +kernel
theorem dL_law_891 : decode cL_law 891 = .ok (.iconst 1, 1) := by decide +kernel
theorem dL_law_892 : decode cL_law 892 = .ok (.iadd, 1) := by decide +kernel
theorem dL_law_893 : decode cL_law 893 = .ok (.iaload, 1) := by decide +kernel
theorem dL_law_894 : decode cL_law 894 = .ok (.aload_n 0, 1) := by decide +kernel
theorem dL_law_895 : decode cL_law 895 = .ok (.iload_n 3, 1) := by decide +kernel
theorem dL_law_896 : decode cL_law 896 = .ok (.iconst 2, 1) := by decide +kernel
theorem dL_law_897 : decode cL_law 897 = .ok (.iadd, 1) := by decide +kernel
theorem dL_law_898 : decode cL_law 898 = .ok (.iaload, 1) := by decide +kernel
theorem dL_law_899 : decode cL_law 899 = .ok (.invokevirtual 117, 3) := by decide +kernel
theorem dL_law_902 : decode cL_law 902 = .ok (.aload_n 2, 1) := by decide +kernel
theorem dL_law_903 : decode cL_law 903 = .ok (.aload_n 0, 1) := by decide +kernel
theorem dL_law_904 : decode cL_law 904 = .ok (.iload_n 3, 1) := by decide +kernel
theorem dL_law_905 : decode cL_law 905 = .ok (.iconst 1, 1) := by decide +kernel
theorem dL_law_906 : decode cL_law 906 = .ok (.iadd, 1) := by decide +kernel
theorem dL_law_907 : decode cL_law 907 = .ok (.iaload, 1) := by decide +kernel
theorem dL_law_908 : decode cL_law 908 = .ok (.aload_n 0, 1) := by decide +kernel
theorem dL_law_909 : decode cL_law 909 = .ok (.iload_n 3, 1) := by decide +kernel
theorem dL_law_910 : decode cL_law 910 = .ok (.iconst 2, 1) := by decide +kernel
theorem dL_law_911 : decode cL_law 911 = .ok (.iadd, 1) := by decide +kernel
theorem dL_law_912 : decode cL_law 912 = .ok (.iaload, 1) := by decide +kernel
theorem dL_law_913 : decode cL_law 913 = .ok (.invokevirtual 120, 3) := by decide +kernel
theorem dL_law_916 : decode cL_law 916 = .ok (.if_icmp .eq 341, 3) := by decide +kernel
theorem dL_law_919 : decode cL_law 919 = .ok (.iconst 0, 1) := by decide +kernel
theorem dL_law_920 : decode cL_law 920 = .ok (.ireturn, 1) := by decide +kernel
theorem dL_law_921 : decode cL_law 921 = .ok (.aload_n 1, 1) := by decide +kernel
theorem dL_law_922 : decode cL_law 922 = .ok (.aload_n 0, 1) := by decide +kernel
theorem dL_law_923 : decode cL_law 923 = .ok (.iload_n 3, 1) := by decide +kernel
theorem dL_law_924 : decode cL_law 924 = .ok (.iconst 1, 1) := by decide +kernel
theorem dL_law_925 : decode cL_law 925 = .ok (.iadd, 1) := by decide +kernel
theorem dL_law_926 : decode cL_law 926 = .ok (.iaload, 1) := by decide +kernel
theorem dL_law_927 : decode cL_law 927 = .ok (.invokevirtual 121, 3) := by decide +kernel
theorem dL_law_930 : decode cL_law 930 = .ok (.aload_n 2, 1) := by decide +kernel
theorem dL_law_931 : decode cL_law 931 = .ok (.aload_n 0, 1) := by decide +kernel
theorem dL_law_932 : decode cL_law 932 = .ok (.iload_n 3, 1) := by decide +kernel
theorem dL_law_933 : decode cL_law 933 = .ok (.iconst 1, 1) := by decide +kernel
theorem dL_law_934 : decode cL_law 934 = .ok (.iadd, 1) := by decide +kernel
theorem dL_law_935 : decode cL_law 935 = .ok (.iaload, 1) := by decide +kernel
theorem dL_law_936 : decode cL_law 936 = .ok (.invokevirtual 124, 3) := by decide +kernel
theorem dL_law_939 : decode cL_law 939 = .ok (.if_icmp .eq 318, 3) := by decide +kernel
theorem dL_law_942 : decode cL_law 942 = .ok (.iconst 0, 1) := by decide +kernel
theorem dL_law_943 : decode cL_law 943 = .ok (.ireturn, 1) := by decide +kernel
theorem dL_law_944 : decode cL_law 944 = .ok (.aload_n 1, 1) := by decide +kernel
theorem dL_law_945 : decode cL_law 945 = .ok (.aload_n 0, 1) := by decide +kernel
theorem dL_law_946 : decode cL_law 946 = .ok (.iload_n 3, 1) := by decide +kernel
theorem dL_law_947 : decode cL_law 947 = .ok (.iconst 1, 1) := by decide +kernel
theorem dL_law_948 : decode cL_law 948 = .ok (.iadd, 1) := by decide +kernel
theorem dL_law_949 : decode cL_law 949 = .ok (.iaload, 1) := by decide +kernel
theorem dL_law_950 : decode cL_law 950 = .ok (.invokevirtual 125, 3) := by decide +kernel
theorem dL_law_953 : decode cL_law 953 = .ok (.aload_n 2, 1) := by decide +kernel
theorem dL_law_954 : decode cL_law 954 = .ok (.aload_n 0, 1) := by decide +kernel
theorem dL_law_955 : decode cL_law 955 = .ok (.iload_n 3, 1) := by decide +kernel
theorem dL_law_956 : decode cL_law 956 = .ok (.iconst 1, 1) := by decide +kernel
theorem dL_law_957 : decode cL_law 957 = .ok (.iadd, 1) := by decide +kernel
theorem dL_law_958 : decode cL_law 958 = .ok (.iaload, 1) := by decide +kernel
theorem dL_law_959 : decode cL_law 959 = .ok (.invokevirtual 128, 3) := by decide +kernel
theorem dL_law_962 : decode cL_law 962 = .ok (.if_icmp .eq 295, 3) := by decide +kernel
theorem dL_law_965 : decode cL_law 965 = .ok (.iconst 0, 1) := by decide +kernel
theorem dL_law_966 : decode cL_law 966 = .ok (.ireturn, 1) := by decide +kernel
theorem dL_law_967 : decode cL_law 967 = .ok (.aload_n 1, 1) := by decide +kernel
theorem dL_law_968 : decode cL_law 968 = .ok (.aload_n 0, 1) := by decide +kernel
theorem dL_law_969 : decode cL_law 969 = .ok (.iload_n 3, 1) := by decide +kernel
theorem dL_law_970 : decode cL_law 970 = .ok (.iconst 1, 1) := by decide +kernel
theorem dL_law_971 : decode cL_law 971 = .ok (.iadd, 1) := by decide +kernel
theorem dL_law_972 : decode cL_law 972 = .ok (.iaload, 1) := by decide +kernel
theorem dL_law_973 : decode cL_law 973 = .ok (.invokevirtual 129, 3) := by decide +kernel
theorem dL_law_976 : decode cL_law 976 = .ok (.aload_n 2, 1) := by decide +kernel
theorem dL_law_977 : decode cL_law 977 = .ok (.aload_n 0, 1) := by decide +kernel
theorem dL_law_978 : decode cL_law 978 = .ok (.iload_n 3, 1) := by decide +kernel
theorem dL_law_979 : decode cL_law 979 = .ok (.iconst 1, 1) := by decide +kernel
theorem dL_law_980 : decode cL_law 980 = .ok (.iadd, 1) := by decide +kernel
theorem dL_law_981 : decode cL_law 981 = .ok (.iaload, 1) := by decide +kernel
theorem dL_law_982 : decode cL_law 982 = .ok (.invokevirtual 132, 3) := by decide +kernel
theorem dL_law_985 : decode cL_law 985 = .ok (.if_icmp .eq 272, 3) := by decide +kernel
theorem dL_law_988 : decode cL_law 988 = .ok (.iconst 0, 1) := by decide +kernel
theorem dL_law_989 : decode cL_law 989 = .ok (.ireturn, 1) := by decide +kernel
theorem dL_law_990 : decode cL_law 990 = .ok (.aload_n 1, 1) := by decide +kernel
theorem dL_law_991 : decode cL_law 991 = .ok (.aload_n 0, 1) := by decide +kernel
theorem dL_law_992 : decode cL_law 992 = .ok (.iload_n 3, 1) := by decide +kernel
theorem dL_law_993 : decode cL_law 993 = .ok (.iconst 1, 1) := by decide +kernel
theorem dL_law_994 : decode cL_law 994 = .ok (.iadd, 1) := by decide +kernel
theorem dL_law_995 : decode cL_law 995 = .ok (.iaload, 1) := by decide +kernel
theorem dL_law_996 : decode cL_law 996 = .ok (.aload_n 0, 1) := by decide +kernel
theorem dL_law_997 : decode cL_law 997 = .ok (.iload_n 3, 1) := by decide +kernel
theorem dL_law_998 : decode cL_law 998 = .ok (.iconst 2, 1) := by decide +kernel
theorem dL_law_999 : decode cL_law 999 = .ok (.iadd, 1) := by decide +kernel
theorem dL_law_1000 : decode cL_law 1000 = .ok (.iaload, 1) := by decide +kernel
theorem dL_law_1001 : decode cL_law 1001 = .ok (.invokevirtual 133, 3) := by decide +kernel
theorem dL_law_1004 : decode cL_law 1004 = .ok (.aload_n 2, 1) := by decide +kernel
theorem dL_law_1005 : decode cL_law 1005 = .ok (.aload_n 0, 1) := by decide +kernel
theorem dL_law_1006 : decode cL_law 1006 = .ok (.iload_n 3, 1) := by decide +kernel
theorem dL_law_1007 : decode cL_law 1007 = .ok (.iconst 1, 1) := by decide +kernel
theorem dL_law_1008 : decode cL_law 1008 = .ok (.iadd, 1) := by decide +kernel
theorem dL_law_1009 : decode cL_law 1009 = .ok (.iaload, 1) := by decide +kernel
theorem dL_law_1010 : decode cL_law 1010 = .ok (.aload_n 0, 1) := by decide +kernel
theorem dL_law_1011 : decode cL_law 1011 = .ok (.iload_n 3, 1) := by decide +kernel
theorem dL_law_1012 : decode cL_law 1012 = .ok (.iconst 2, 1) := by decide +kernel
theorem dL_law_1013 : decode cL_law 1013 = .ok (.iadd, 1) := by decide +kernel
theorem dL_law_1014 : decode cL_law 1014 = .ok (.iaload, 1) := by decide +kernel
theorem dL_law_1015 : decode cL_law 1015 = .ok (.invokevirtual 136, 3) := by decide +kernel
theorem dL_law_1018 : decode cL_law 1018 = .ok (.if_icmp .eq 239, 3) := by decide +kernel
theorem dL_law_1021 : decode cL_law 1021 = .ok (.iconst 0, 1) := by decide +kernel
theorem dL_law_1022 : decode cL_law 1022 = .ok (.ireturn, 1) := by decide +kernel
theorem dL_law_1023 : decode cL_law 1023 = .ok (.aload_n 1, 1) := by decide +kernel
theorem dL_law_1024 : decode cL_law 1024 = .ok (.aload_n 0, 1) := by decide +kernel
theorem dL_law_1025 : decode cL_law 1025 = .ok (.iload_n 3, 1) := by decide +kernel
theorem dL_law_1026 : decode cL_law 1026 = .ok (.iconst 1, 1) := by decide +kernel
theorem dL_law_1027 : decode cL_law 1027 = .ok (.iadd, 1) := by decide +kernel
theorem dL_law_1028 : decode cL_law 1028 = .ok (.iaload, 1) := by decide +kernel
theorem dL_law_1029 : decode cL_law 1029 = .ok (.invokevirtual 137, 3) := by decide +kernel
theorem dL_law_1032 : decode cL_law 1032 = .ok (.aload_n 2, 1) := by decide +kernel
theorem dL_law_1033 : decode cL_law 1033 = .ok (.aload_n 0, 1) := by decide +kernel
theorem dL_law_1034 : decode cL_law 1034 = .ok (.iload_n 3, 1) := by decide +kernel
theorem dL_law_1035 : decode cL_law 1035 = .ok (.iconst 1, 1) := by decide +kernel
theorem dL_law_1036 : decode cL_law 1036 = .ok (.iadd, 1) := by decide +kernel
theorem dL_law_1037 : decode cL_law 1037 = .ok (.iaload, 1) := by decide +kernel
theorem dL_law_1038 : decode cL_law 1038 = .ok (.invokevirtual 140, 3) := by decide +kernel
theorem dL_law_1041 : decode cL_law 1041 = .ok (.if_icmp .eq 216, 3) := by decide +kernel
theorem dL_law_1044 : decode cL_law 1044 = .ok (.iconst 0, 1) := by decide +kernel
theorem dL_law_1045 : decode cL_law 1045 = .ok (.ireturn, 1) := by decide +kernel
theorem dL_law_1046 : decode cL_law 1046 = .ok (.aload_n 1, 1) := by decide +kernel
theorem dL_law_1047 : decode cL_law 1047 = .ok (.invokevirtual 141, 3) := by decide +kernel
theorem dL_law_1050 : decode cL_law 1050 = .ok (.aload_n 2, 1) := by decide +kernel
theorem dL_law_1051 : decode cL_law 1051 = .ok (.invokevirtual 144, 3) := by decide +kernel
theorem dL_law_1054 : decode cL_law 1054 = .ok (.if_icmp .eq 203, 3) := by decide +kernel
theorem dL_law_1057 : decode cL_law 1057 = .ok (.iconst 0, 1) := by decide +kernel
theorem dL_law_1058 : decode cL_law 1058 = .ok (.ireturn, 1) := by decide +kernel
theorem dL_law_1059 : decode cL_law 1059 = .ok (.aload_n 1, 1) := by decide +kernel
theorem dL_law_1060 : decode cL_law 1060 = .ok (.aload_n 0, 1) := by decide +kernel
theorem dL_law_1061 : decode cL_law 1061 = .ok (.iload_n 3, 1) := by decide +kernel
theorem dL_law_1062 : decode cL_law 1062 = .ok (.iconst 1, 1) := by decide +kernel
theorem dL_law_1063 : decode cL_law 1063 = .ok (.iadd, 1) := by decide +kernel
theorem dL_law_1064 : decode cL_law 1064 = .ok (.iaload, 1) := by decide +kernel
theorem dL_law_1065 : decode cL_law 1065 = .ok (.invokevirtual 145, 3) := by decide +kernel
theorem dL_law_1068 : decode cL_law 1068 = .ok (.aload_n 2, 1) := by decide +kernel
theorem dL_law_1069 : decode cL_law 1069 = .ok (.aload_n 0, 1) := by decide +kernel
theorem dL_law_1070 : decode cL_law 1070 = .ok (.iload_n 3, 1) := by decide +kernel
theorem dL_law_1071 : decode cL_law 1071 = .ok (.iconst 1, 1) := by decide +kernel
theorem dL_law_1072 : decode cL_law 1072 = .ok (.iadd, 1) := by decide +kernel
theorem dL_law_1073 : decode cL_law 1073 = .ok (.iaload, 1) := by decide +kernel
theorem dL_law_1074 : decode cL_law 1074 = .ok (.invokevirtual 148, 3) := by decide +kernel
theorem dL_law_1077 : decode cL_law 1077 = .ok (.if_icmp .eq 180, 3) := by decide +kernel
theorem dL_law_1080 : decode cL_law 1080 = .ok (.iconst 0, 1) := by decide +kernel
theorem dL_law_1081 : decode cL_law 1081 = .ok (.ireturn, 1) := by decide +kernel
theorem dL_law_1082 : decode cL_law 1082 = .ok (.aload_n 1, 1) := by decide +kernel
theorem dL_law_1083 : decode cL_law 1083 = .ok (.aload_n 0, 1) := by decide +kernel
theorem dL_law_1084 : decode cL_law 1084 = .ok (.iload_n 3, 1) := by decide +kernel
theorem dL_law_1085 : decode cL_law 1085 = .ok (.iconst 1, 1) := by decide +kernel
theorem dL_law_1086 : decode cL_law 1086 = .ok (.iadd, 1) := by decide +kernel
theorem dL_law_1087 : decode cL_law 1087 = .ok (.iaload, 1) := by decide +kernel
theorem dL_law_1088 : decode cL_law 1088 = .ok (.aload_n 0, 1) := by decide +kernel
theorem dL_law_1089 : decode cL_law 1089 = .ok (.iload_n 3, 1) := by decide +kernel
theorem dL_law_1090 : decode cL_law 1090 = .ok (.iconst 2, 1) := by decide +kernel
theorem dL_law_1091 : decode cL_law 1091 = .ok (.iadd, 1) := by decide +kernel
theorem dL_law_1092 : decode cL_law 1092 = .ok (.iaload, 1) := by decide +kernel
theorem dL_law_1093 : decode cL_law 1093 = .ok (.aload_n 0, 1) := by decide +kernel
theorem dL_law_1094 : decode cL_law 1094 = .ok (.iload_n 3, 1) := by decide +kernel
theorem dL_law_1095 : decode cL_law 1095 = .ok (.iconst 3, 1) := by decide +kernel
theorem dL_law_1096 : decode cL_law 1096 = .ok (.iadd, 1) := by decide +kernel
theorem dL_law_1097 : decode cL_law 1097 = .ok (.iaload, 1) := by decide +kernel
theorem dL_law_1098 : decode cL_law 1098 = .ok (.invokevirtual 149, 3) := by decide +kernel
theorem dL_law_1101 : decode cL_law 1101 = .ok (.aload_n 2, 1) := by decide +kernel
theorem dL_law_1102 : decode cL_law 1102 = .ok (.aload_n 0, 1) := by decide +kernel
theorem dL_law_1103 : decode cL_law 1103 = .ok (.iload_n 3, 1) := by decide +kernel
theorem dL_law_1104 : decode cL_law 1104 = .ok (.iconst 1, 1) := by decide +kernel
theorem dL_law_1105 : decode cL_law 1105 = .ok (.iadd, 1) := by decide +kernel
theorem dL_law_1106 : decode cL_law 1106 = .ok (.iaload, 1) := by decide +kernel
theorem dL_law_1107 : decode cL_law 1107 = .ok (.aload_n 0, 1) := by decide +kernel
theorem dL_law_1108 : decode cL_law 1108 = .ok (.iload_n 3, 1) := by decide +kernel
theorem dL_law_1109 : decode cL_law 1109 = .ok (.iconst 2, 1) := by decide +kernel
theorem dL_law_1110 : decode cL_law 1110 = .ok (.iadd, 1) := by decide +kernel
theorem dL_law_1111 : decode cL_law 1111 = .ok (.iaload, 1) := by decide +kernel
theorem dL_law_1112 : decode cL_law 1112 = .ok (.aload_n 0, 1) := by decide +kernel
theorem dL_law_1113 : decode cL_law 1113 = .ok (.iload_n 3, 1) := by decide +kernel
theorem dL_law_1114 : decode cL_law 1114 = .ok (.iconst 3, 1) := by decide +kernel
theorem dL_law_1115 : decode cL_law 1115 = .ok (.iadd, 1) := by decide +kernel
theorem dL_law_1116 : decode cL_law 1116 = .ok (.iaload, 1) := by decide +kernel
theorem dL_law_1117 : decode cL_law 1117 = .ok (.invokevirtual 152, 3) := by decide +kernel
theorem dL_law_1120 : decode cL_law 1120 = .ok (.if_icmp .eq 137, 3) := by decide +kernel
theorem dL_law_1123 : decode cL_law 1123 = .ok (.iconst 0, 1) := by decide +kernel
theorem dL_law_1124 : decode cL_law 1124 = .ok (.ireturn, 1) := by decide +kernel
theorem dL_law_1125 : decode cL_law 1125 = .ok (.aload_n 1, 1) := by decide +kernel
theorem dL_law_1126 : decode cL_law 1126 = .ok (.aload_n 0, 1) := by decide +kernel
theorem dL_law_1127 : decode cL_law 1127 = .ok (.iload_n 3, 1) := by decide +kernel
theorem dL_law_1128 : decode cL_law 1128 = .ok (.iconst 1, 1) := by decide +kernel
theorem dL_law_1129 : decode cL_law 1129 = .ok (.iadd, 1) := by decide +kernel
theorem dL_law_1130 : decode cL_law 1130 = .ok (.iaload, 1) := by decide +kernel
theorem dL_law_1131 : decode cL_law 1131 = .ok (.aload_n 0, 1) := by decide +kernel
theorem dL_law_1132 : decode cL_law 1132 = .ok (.iload_n 3, 1) := by decide +kernel
theorem dL_law_1133 : decode cL_law 1133 = .ok (.iconst 2, 1) := by decide +kernel
theorem dL_law_1134 : decode cL_law 1134 = .ok (.iadd, 1) := by decide +kernel
theorem dL_law_1135 : decode cL_law 1135 = .ok (.iaload, 1) := by decide +kernel
theorem dL_law_1136 : decode cL_law 1136 = .ok (.aload_n 0, 1) := by decide +kernel
theorem dL_law_1137 : decode cL_law 1137 = .ok (.iload_n 3, 1) := by decide +kernel
theorem dL_law_1138 : decode cL_law 1138 = .ok (.iconst 3, 1) := by decide +kernel
theorem dL_law_1139 : decode cL_law 1139 = .ok (.iadd, 1) := by decide +kernel
theorem dL_law_1140 : decode cL_law 1140 = .ok (.iaload, 1) := by decide +kernel
theorem dL_law_1141 : decode cL_law 1141 = .ok (.invokevirtual 153, 3) := by decide +kernel
theorem dL_law_1144 : decode cL_law 1144 = .ok (.aload_n 2, 1) := by decide +kernel
theorem dL_law_1145 : decode cL_law 1145 = .ok (.aload_n 0, 1) := by decide +kernel
theorem dL_law_1146 : decode cL_law 1146 = .ok (.iload_n 3, 1) := by decide +kernel
theorem dL_law_1147 : decode cL_law 1147 = .ok (.iconst 1, 1) := by decide +kernel
theorem dL_law_1148 : decode cL_law 1148 = .ok (.iadd, 1) := by decide +kernel
theorem dL_law_1149 : decode cL_law 1149 = .ok (.iaload, 1) := by decide +kernel
theorem dL_law_1150 : decode cL_law 1150 = .ok (.aload_n 0, 1) := by decide +kernel
theorem dL_law_1151 : decode cL_law 1151 = .ok (.iload_n 3, 1) := by decide +kernel
theorem dL_law_1152 : decode cL_law 1152 = .ok (.iconst 2, 1) := by decide +kernel
theorem dL_law_1153 : decode cL_law 1153 = .ok (.iadd, 1) := by decide +kernel
theorem dL_law_1154 : decode cL_law 1154 = .ok (.iaload, 1) := by decide +kernel
theorem dL_law_1155 : decode cL_law 1155 = .ok (.aload_n 0, 1) := by decide +kernel
theorem dL_law_1156 : decode cL_law 1156 = .ok (.iload_n 3, 1) := by decide +kernel
theorem dL_law_1157 : decode cL_law 1157 = .ok (.iconst 3, 1) := by decide +kernel
theorem dL_law_1158 : decode cL_law 1158 = .ok (.iadd, 1) := by decide +kernel
theorem dL_law_1159 : decode cL_law 1159 = .ok (.iaload, 1) := by decide +kernel
theorem dL_law_1160 : decode cL_law 1160 = .ok (.invokevirtual 156, 3) := by decide +kernel
theorem dL_law_1163 : decode cL_law 1163 = .ok (.if_icmp .eq 94, 3) := by decide +kernel
theorem dL_law_1166 : decode cL_law 1166 = .ok (.iconst 0, 1) := by decide +kernel
theorem dL_law_1167 : decode cL_law 1167 = .ok (.ireturn, 1) := by decide +kernel
theorem dL_law_1168 : decode cL_law 1168 = .ok (.aload_n 1, 1) := by decide +kernel
theorem dL_law_1169 : decode cL_law 1169 = .ok (.aload_n 0, 1) := by decide +kernel
theorem dL_law_1170 : decode cL_law 1170 = .ok (.iload_n 3, 1) := by decide +kernel
theorem dL_law_1171 : decode cL_law 1171 = .ok (.iconst 1, 1) := by decide +kernel
theorem dL_law_1172 : decode cL_law 1172 = .ok (.iadd, 1) := by decide +kernel
theorem dL_law_1173 : decode cL_law 1173 = .ok (.iaload, 1) := by decide +kernel
theorem dL_law_1174 : decode cL_law 1174 = .ok (.aload_n 0, 1) := by decide +kernel
theorem dL_law_1175 : decode cL_law 1175 = .ok (.iload_n 3, 1) := by decide +kernel
theorem dL_law_1176 : decode cL_law 1176 = .ok (.iconst 2, 1) := by decide +kernel
theorem dL_law_1177 : decode cL_law 1177 = .ok (.iadd, 1) := by decide +kernel
theorem dL_law_1178 : decode cL_law 1178 = .ok (.iaload, 1) := by decide +kernel
theorem dL_law_1179 : decode cL_law 1179 = .ok (.aload_n 0, 1) := by decide +kernel
theorem dL_law_1180 : decode cL_law 1180 = .ok (.iload_n 3, 1) := by decide +kernel
theorem dL_law_1181 : decode cL_law 1181 = .ok (.iconst 3, 1) := by decide +kernel
theorem dL_law_1182 : decode cL_law 1182 = .ok (.iadd, 1) := by decide +kernel
theorem dL_law_1183 : decode cL_law 1183 = .ok (.iaload, 1) := by decide +kernel
theorem dL_law_1184 : decode cL_law 1184 = .ok (.aload_n 0, 1) := by decide +kernel
theorem dL_law_1185 : decode cL_law 1185 = .ok (.iload_n 3, 1) := by decide +kernel
theorem dL_law_1186 : decode cL_law 1186 = .ok (.iconst 4, 1) := by decide +kernel
theorem dL_law_1187 : decode cL_law 1187 = .ok (.iadd, 1) := by decide +kernel
theorem dL_law_1188 : decode cL_law 1188 = .ok (.iaload, 1) := by decide +kernel
theorem dL_law_1189 : decode cL_law 1189 = .ok (.invokevirtual 157, 3) := by decide +kernel
theorem dL_law_1192 : decode cL_law 1192 = .ok (.aload_n 2, 1) := by decide +kernel
theorem dL_law_1193 : decode cL_law 1193 = .ok (.aload_n 0, 1) := by decide +kernel
theorem dL_law_1194 : decode cL_law 1194 = .ok (.iload_n 3, 1) := by decide +kernel
theorem dL_law_1195 : decode cL_law 1195 = .ok (.iconst 1, 1) := by decide +kernel
theorem dL_law_1196 : decode cL_law 1196 = .ok (.iadd, 1) := by decide +kernel
theorem dL_law_1197 : decode cL_law 1197 = .ok (.iaload, 1) := by decide +kernel
theorem dL_law_1198 : decode cL_law 1198 = .ok (.aload_n 0, 1) := by decide +kernel
theorem dL_law_1199 : decode cL_law 1199 = .ok (.iload_n 3, 1) := by decide +kernel
theorem dL_law_1200 : decode cL_law 1200 = .ok (.iconst 2, 1) := by decide +kernel
theorem dL_law_1201 : decode cL_law 1201 = .ok (.iadd, 1) := by decide +kernel
theorem dL_law_1202 : decode cL_law 1202 = .ok (.iaload, 1) := by decide +kernel
theorem dL_law_1203 : decode cL_law 1203 = .ok (.aload_n 0, 1) := by decide +kernel
theorem dL_law_1204 : decode cL_law 1204 = .ok (.iload_n 3, 1) := by decide +kernel
theorem dL_law_1205 : decode cL_law 1205 = .ok (.iconst 3, 1) := by decide +kernel
theorem dL_law_1206 : decode cL_law 1206 = .ok (.iadd, 1) := by decide +kernel
theorem dL_law_1207 : decode cL_law 1207 = .ok (.iaload, 1) := by decide +kernel
theorem dL_law_1208 : decode cL_law 1208 = .ok (.aload_n 0, 1) := by decide +kernel
theorem dL_law_1209 : decode cL_law 1209 = .ok (.iload_n 3, 1) := by decide +kernel
theorem dL_law_1210 : decode cL_law 1210 = .ok (.iconst 4, 1) := by decide +kernel
theorem dL_law_1211 : decode cL_law 1211 = .ok (.iadd, 1) := by decide +kernel
theorem dL_law_1212 : decode cL_law 1212 = .ok (.iaload, 1) := by decide +kernel
theorem dL_law_1213 : decode cL_law 1213 = .ok (.invokevirtual 160, 3) := by decide +kernel
theorem dL_law_1216 : decode cL_law 1216 = .ok (.if_icmp .eq 41, 3) := by decide +kernel
theorem dL_law_1219 : decode cL_law 1219 = .ok (.iconst 0, 1) := by decide +kernel
theorem dL_law_1220 : decode cL_law 1220 = .ok (.ireturn, 1) := by decide +kernel
theorem dL_law_1221 : decode cL_law 1221 = .ok (.aload_n 1, 1) := by decide +kernel
theorem dL_law_1222 : decode cL_law 1222 = .ok (.invokevirtual 161, 3) := by decide +kernel
theorem dL_law_1225 : decode cL_law 1225 = .ok (.aload_n 2, 1) := by decide +kernel
theorem dL_law_1226 : decode cL_law 1226 = .ok (.invokevirtual 164, 3) := by decide +kernel
theorem dL_law_1229 : decode cL_law 1229 = .ok (.if_icmp .eq 28, 3) := by decide +kernel
theorem dL_law_1232 : decode cL_law 1232 = .ok (.iconst 0, 1) := by decide +kernel
theorem dL_law_1233 : decode cL_law 1233 = .ok (.ireturn, 1) := by decide +kernel
theorem dL_law_1234 : decode cL_law 1234 = .ok (.aload_n 1, 1) := by decide +kernel
theorem dL_law_1235 : decode cL_law 1235 = .ok (.aload_n 0, 1) := by decide +kernel
theorem dL_law_1236 : decode cL_law 1236 = .ok (.iload_n 3, 1) := by decide +kernel
theorem dL_law_1237 : decode cL_law 1237 = .ok (.iconst 1, 1) := by decide +kernel
theorem dL_law_1238 : decode cL_law 1238 = .ok (.iadd, 1) := by decide +kernel
theorem dL_law_1239 : decode cL_law 1239 = .ok (.iaload, 1) := by decide +kernel
theorem dL_law_1240 : decode cL_law 1240 = .ok (.invokevirtual 165, 3) := by decide +kernel
theorem dL_law_1243 : decode cL_law 1243 = .ok (.aload_n 2, 1) := by decide +kernel
theorem dL_law_1244 : decode cL_law 1244 = .ok (.aload_n 0, 1) := by decide +kernel
theorem dL_law_1245 : decode cL_law 1245 = .ok (.iload_n 3, 1) := by decide +kernel
theorem dL_law_1246 : decode cL_law 1246 = .ok (.iconst 1, 1) := by decide +kernel
theorem dL_law_1247 : decode cL_law 1247 = .ok (.iadd, 1) := by decide +kernel
theorem dL_law_1248 : decode cL_law 1248 = .ok (.iaload, 1) := by decide +kernel
theorem dL_law_1249 : decode cL_law 1249 = .ok (.invokevirtual 168, 3) := by decide +kernel
theorem dL_law_1252 : decode cL_law 1252 = .ok (.if_icmp .eq 5, 3) := by decide +kernel
theorem dL_law_1255 : decode cL_law 1255 = .ok (.iconst 0, 1) := by decide +kernel
theorem dL_law_1256 : decode cL_law 1256 = .ok (.ireturn, 1) := by decide +kernel
theorem dL_law_1257 : decode cL_law 1257 = .ok (.iinc 3 5, 3) := by decide +kernel
theorem dL_law_1260 : decode cL_law 1260 = .ok (.goto (-1242), 3) := by decide +kernel
theorem dL_law_1263 : decode cL_law 1263 = .ok (.iconst 1, 1) := by decide +kernel
theorem dL_law_1264 : decode cL_law 1264 = .ok (.ireturn, 1) := by decide +kernel
theorem kl_L_13 : Cond.constantLong R_law 13 4294967295 ∈ TBg := tb 1513 (by decide +kernel) rfl
theorem mv_X8_feed : MV yX8_feed cX8_feed 3 (some .int) 1 := ⟨tb 464 (by decide +kernel) rfl, tb 1 (by decide +kernel) rfl, by decide +kernel⟩
theorem mv_X8_feedv : Cond.instanceMethod yX8_feed ∈ TBg ∧ Cond.selects yX8_feed.cls yX8_feed yX8_feed ∈ TBg := ⟨tb 462 (by decide +kernel) rfl, tb 463 (by decide +kernel) rfl⟩
theorem lk_L_15 : Cond.methodLink R_law 15 yX8_feed ∈ TBg := tb 461 (by decide +kernel) rfl
theorem mv_X9_feed : MV yX9_feed cX9_feed 4 (some .int) 1 := ⟨tb 1152 (by decide +kernel) rfl, tb 13 (by decide +kernel) rfl, by decide +kernel⟩
theorem mv_X9_feedv : Cond.instanceMethod yX9_feed ∈ TBg ∧ Cond.selects yX9_feed.cls yX9_feed yX9_feed ∈ TBg := ⟨tb 1150 (by decide +kernel) rfl, tb 1151 (by decide +kernel) rfl⟩
theorem lk_L_19 : Cond.methodLink R_law 19 yX9_feed ∈ TBg := tb 1149 (by decide +kernel) rfl
theorem mv_X8_end : MV yX8_end cX8_end 2 (some .int) 1 := ⟨tb 472 (by decide +kernel) rfl, tb 1 (by decide +kernel) rfl, by decide +kernel⟩
theorem mv_X8_endv : Cond.instanceMethod yX8_end ∈ TBg ∧ Cond.selects yX8_end.cls yX8_end yX8_end ∈ TBg := ⟨tb 470 (by decide +kernel) rfl, tb 471 (by decide +kernel) rfl⟩
theorem lk_L_20 : Cond.methodLink R_law 20 yX8_end ∈ TBg := tb 469 (by decide +kernel) rfl
theorem mv_X9_end : MV yX9_end cX9_end 3 (some .int) 1 := ⟨tb 1157 (by decide +kernel) rfl, tb 13 (by decide +kernel) rfl, by decide +kernel⟩
theorem mv_X9_endv : Cond.instanceMethod yX9_end ∈ TBg ∧ Cond.selects yX9_end.cls yX9_end yX9_end ∈ TBg := ⟨tb 1155 (by decide +kernel) rfl, tb 1156 (by decide +kernel) rfl⟩
theorem lk_L_24 : Cond.methodLink R_law 24 yX9_end ∈ TBg := tb 1154 (by decide +kernel) rfl
theorem mv_X8_text : MV yX8_text cX8_text 2 (some .int) 0 := ⟨tb 480 (by decide +kernel) rfl, tb 1 (by decide +kernel) rfl, by decide +kernel⟩
theorem mv_X8_textv : Cond.instanceMethod yX8_text ∈ TBg ∧ Cond.selects yX8_text.cls yX8_text yX8_text ∈ TBg := ⟨tb 478 (by decide +kernel) rfl, tb 479 (by decide +kernel) rfl⟩
theorem lk_L_25 : Cond.methodLink R_law 25 yX8_text ∈ TBg := tb 477 (by decide +kernel) rfl
theorem mv_X9_text : MV yX9_text cX9_text 2 (some .int) 0 := ⟨tb 1164 (by decide +kernel) rfl, tb 13 (by decide +kernel) rfl, by decide +kernel⟩
theorem mv_X9_textv : Cond.instanceMethod yX9_text ∈ TBg ∧ Cond.selects yX9_text.cls yX9_text yX9_text ∈ TBg := ⟨tb 1162 (by decide +kernel) rfl, tb 1163 (by decide +kernel) rfl⟩
theorem lk_L_29 : Cond.methodLink R_law 29 yX9_text ∈ TBg := tb 1161 (by decide +kernel) rfl
theorem mv_X8_fault : MV yX8_fault cX8_fault 1 (some .int) 0 := ⟨tb 610 (by decide +kernel) rfl, tb 1 (by decide +kernel) rfl, by decide +kernel⟩
theorem mv_X8_faultv : Cond.instanceMethod yX8_fault ∈ TBg ∧ Cond.selects yX8_fault.cls yX8_fault yX8_fault ∈ TBg := ⟨tb 608 (by decide +kernel) rfl, tb 609 (by decide +kernel) rfl⟩
theorem lk_L_30 : Cond.methodLink R_law 30 yX8_fault ∈ TBg := tb 607 (by decide +kernel) rfl
theorem mv_X9_fault : MV yX9_fault cX9_fault 1 (some .int) 0 := ⟨tb 1230 (by decide +kernel) rfl, tb 13 (by decide +kernel) rfl, by decide +kernel⟩
theorem mv_X9_faultv : Cond.instanceMethod yX9_fault ∈ TBg ∧ Cond.selects yX9_fault.cls yX9_fault yX9_fault ∈ TBg := ⟨tb 1228 (by decide +kernel) rfl, tb 1229 (by decide +kernel) rfl⟩
theorem lk_L_33 : Cond.methodLink R_law 33 yX9_fault ∈ TBg := tb 1227 (by decide +kernel) rfl
theorem mv_X8_hold : MV yX8_hold cX8_hold 3 (some .int) 2 := ⟨tb 614 (by decide +kernel) rfl, tb 1 (by decide +kernel) rfl, by decide +kernel⟩
theorem mv_X8_holdv : Cond.instanceMethod yX8_hold ∈ TBg ∧ Cond.selects yX8_hold.cls yX8_hold yX8_hold ∈ TBg := ⟨tb 612 (by decide +kernel) rfl, tb 613 (by decide +kernel) rfl⟩
theorem lk_L_34 : Cond.methodLink R_law 34 yX8_hold ∈ TBg := tb 611 (by decide +kernel) rfl
theorem mv_X9_hold : MV yX9_hold cX9_hold 3 (some .int) 2 := ⟨tb 1234 (by decide +kernel) rfl, tb 13 (by decide +kernel) rfl, by decide +kernel⟩
theorem mv_X9_holdv : Cond.instanceMethod yX9_hold ∈ TBg ∧ Cond.selects yX9_hold.cls yX9_hold yX9_hold ∈ TBg := ⟨tb 1232 (by decide +kernel) rfl, tb 1233 (by decide +kernel) rfl⟩
theorem lk_L_38 : Cond.methodLink R_law 38 yX9_hold ∈ TBg := tb 1231 (by decide +kernel) rfl
theorem mv_X8_door : MV yX8_door cX8_door 3 (some .int) 2 := ⟨tb 625 (by decide +kernel) rfl, tb 1 (by decide +kernel) rfl, by decide +kernel⟩
theorem mv_X8_doorv : Cond.instanceMethod yX8_door ∈ TBg ∧ Cond.selects yX8_door.cls yX8_door yX8_door ∈ TBg := ⟨tb 623 (by decide +kernel) rfl, tb 624 (by decide +kernel) rfl⟩
theorem lk_L_39 : Cond.methodLink R_law 39 yX8_door ∈ TBg := tb 622 (by decide +kernel) rfl
theorem mv_X9_door : MV yX9_door cX9_door 3 (some .int) 2 := ⟨tb 1247 (by decide +kernel) rfl, tb 13 (by decide +kernel) rfl, by decide +kernel⟩
theorem mv_X9_doorv : Cond.instanceMethod yX9_door ∈ TBg ∧ Cond.selects yX9_door.cls yX9_door yX9_door ∈ TBg := ⟨tb 1245 (by decide +kernel) rfl, tb 1246 (by decide +kernel) rfl⟩
theorem lk_L_42 : Cond.methodLink R_law 42 yX9_door ∈ TBg := tb 1244 (by decide +kernel) rfl
theorem mv_X8_hole : MV yX8_hole cX8_hole 3 (some .int) 2 := ⟨tb 637 (by decide +kernel) rfl, tb 1 (by decide +kernel) rfl, by decide +kernel⟩
theorem mv_X8_holev : Cond.instanceMethod yX8_hole ∈ TBg ∧ Cond.selects yX8_hole.cls yX8_hole yX8_hole ∈ TBg := ⟨tb 635 (by decide +kernel) rfl, tb 636 (by decide +kernel) rfl⟩
theorem lk_L_43 : Cond.methodLink R_law 43 yX8_hole ∈ TBg := tb 634 (by decide +kernel) rfl
theorem mv_X9_hole : MV yX9_hole cX9_hole 3 (some .int) 2 := ⟨tb 1256 (by decide +kernel) rfl, tb 13 (by decide +kernel) rfl, by decide +kernel⟩
theorem mv_X9_holev : Cond.instanceMethod yX9_hole ∈ TBg ∧ Cond.selects yX9_hole.cls yX9_hole yX9_hole ∈ TBg := ⟨tb 1254 (by decide +kernel) rfl, tb 1255 (by decide +kernel) rfl⟩
theorem lk_L_46 : Cond.methodLink R_law 46 yX9_hole ∈ TBg := tb 1253 (by decide +kernel) rfl
theorem mv_X8_pump : MV yX8_pump cX8_pump 3 (some .int) 2 := ⟨tb 653 (by decide +kernel) rfl, tb 1 (by decide +kernel) rfl, by decide +kernel⟩
theorem mv_X8_pumpv : Cond.instanceMethod yX8_pump ∈ TBg ∧ Cond.selects yX8_pump.cls yX8_pump yX8_pump ∈ TBg := ⟨tb 651 (by decide +kernel) rfl, tb 652 (by decide +kernel) rfl⟩
theorem lk_L_47 : Cond.methodLink R_law 47 yX8_pump ∈ TBg := tb 650 (by decide +kernel) rfl
theorem mv_X9_pump : MV yX9_pump cX9_pump 3 (some .int) 2 := ⟨tb 1268 (by decide +kernel) rfl, tb 13 (by decide +kernel) rfl, by decide +kernel⟩
theorem mv_X9_pumpv : Cond.instanceMethod yX9_pump ∈ TBg ∧ Cond.selects yX9_pump.cls yX9_pump yX9_pump ∈ TBg := ⟨tb 1266 (by decide +kernel) rfl, tb 1267 (by decide +kernel) rfl⟩
theorem lk_L_50 : Cond.methodLink R_law 50 yX9_pump ∈ TBg := tb 1265 (by decide +kernel) rfl
theorem mv_X8_rule : MV yX8_rule cX8_rule 2 (some .int) 1 := ⟨tb 661 (by decide +kernel) rfl, tb 1 (by decide +kernel) rfl, by decide +kernel⟩
theorem mv_X8_rulev : Cond.instanceMethod yX8_rule ∈ TBg ∧ Cond.selects yX8_rule.cls yX8_rule yX8_rule ∈ TBg := ⟨tb 659 (by decide +kernel) rfl, tb 660 (by decide +kernel) rfl⟩
theorem lk_L_51 : Cond.methodLink R_law 51 yX8_rule ∈ TBg := tb 658 (by decide +kernel) rfl
theorem mv_X9_rule : MV yX9_rule cX9_rule 2 (some .int) 1 := ⟨tb 1272 (by decide +kernel) rfl, tb 13 (by decide +kernel) rfl, by decide +kernel⟩
theorem mv_X9_rulev : Cond.instanceMethod yX9_rule ∈ TBg ∧ Cond.selects yX9_rule.cls yX9_rule yX9_rule ∈ TBg := ⟨tb 1270 (by decide +kernel) rfl, tb 1271 (by decide +kernel) rfl⟩
theorem lk_L_54 : Cond.methodLink R_law 54 yX9_rule ∈ TBg := tb 1269 (by decide +kernel) rfl
theorem mv_X8_put : MV yX8_put cX8_put 4 (some .int) 2 := ⟨tb 665 (by decide +kernel) rfl, tb 1 (by decide +kernel) rfl, by decide +kernel⟩
theorem mv_X8_putv : Cond.instanceMethod yX8_put ∈ TBg ∧ Cond.selects yX8_put.cls yX8_put yX8_put ∈ TBg := ⟨tb 663 (by decide +kernel) rfl, tb 664 (by decide +kernel) rfl⟩
theorem lk_L_55 : Cond.methodLink R_law 55 yX8_put ∈ TBg := tb 662 (by decide +kernel) rfl
theorem mv_X9_put : MV yX9_put cX9_put 4 (some .int) 2 := ⟨tb 1276 (by decide +kernel) rfl, tb 13 (by decide +kernel) rfl, by decide +kernel⟩
theorem mv_X9_putv : Cond.instanceMethod yX9_put ∈ TBg ∧ Cond.selects yX9_put.cls yX9_put yX9_put ∈ TBg := ⟨tb 1274 (by decide +kernel) rfl, tb 1275 (by decide +kernel) rfl⟩
theorem lk_L_58 : Cond.methodLink R_law 58 yX9_put ∈ TBg := tb 1273 (by decide +kernel) rfl
theorem mv_X8_go : MV yX8_go cX8_go 3 (some .int) 1 := ⟨tb 670 (by decide +kernel) rfl, tb 1 (by decide +kernel) rfl, by decide +kernel⟩
theorem mv_X8_gov : Cond.instanceMethod yX8_go ∈ TBg ∧ Cond.selects yX8_go.cls yX8_go yX8_go ∈ TBg := ⟨tb 668 (by decide +kernel) rfl, tb 669 (by decide +kernel) rfl⟩
theorem lk_L_59 : Cond.methodLink R_law 59 yX8_go ∈ TBg := tb 667 (by decide +kernel) rfl
theorem mv_X9_go : MV yX9_go cX9_go 3 (some .int) 1 := ⟨tb 1280 (by decide +kernel) rfl, tb 13 (by decide +kernel) rfl, by decide +kernel⟩
theorem mv_X9_gov : Cond.instanceMethod yX9_go ∈ TBg ∧ Cond.selects yX9_go.cls yX9_go yX9_go ∈ TBg := ⟨tb 1278 (by decide +kernel) rfl, tb 1279 (by decide +kernel) rfl⟩
theorem lk_L_62 : Cond.methodLink R_law 62 yX9_go ∈ TBg := tb 1277 (by decide +kernel) rfl
theorem mv_X8_now : MV yX8_now cX8_now 2 (some .int) 1 := ⟨tb 733 (by decide +kernel) rfl, tb 1 (by decide +kernel) rfl, by decide +kernel⟩
theorem mv_X8_nowv : Cond.instanceMethod yX8_now ∈ TBg ∧ Cond.selects yX8_now.cls yX8_now yX8_now ∈ TBg := ⟨tb 731 (by decide +kernel) rfl, tb 732 (by decide +kernel) rfl⟩
theorem lk_L_63 : Cond.methodLink R_law 63 yX8_now ∈ TBg := tb 730 (by decide +kernel) rfl
theorem mv_X9_now : MV yX9_now cX9_now 2 (some .int) 1 := ⟨tb 1317 (by decide +kernel) rfl, tb 13 (by decide +kernel) rfl, by decide +kernel⟩
theorem mv_X9_nowv : Cond.instanceMethod yX9_now ∈ TBg ∧ Cond.selects yX9_now.cls yX9_now yX9_now ∈ TBg := ⟨tb 1315 (by decide +kernel) rfl, tb 1316 (by decide +kernel) rfl⟩
theorem lk_L_66 : Cond.methodLink R_law 66 yX9_now ∈ TBg := tb 1314 (by decide +kernel) rfl
theorem mv_X8_keep : MV yX8_keep cX8_keep 3 (some .int) 1 := ⟨tb 739 (by decide +kernel) rfl, tb 1 (by decide +kernel) rfl, by decide +kernel⟩
theorem mv_X8_keepv : Cond.instanceMethod yX8_keep ∈ TBg ∧ Cond.selects yX8_keep.cls yX8_keep yX8_keep ∈ TBg := ⟨tb 737 (by decide +kernel) rfl, tb 738 (by decide +kernel) rfl⟩
theorem lk_L_67 : Cond.methodLink R_law 67 yX8_keep ∈ TBg := tb 736 (by decide +kernel) rfl
theorem mv_X9_keep : MV yX9_keep cX9_keep 3 (some .int) 1 := ⟨tb 1321 (by decide +kernel) rfl, tb 13 (by decide +kernel) rfl, by decide +kernel⟩
theorem mv_X9_keepv : Cond.instanceMethod yX9_keep ∈ TBg ∧ Cond.selects yX9_keep.cls yX9_keep yX9_keep ∈ TBg := ⟨tb 1319 (by decide +kernel) rfl, tb 1320 (by decide +kernel) rfl⟩
theorem lk_L_70 : Cond.methodLink R_law 70 yX9_keep ∈ TBg := tb 1318 (by decide +kernel) rfl
theorem mv_X8_back : MV yX8_back cX8_back 2 (some .int) 1 := ⟨tb 756 (by decide +kernel) rfl, tb 1 (by decide +kernel) rfl, by decide +kernel⟩
theorem mv_X8_backv : Cond.instanceMethod yX8_back ∈ TBg ∧ Cond.selects yX8_back.cls yX8_back yX8_back ∈ TBg := ⟨tb 754 (by decide +kernel) rfl, tb 755 (by decide +kernel) rfl⟩
theorem lk_L_71 : Cond.methodLink R_law 71 yX8_back ∈ TBg := tb 753 (by decide +kernel) rfl
theorem mv_X9_back : MV yX9_back cX9_back 2 (some .int) 1 := ⟨tb 1329 (by decide +kernel) rfl, tb 13 (by decide +kernel) rfl, by decide +kernel⟩
theorem mv_X9_backv : Cond.instanceMethod yX9_back ∈ TBg ∧ Cond.selects yX9_back.cls yX9_back yX9_back ∈ TBg := ⟨tb 1327 (by decide +kernel) rfl, tb 1328 (by decide +kernel) rfl⟩
theorem lk_L_74 : Cond.methodLink R_law 74 yX9_back ∈ TBg := tb 1326 (by decide +kernel) rfl
theorem mv_X8_order : MV yX8_order cX8_order 5 (some .int) 4 := ⟨tb 760 (by decide +kernel) rfl, tb 1 (by decide +kernel) rfl, by decide +kernel⟩
theorem mv_X8_orderv : Cond.instanceMethod yX8_order ∈ TBg ∧ Cond.selects yX8_order.cls yX8_order yX8_order ∈ TBg := ⟨tb 758 (by decide +kernel) rfl, tb 759 (by decide +kernel) rfl⟩
theorem lk_L_75 : Cond.methodLink R_law 75 yX8_order ∈ TBg := tb 757 (by decide +kernel) rfl
theorem mv_X9_order : MV yX9_order cX9_order 5 (some .int) 4 := ⟨tb 1333 (by decide +kernel) rfl, tb 13 (by decide +kernel) rfl, by decide +kernel⟩
theorem mv_X9_orderv : Cond.instanceMethod yX9_order ∈ TBg ∧ Cond.selects yX9_order.cls yX9_order yX9_order ∈ TBg := ⟨tb 1331 (by decide +kernel) rfl, tb 1332 (by decide +kernel) rfl⟩
theorem lk_L_79 : Cond.methodLink R_law 79 yX9_order ∈ TBg := tb 1330 (by decide +kernel) rfl
theorem mv_X8_given : MV yX8_given cX8_given 4 (some .int) 2 := ⟨tb 776 (by decide +kernel) rfl, tb 1 (by decide +kernel) rfl, by decide +kernel⟩
theorem mv_X8_givenv : Cond.instanceMethod yX8_given ∈ TBg ∧ Cond.selects yX8_given.cls yX8_given yX8_given ∈ TBg := ⟨tb 774 (by decide +kernel) rfl, tb 775 (by decide +kernel) rfl⟩
theorem lk_L_80 : Cond.methodLink R_law 80 yX8_given ∈ TBg := tb 773 (by decide +kernel) rfl
theorem mv_X9_given : MV yX9_given cX9_given 3 (some .int) 2 := ⟨tb 1346 (by decide +kernel) rfl, tb 13 (by decide +kernel) rfl, by decide +kernel⟩
theorem mv_X9_givenv : Cond.instanceMethod yX9_given ∈ TBg ∧ Cond.selects yX9_given.cls yX9_given yX9_given ∈ TBg := ⟨tb 1344 (by decide +kernel) rfl, tb 1345 (by decide +kernel) rfl⟩
theorem lk_L_83 : Cond.methodLink R_law 83 yX9_given ∈ TBg := tb 1343 (by decide +kernel) rfl
theorem mv_X8_recall : MV yX8_recall cX8_recall 1 (some .int) 0 := ⟨tb 780 (by decide +kernel) rfl, tb 1 (by decide +kernel) rfl, by decide +kernel⟩
theorem mv_X8_recallv : Cond.instanceMethod yX8_recall ∈ TBg ∧ Cond.selects yX8_recall.cls yX8_recall yX8_recall ∈ TBg := ⟨tb 778 (by decide +kernel) rfl, tb 779 (by decide +kernel) rfl⟩
theorem lk_L_84 : Cond.methodLink R_law 84 yX8_recall ∈ TBg := tb 777 (by decide +kernel) rfl
theorem mv_X9_recall : MV yX9_recall cX9_recall 3 (some .int) 0 := ⟨tb 1350 (by decide +kernel) rfl, tb 13 (by decide +kernel) rfl, by decide +kernel⟩
theorem mv_X9_recallv : Cond.instanceMethod yX9_recall ∈ TBg ∧ Cond.selects yX9_recall.cls yX9_recall yX9_recall ∈ TBg := ⟨tb 1348 (by decide +kernel) rfl, tb 1349 (by decide +kernel) rfl⟩
theorem lk_L_87 : Cond.methodLink R_law 87 yX9_recall ∈ TBg := tb 1347 (by decide +kernel) rfl
theorem mv_X8_run : MV yX8_run cX8_run 4 (some .int) 2 := ⟨tb 789 (by decide +kernel) rfl, tb 1 (by decide +kernel) rfl, by decide +kernel⟩
theorem mv_X8_runv : Cond.instanceMethod yX8_run ∈ TBg ∧ Cond.selects yX8_run.cls yX8_run yX8_run ∈ TBg := ⟨tb 787 (by decide +kernel) rfl, tb 788 (by decide +kernel) rfl⟩
theorem lk_L_88 : Cond.methodLink R_law 88 yX8_run ∈ TBg := tb 786 (by decide +kernel) rfl
theorem mv_X9_run : MV yX9_run cX9_run 3 (some .int) 2 := ⟨tb 1354 (by decide +kernel) rfl, tb 13 (by decide +kernel) rfl, by decide +kernel⟩
theorem mv_X9_runv : Cond.instanceMethod yX9_run ∈ TBg ∧ Cond.selects yX9_run.cls yX9_run yX9_run ∈ TBg := ⟨tb 1352 (by decide +kernel) rfl, tb 1353 (by decide +kernel) rfl⟩
theorem lk_L_91 : Cond.methodLink R_law 91 yX9_run ∈ TBg := tb 1351 (by decide +kernel) rfl
theorem mv_X8_water : MV yX8_water cX8_water 3 (some .int) 2 := ⟨tb 798 (by decide +kernel) rfl, tb 1 (by decide +kernel) rfl, by decide +kernel⟩
theorem mv_X8_waterv : Cond.instanceMethod yX8_water ∈ TBg ∧ Cond.selects yX8_water.cls yX8_water yX8_water ∈ TBg := ⟨tb 796 (by decide +kernel) rfl, tb 797 (by decide +kernel) rfl⟩
theorem lk_L_92 : Cond.methodLink R_law 92 yX8_water ∈ TBg := tb 795 (by decide +kernel) rfl
theorem mv_X9_water : MV yX9_water cX9_water 3 (some .int) 2 := ⟨tb 1366 (by decide +kernel) rfl, tb 13 (by decide +kernel) rfl, by decide +kernel⟩
theorem mv_X9_waterv : Cond.instanceMethod yX9_water ∈ TBg ∧ Cond.selects yX9_water.cls yX9_water yX9_water ∈ TBg := ⟨tb 1364 (by decide +kernel) rfl, tb 1365 (by decide +kernel) rfl⟩
theorem lk_L_95 : Cond.methodLink R_law 95 yX9_water ∈ TBg := tb 1363 (by decide +kernel) rfl
theorem mv_X8_free : MV yX8_free cX8_free 2 (some .int) 1 := ⟨tb 802 (by decide +kernel) rfl, tb 1 (by decide +kernel) rfl, by decide +kernel⟩
theorem mv_X8_freev : Cond.instanceMethod yX8_free ∈ TBg ∧ Cond.selects yX8_free.cls yX8_free yX8_free ∈ TBg := ⟨tb 800 (by decide +kernel) rfl, tb 801 (by decide +kernel) rfl⟩
theorem lk_L_96 : Cond.methodLink R_law 96 yX8_free ∈ TBg := tb 799 (by decide +kernel) rfl
theorem mv_X9_free : MV yX9_free cX9_free 2 (some .int) 1 := ⟨tb 1370 (by decide +kernel) rfl, tb 13 (by decide +kernel) rfl, by decide +kernel⟩
theorem mv_X9_freev : Cond.instanceMethod yX9_free ∈ TBg ∧ Cond.selects yX9_free.cls yX9_free yX9_free ∈ TBg := ⟨tb 1368 (by decide +kernel) rfl, tb 1369 (by decide +kernel) rfl⟩
theorem lk_L_99 : Cond.methodLink R_law 99 yX9_free ∈ TBg := tb 1367 (by decide +kernel) rfl
theorem mv_X8_best : MV yX8_best cX8_best 5 (some .int) 3 := ⟨tb 807 (by decide +kernel) rfl, tb 1 (by decide +kernel) rfl, by decide +kernel⟩
theorem mv_X8_bestv : Cond.instanceMethod yX8_best ∈ TBg ∧ Cond.selects yX8_best.cls yX8_best yX8_best ∈ TBg := ⟨tb 805 (by decide +kernel) rfl, tb 806 (by decide +kernel) rfl⟩
theorem lk_L_100 : Cond.methodLink R_law 100 yX8_best ∈ TBg := tb 804 (by decide +kernel) rfl
theorem mv_X9_best : MV yX9_best cX9_best 4 (some .int) 3 := ⟨tb 1382 (by decide +kernel) rfl, tb 13 (by decide +kernel) rfl, by decide +kernel⟩
theorem mv_X9_bestv : Cond.instanceMethod yX9_best ∈ TBg ∧ Cond.selects yX9_best.cls yX9_best yX9_best ∈ TBg := ⟨tb 1380 (by decide +kernel) rfl, tb 1381 (by decide +kernel) rfl⟩
theorem lk_L_104 : Cond.methodLink R_law 104 yX9_best ∈ TBg := tb 1379 (by decide +kernel) rfl
theorem mv_X8_latest : MV yX8_latest cX8_latest 4 (some .int) 2 := ⟨tb 845 (by decide +kernel) rfl, tb 1 (by decide +kernel) rfl, by decide +kernel⟩
theorem mv_X8_latestv : Cond.instanceMethod yX8_latest ∈ TBg ∧ Cond.selects yX8_latest.cls yX8_latest yX8_latest ∈ TBg := ⟨tb 843 (by decide +kernel) rfl, tb 844 (by decide +kernel) rfl⟩
theorem lk_L_105 : Cond.methodLink R_law 105 yX8_latest ∈ TBg := tb 842 (by decide +kernel) rfl
theorem mv_X9_latest : MV yX9_latest cX9_latest 4 (some .int) 2 := ⟨tb 1408 (by decide +kernel) rfl, tb 13 (by decide +kernel) rfl, by decide +kernel⟩
theorem mv_X9_latestv : Cond.instanceMethod yX9_latest ∈ TBg ∧ Cond.selects yX9_latest.cls yX9_latest yX9_latest ∈ TBg := ⟨tb 1406 (by decide +kernel) rfl, tb 1407 (by decide +kernel) rfl⟩
theorem lk_L_108 : Cond.methodLink R_law 108 yX9_latest ∈ TBg := tb 1405 (by decide +kernel) rfl
theorem mv_X8_helps : MV yX8_helps cX8_helps 5 (some .int) 1 := ⟨tb 857 (by decide +kernel) rfl, tb 1 (by decide +kernel) rfl, by decide +kernel⟩
theorem mv_X8_helpsv : Cond.instanceMethod yX8_helps ∈ TBg ∧ Cond.selects yX8_helps.cls yX8_helps yX8_helps ∈ TBg := ⟨tb 855 (by decide +kernel) rfl, tb 856 (by decide +kernel) rfl⟩
theorem lk_L_109 : Cond.methodLink R_law 109 yX8_helps ∈ TBg := tb 854 (by decide +kernel) rfl
theorem mv_X9_helps : MV yX9_helps cX9_helps 4 (some .int) 1 := ⟨tb 1420 (by decide +kernel) rfl, tb 13 (by decide +kernel) rfl, by decide +kernel⟩
theorem mv_X9_helpsv : Cond.instanceMethod yX9_helps ∈ TBg ∧ Cond.selects yX9_helps.cls yX9_helps yX9_helps ∈ TBg := ⟨tb 1418 (by decide +kernel) rfl, tb 1419 (by decide +kernel) rfl⟩
theorem lk_L_112 : Cond.methodLink R_law 112 yX9_helps ∈ TBg := tb 1417 (by decide +kernel) rfl
theorem mv_X8_together : MV yX8_together cX8_together 2 (some .int) 1 := ⟨tb 862 (by decide +kernel) rfl, tb 1 (by decide +kernel) rfl, by decide +kernel⟩
theorem mv_X8_togetherv : Cond.instanceMethod yX8_together ∈ TBg ∧ Cond.selects yX8_together.cls yX8_together yX8_together ∈ TBg := ⟨tb 860 (by decide +kernel) rfl, tb 861 (by decide +kernel) rfl⟩
theorem lk_L_113 : Cond.methodLink R_law 113 yX8_together ∈ TBg := tb 859 (by decide +kernel) rfl
theorem mv_X9_together : MV yX9_together cX9_together 2 (some .int) 1 := ⟨tb 1424 (by decide +kernel) rfl, tb 13 (by decide +kernel) rfl, by decide +kernel⟩
theorem mv_X9_togetherv : Cond.instanceMethod yX9_together ∈ TBg ∧ Cond.selects yX9_together.cls yX9_together yX9_together ∈ TBg := ⟨tb 1422 (by decide +kernel) rfl, tb 1423 (by decide +kernel) rfl⟩
theorem lk_L_116 : Cond.methodLink R_law 116 yX9_together ∈ TBg := tb 1421 (by decide +kernel) rfl
theorem mv_X8_beside : MV yX8_beside cX8_beside 5 (some .int) 2 := ⟨tb 871 (by decide +kernel) rfl, tb 1 (by decide +kernel) rfl, by decide +kernel⟩
theorem mv_X8_besidev : Cond.instanceMethod yX8_beside ∈ TBg ∧ Cond.selects yX8_beside.cls yX8_beside yX8_beside ∈ TBg := ⟨tb 869 (by decide +kernel) rfl, tb 870 (by decide +kernel) rfl⟩
theorem lk_L_117 : Cond.methodLink R_law 117 yX8_beside ∈ TBg := tb 868 (by decide +kernel) rfl
theorem mv_X9_beside : MV yX9_beside cX9_beside 7 (some .int) 2 := ⟨tb 1436 (by decide +kernel) rfl, tb 13 (by decide +kernel) rfl, by decide +kernel⟩
theorem mv_X9_besidev : Cond.instanceMethod yX9_beside ∈ TBg ∧ Cond.selects yX9_beside.cls yX9_beside yX9_beside ∈ TBg := ⟨tb 1434 (by decide +kernel) rfl, tb 1435 (by decide +kernel) rfl⟩
theorem lk_L_120 : Cond.methodLink R_law 120 yX9_beside ∈ TBg := tb 1433 (by decide +kernel) rfl
theorem mv_X8_most : MV yX8_most cX8_most 5 (some .int) 1 := ⟨tb 879 (by decide +kernel) rfl, tb 1 (by decide +kernel) rfl, by decide +kernel⟩
theorem mv_X8_mostv : Cond.instanceMethod yX8_most ∈ TBg ∧ Cond.selects yX8_most.cls yX8_most yX8_most ∈ TBg := ⟨tb 877 (by decide +kernel) rfl, tb 878 (by decide +kernel) rfl⟩
theorem lk_L_121 : Cond.methodLink R_law 121 yX8_most ∈ TBg := tb 876 (by decide +kernel) rfl
theorem mv_X9_most : MV yX9_most cX9_most 5 (some .int) 1 := ⟨tb 1440 (by decide +kernel) rfl, tb 13 (by decide +kernel) rfl, by decide +kernel⟩
theorem mv_X9_mostv : Cond.instanceMethod yX9_most ∈ TBg ∧ Cond.selects yX9_most.cls yX9_most yX9_most ∈ TBg := ⟨tb 1438 (by decide +kernel) rfl, tb 1439 (by decide +kernel) rfl⟩
theorem lk_L_124 : Cond.methodLink R_law 124 yX9_most ∈ TBg := tb 1437 (by decide +kernel) rfl
theorem mv_X8_upright : MV yX8_upright cX8_upright 3 (some .int) 1 := ⟨tb 889 (by decide +kernel) rfl, tb 1 (by decide +kernel) rfl, by decide +kernel⟩
theorem mv_X8_uprightv : Cond.instanceMethod yX8_upright ∈ TBg ∧ Cond.selects yX8_upright.cls yX8_upright yX8_upright ∈ TBg := ⟨tb 887 (by decide +kernel) rfl, tb 888 (by decide +kernel) rfl⟩
theorem lk_L_125 : Cond.methodLink R_law 125 yX8_upright ∈ TBg := tb 886 (by decide +kernel) rfl
theorem mv_X9_upright : MV yX9_upright cX9_upright 9 (some .int) 1 := ⟨tb 1447 (by decide +kernel) rfl, tb 13 (by decide +kernel) rfl, by decide +kernel⟩
theorem mv_X9_uprightv : Cond.instanceMethod yX9_upright ∈ TBg ∧ Cond.selects yX9_upright.cls yX9_upright yX9_upright ∈ TBg := ⟨tb 1445 (by decide +kernel) rfl, tb 1446 (by decide +kernel) rfl⟩
theorem lk_L_128 : Cond.methodLink R_law 128 yX9_upright ∈ TBg := tb 1444 (by decide +kernel) rfl
theorem mv_X8_men : MV yX8_men cX8_men 3 (some .int) 1 := ⟨tb 897 (by decide +kernel) rfl, tb 1 (by decide +kernel) rfl, by decide +kernel⟩
theorem mv_X8_menv : Cond.instanceMethod yX8_men ∈ TBg ∧ Cond.selects yX8_men.cls yX8_men yX8_men ∈ TBg := ⟨tb 895 (by decide +kernel) rfl, tb 896 (by decide +kernel) rfl⟩
theorem lk_L_129 : Cond.methodLink R_law 129 yX8_men ∈ TBg := tb 894 (by decide +kernel) rfl
theorem mv_X9_men : MV yX9_men cX9_men 2 (some .int) 1 := ⟨tb 1452 (by decide +kernel) rfl, tb 13 (by decide +kernel) rfl, by decide +kernel⟩
theorem mv_X9_menv : Cond.instanceMethod yX9_men ∈ TBg ∧ Cond.selects yX9_men.cls yX9_men yX9_men ∈ TBg := ⟨tb 1450 (by decide +kernel) rfl, tb 1451 (by decide +kernel) rfl⟩
theorem lk_L_132 : Cond.methodLink R_law 132 yX9_men ∈ TBg := tb 1449 (by decide +kernel) rfl
theorem mv_X8_dry : MV yX8_dry cX8_dry 5 (some .int) 2 := ⟨tb 909 (by decide +kernel) rfl, tb 1 (by decide +kernel) rfl, by decide +kernel⟩
theorem mv_X8_dryv : Cond.instanceMethod yX8_dry ∈ TBg ∧ Cond.selects yX8_dry.cls yX8_dry yX8_dry ∈ TBg := ⟨tb 907 (by decide +kernel) rfl, tb 908 (by decide +kernel) rfl⟩
theorem lk_L_133 : Cond.methodLink R_law 133 yX8_dry ∈ TBg := tb 906 (by decide +kernel) rfl
theorem mv_X9_dry : MV yX9_dry cX9_dry 7 (some .int) 2 := ⟨tb 1468 (by decide +kernel) rfl, tb 13 (by decide +kernel) rfl, by decide +kernel⟩
theorem mv_X9_dryv : Cond.instanceMethod yX9_dry ∈ TBg ∧ Cond.selects yX9_dry.cls yX9_dry yX9_dry ∈ TBg := ⟨tb 1466 (by decide +kernel) rfl, tb 1467 (by decide +kernel) rfl⟩
theorem lk_L_136 : Cond.methodLink R_law 136 yX9_dry ∈ TBg := tb 1465 (by decide +kernel) rfl
theorem mv_X8_sound : MV yX8_sound cX8_sound 2 (some .int) 1 := ⟨tb 921 (by decide +kernel) rfl, tb 1 (by decide +kernel) rfl, by decide +kernel⟩
theorem mv_X8_soundv : Cond.instanceMethod yX8_sound ∈ TBg ∧ Cond.selects yX8_sound.cls yX8_sound yX8_sound ∈ TBg := ⟨tb 919 (by decide +kernel) rfl, tb 920 (by decide +kernel) rfl⟩
theorem lk_L_137 : Cond.methodLink R_law 137 yX8_sound ∈ TBg := tb 918 (by decide +kernel) rfl
theorem mv_X9_sound : MV yX9_sound cX9_sound 2 (some .int) 1 := ⟨tb 1476 (by decide +kernel) rfl, tb 13 (by decide +kernel) rfl, by decide +kernel⟩
theorem mv_X9_soundv : Cond.instanceMethod yX9_sound ∈ TBg ∧ Cond.selects yX9_sound.cls yX9_sound yX9_sound ∈ TBg := ⟨tb 1474 (by decide +kernel) rfl, tb 1475 (by decide +kernel) rfl⟩
theorem lk_L_140 : Cond.methodLink R_law 140 yX9_sound ∈ TBg := tb 1473 (by decide +kernel) rfl
theorem mv_X8_wipe : MV yX8_wipe cX8_wipe 1 (some .int) 0 := ⟨tb 929 (by decide +kernel) rfl, tb 1 (by decide +kernel) rfl, by decide +kernel⟩
theorem mv_X8_wipev : Cond.instanceMethod yX8_wipe ∈ TBg ∧ Cond.selects yX8_wipe.cls yX8_wipe yX8_wipe ∈ TBg := ⟨tb 927 (by decide +kernel) rfl, tb 928 (by decide +kernel) rfl⟩
theorem lk_L_141 : Cond.methodLink R_law 141 yX8_wipe ∈ TBg := tb 926 (by decide +kernel) rfl
theorem mv_X9_wipe : MV yX9_wipe cX9_wipe 2 (some .int) 0 := ⟨tb 1481 (by decide +kernel) rfl, tb 13 (by decide +kernel) rfl, by decide +kernel⟩
theorem mv_X9_wipev : Cond.instanceMethod yX9_wipe ∈ TBg ∧ Cond.selects yX9_wipe.cls yX9_wipe yX9_wipe ∈ TBg := ⟨tb 1479 (by decide +kernel) rfl, tb 1480 (by decide +kernel) rfl⟩
theorem lk_L_144 : Cond.methodLink R_law 144 yX9_wipe ∈ TBg := tb 1478 (by decide +kernel) rfl
theorem mv_X8_rates : MV yX8_rates cX8_rates 2 (some .int) 1 := ⟨tb 937 (by decide +kernel) rfl, tb 1 (by decide +kernel) rfl, by decide +kernel⟩
theorem mv_X8_ratesv : Cond.instanceMethod yX8_rates ∈ TBg ∧ Cond.selects yX8_rates.cls yX8_rates yX8_rates ∈ TBg := ⟨tb 935 (by decide +kernel) rfl, tb 936 (by decide +kernel) rfl⟩
theorem lk_L_145 : Cond.methodLink R_law 145 yX8_rates ∈ TBg := tb 934 (by decide +kernel) rfl
theorem mv_X9_rates : MV yX9_rates cX9_rates 4 (some .int) 1 := ⟨tb 1485 (by decide +kernel) rfl, tb 13 (by decide +kernel) rfl, by decide +kernel⟩
theorem mv_X9_ratesv : Cond.instanceMethod yX9_rates ∈ TBg ∧ Cond.selects yX9_rates.cls yX9_rates yX9_rates ∈ TBg := ⟨tb 1483 (by decide +kernel) rfl, tb 1484 (by decide +kernel) rfl⟩
theorem lk_L_148 : Cond.methodLink R_law 148 yX9_rates ∈ TBg := tb 1482 (by decide +kernel) rfl
theorem mv_X8_sheet : MV yX8_sheet cX8_sheet 4 (some .int) 3 := ⟨tb 951 (by decide +kernel) rfl, tb 1 (by decide +kernel) rfl, by decide +kernel⟩
theorem mv_X8_sheetv : Cond.instanceMethod yX8_sheet ∈ TBg ∧ Cond.selects yX8_sheet.cls yX8_sheet yX8_sheet ∈ TBg := ⟨tb 949 (by decide +kernel) rfl, tb 950 (by decide +kernel) rfl⟩
theorem lk_L_149 : Cond.methodLink R_law 149 yX8_sheet ∈ TBg := tb 948 (by decide +kernel) rfl
theorem mv_X9_sheet : MV yX9_sheet cX9_sheet 5 (some .int) 3 := ⟨tb 1493 (by decide +kernel) rfl, tb 13 (by decide +kernel) rfl, by decide +kernel⟩
theorem mv_X9_sheetv : Cond.instanceMethod yX9_sheet ∈ TBg ∧ Cond.selects yX9_sheet.cls yX9_sheet yX9_sheet ∈ TBg := ⟨tb 1491 (by decide +kernel) rfl, tb 1492 (by decide +kernel) rfl⟩
theorem lk_L_152 : Cond.methodLink R_law 152 yX9_sheet ∈ TBg := tb 1490 (by decide +kernel) rfl
theorem mv_X8_lay : MV yX8_lay cX8_lay 5 (some .int) 3 := ⟨tb 960 (by decide +kernel) rfl, tb 1 (by decide +kernel) rfl, by decide +kernel⟩
theorem mv_X8_layv : Cond.instanceMethod yX8_lay ∈ TBg ∧ Cond.selects yX8_lay.cls yX8_lay yX8_lay ∈ TBg := ⟨tb 958 (by decide +kernel) rfl, tb 959 (by decide +kernel) rfl⟩
theorem lk_L_153 : Cond.methodLink R_law 153 yX8_lay ∈ TBg := tb 957 (by decide +kernel) rfl
theorem mv_X9_lay : MV yX9_lay cX9_lay 4 (some .int) 3 := ⟨tb 1500 (by decide +kernel) rfl, tb 13 (by decide +kernel) rfl, by decide +kernel⟩
theorem mv_X9_layv : Cond.instanceMethod yX9_lay ∈ TBg ∧ Cond.selects yX9_lay.cls yX9_lay yX9_lay ∈ TBg := ⟨tb 1498 (by decide +kernel) rfl, tb 1499 (by decide +kernel) rfl⟩
theorem lk_L_156 : Cond.methodLink R_law 156 yX9_lay ∈ TBg := tb 1497 (by decide +kernel) rfl
theorem mv_X8_read : MV yX8_read cX8_read 10 (some .int) 4 := ⟨tb 972 (by decide +kernel) rfl, tb 1 (by decide +kernel) rfl, by decide +kernel⟩
theorem mv_X8_readv : Cond.instanceMethod yX8_read ∈ TBg ∧ Cond.selects yX8_read.cls yX8_read yX8_read ∈ TBg := ⟨tb 970 (by decide +kernel) rfl, tb 971 (by decide +kernel) rfl⟩
theorem lk_L_157 : Cond.methodLink R_law 157 yX8_read ∈ TBg := tb 969 (by decide +kernel) rfl
theorem mv_X9_read : MV yX9_read cX9_read 11 (some .int) 4 := ⟨tb 1504 (by decide +kernel) rfl, tb 13 (by decide +kernel) rfl, by decide +kernel⟩
theorem mv_X9_readv : Cond.instanceMethod yX9_read ∈ TBg ∧ Cond.selects yX9_read.cls yX9_read yX9_read ∈ TBg := ⟨tb 1502 (by decide +kernel) rfl, tb 1503 (by decide +kernel) rfl⟩
theorem lk_L_160 : Cond.methodLink R_law 160 yX9_read ∈ TBg := tb 1501 (by decide +kernel) rfl
theorem mv_X8_torn : MV yX8_torn cX8_torn 1 (some .int) 0 := ⟨tb 980 (by decide +kernel) rfl, tb 1 (by decide +kernel) rfl, by decide +kernel⟩
theorem mv_X8_tornv : Cond.instanceMethod yX8_torn ∈ TBg ∧ Cond.selects yX8_torn.cls yX8_torn yX8_torn ∈ TBg := ⟨tb 978 (by decide +kernel) rfl, tb 979 (by decide +kernel) rfl⟩
theorem lk_L_161 : Cond.methodLink R_law 161 yX8_torn ∈ TBg := tb 977 (by decide +kernel) rfl
theorem mv_X9_torn : MV yX9_torn cX9_torn 1 (some .int) 0 := ⟨tb 1508 (by decide +kernel) rfl, tb 13 (by decide +kernel) rfl, by decide +kernel⟩
theorem mv_X9_tornv : Cond.instanceMethod yX9_torn ∈ TBg ∧ Cond.selects yX9_torn.cls yX9_torn yX9_torn ∈ TBg := ⟨tb 1506 (by decide +kernel) rfl, tb 1507 (by decide +kernel) rfl⟩
theorem lk_L_164 : Cond.methodLink R_law 164 yX9_torn ∈ TBg := tb 1505 (by decide +kernel) rfl
theorem mv_X8_count : MV yX8_count cX8_count 2 (some .int) 1 := ⟨tb 984 (by decide +kernel) rfl, tb 1 (by decide +kernel) rfl, by decide +kernel⟩
theorem mv_X8_countv : Cond.instanceMethod yX8_count ∈ TBg ∧ Cond.selects yX8_count.cls yX8_count yX8_count ∈ TBg := ⟨tb 982 (by decide +kernel) rfl, tb 983 (by decide +kernel) rfl⟩
theorem lk_L_165 : Cond.methodLink R_law 165 yX8_count ∈ TBg := tb 981 (by decide +kernel) rfl
theorem mv_X9_count : MV yX9_count cX9_count 2 (some .int) 1 := ⟨tb 1512 (by decide +kernel) rfl, tb 13 (by decide +kernel) rfl, by decide +kernel⟩
theorem mv_X9_countv : Cond.instanceMethod yX9_count ∈ TBg ∧ Cond.selects yX9_count.cls yX9_count yX9_count ∈ TBg := ⟨tb 1510 (by decide +kernel) rfl, tb 1511 (by decide +kernel) rfl⟩
theorem lk_L_168 : Cond.methodLink R_law 168 yX9_count ∈ TBg := tb 1509 (by decide +kernel) rfl
theorem mv_X8_init : MV yX8_init cX8_init 2 none 0 := ⟨tb 23 (by decide +kernel) rfl, tb 1 (by decide +kernel) rfl, by decide +kernel⟩
theorem mvI_X8_init : Cond.instanceMethod yX8_init ∈ TBg := tb 22 (by decide +kernel) rfl
theorem mv_X9_init : MV yX9_init cX9_init 2 none 0 := ⟨tb 989 (by decide +kernel) rfl, tb 13 (by decide +kernel) rfl, by decide +kernel⟩
theorem mvI_X9_init : Cond.instanceMethod yX9_init ∈ TBg := tb 988 (by decide +kernel) rfl
theorem cl_L_7 : Cond.classLink R_law 7 RX8 ∈ TBg := tb 19 (by decide +kernel) rfl
theorem cl_L_10 : Cond.classLink R_law 10 RX9 ∈ TBg := tb 985 (by decide +kernel) rfl
theorem ins_L8 : Cond.instantiable RX8 13 ∈ TBg := tb 20 (by decide +kernel) rfl
theorem ins_L9 : Cond.instantiable RX9 42 ∈ TBg := tb 986 (by decide +kernel) rfl
theorem ini_L8 : Cond.initialized RX8 ∈ TBg := tb 1 (by decide +kernel) rfl
theorem ini_L9 : Cond.initialized RX9 ∈ TBg := tb 13 (by decide +kernel) rfl
theorem lk_L_9 : Cond.methodLink R_law 9 yX8_init ∈ TBg := tb 21 (by decide +kernel) rfl
theorem lk_L_12 : Cond.methodLink R_law 12 yX9_init ∈ TBg := tb 987 (by decide +kernel) rfl
