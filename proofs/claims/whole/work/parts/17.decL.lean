theorem d_L_238 : decode code 238 = .ok (.iaload, 1) := by decide +kernel
theorem d_L_239 : decode code 239 = .ok (.aload_n 0, 1) := by decide +kernel
theorem d_L_240 : decode code 240 = .ok (.iload_n 3, 1) := by decide +kernel
theorem d_L_241 : decode code 241 = .ok (.iconst 3, 1) := by decide +kernel
theorem d_L_242 : decode code 242 = .ok (.iadd, 1) := by decide +kernel
theorem d_L_243 : decode code 243 = .ok (.iaload, 1) := by decide +kernel
theorem d_L_244 : decode code 244 = .ok (.invokevirtual 31, 3) := by decide +kernel
theorem d_L_247 : decode code 247 = .ok (.if_icmp .eq 297, 3) := by decide +kernel
theorem d_L_250 : decode code 250 = .ok (.iconst 0, 1) := by decide +kernel
theorem d_L_251 : decode code 251 = .ok (.ireturn, 1) := by decide +kernel
theorem d_L_252 : decode code 252 = .ok (.aload_n 1, 1) := by decide +kernel
theorem d_L_253 : decode code 253 = .ok (.aload_n 0, 1) := by decide +kernel
theorem d_L_254 : decode code 254 = .ok (.iload_n 3, 1) := by decide +kernel
theorem d_L_255 : decode code 255 = .ok (.iconst 1, 1) := by decide +kernel
theorem d_L_256 : decode code 256 = .ok (.iadd, 1) := by decide +kernel
theorem d_L_257 : decode code 257 = .ok (.iaload, 1) := by decide +kernel
theorem d_L_258 : decode code 258 = .ok (.invokevirtual 32, 3) := by decide +kernel
theorem d_L_261 : decode code 261 = .ok (.aload_n 2, 1) := by decide +kernel
theorem d_L_262 : decode code 262 = .ok (.aload_n 0, 1) := by decide +kernel
theorem d_L_263 : decode code 263 = .ok (.iload_n 3, 1) := by decide +kernel
theorem d_L_264 : decode code 264 = .ok (.iconst 1, 1) := by decide +kernel
theorem d_L_265 : decode code 265 = .ok (.iadd, 1) := by decide +kernel
theorem d_L_266 : decode code 266 = .ok (.iaload, 1) := by decide +kernel
theorem d_L_267 : decode code 267 = .ok (.invokevirtual 35, 3) := by decide +kernel
theorem d_L_270 : decode code 270 = .ok (.if_icmp .eq 274, 3) := by decide +kernel
theorem d_L_273 : decode code 273 = .ok (.iconst 0, 1) := by decide +kernel
theorem d_L_274 : decode code 274 = .ok (.ireturn, 1) := by decide +kernel
theorem d_L_275 : decode code 275 = .ok (.aload_n 1, 1) := by decide +kernel
theorem d_L_276 : decode code 276 = .ok (.aload_n 0, 1) := by decide +kernel
theorem d_L_277 : decode code 277 = .ok (.iload_n 3, 1) := by decide +kernel
theorem d_L_278 : decode code 278 = .ok (.iconst 1, 1) := by decide +kernel
theorem d_L_279 : decode code 279 = .ok (.iadd, 1) := by decide +kernel
theorem d_L_280 : decode code 280 = .ok (.iaload, 1) := by decide +kernel
theorem d_L_281 : decode code 281 = .ok (.invokevirtual 36, 3) := by decide +kernel
theorem d_L_284 : decode code 284 = .ok (.aload_n 2, 1) := by decide +kernel
theorem d_L_285 : decode code 285 = .ok (.aload_n 0, 1) := by decide +kernel
theorem d_L_286 : decode code 286 = .ok (.iload_n 3, 1) := by decide +kernel
theorem d_L_287 : decode code 287 = .ok (.iconst 1, 1) := by decide +kernel
theorem d_L_288 : decode code 288 = .ok (.iadd, 1) := by decide +kernel
theorem d_L_289 : decode code 289 = .ok (.iaload, 1) := by decide +kernel
theorem d_L_290 : decode code 290 = .ok (.invokevirtual 39, 3) := by decide +kernel
theorem d_L_293 : decode code 293 = .ok (.if_icmp .eq 251, 3) := by decide +kernel
theorem d_L_296 : decode code 296 = .ok (.iconst 0, 1) := by decide +kernel
theorem d_L_297 : decode code 297 = .ok (.ireturn, 1) := by decide +kernel
theorem d_L_298 : decode code 298 = .ok (.aload_n 1, 1) := by decide +kernel
theorem d_L_299 : decode code 299 = .ok (.invokevirtual 40, 3) := by decide +kernel
theorem d_L_302 : decode code 302 = .ok (.aload_n 2, 1) := by decide +kernel
theorem d_L_303 : decode code 303 = .ok (.invokevirtual 44, 3) := by decide +kernel
theorem d_L_306 : decode code 306 = .ok (.if_icmp .eq 238, 3) := by decide +kernel
theorem d_L_309 : decode code 309 = .ok (.iconst 0, 1) := by decide +kernel
theorem d_L_310 : decode code 310 = .ok (.ireturn, 1) := by decide +kernel
theorem d_L_311 : decode code 311 = .ok (.aload_n 1, 1) := by decide +kernel
theorem d_L_312 : decode code 312 = .ok (.invokevirtual 45, 3) := by decide +kernel
theorem d_L_315 : decode code 315 = .ok (.aload_n 2, 1) := by decide +kernel
theorem d_L_316 : decode code 316 = .ok (.invokevirtual 48, 3) := by decide +kernel
theorem d_L_319 : decode code 319 = .ok (.if_icmp .eq 225, 3) := by decide +kernel
theorem d_L_322 : decode code 322 = .ok (.iconst 0, 1) := by decide +kernel
theorem d_L_323 : decode code 323 = .ok (.ireturn, 1) := by decide +kernel
theorem d_L_324 : decode code 324 = .ok (.aload_n 1, 1) := by decide +kernel
theorem d_L_325 : decode code 325 = .ok (.invokevirtual 49, 3) := by decide +kernel
theorem d_L_328 : decode code 328 = .ok (.aload_n 2, 1) := by decide +kernel
theorem d_L_329 : decode code 329 = .ok (.invokevirtual 53, 3) := by decide +kernel
theorem d_L_332 : decode code 332 = .ok (.if_icmp .eq 212, 3) := by decide +kernel
theorem d_L_335 : decode code 335 = .ok (.iconst 0, 1) := by decide +kernel
theorem d_L_336 : decode code 336 = .ok (.ireturn, 1) := by decide +kernel
theorem d_L_337 : decode code 337 = .ok (.aload_n 1, 1) := by decide +kernel
theorem d_L_338 : decode code 338 = .ok (.invokevirtual 54, 3) := by decide +kernel
theorem d_L_341 : decode code 341 = .ok (.aload_n 2, 1) := by decide +kernel
theorem d_L_342 : decode code 342 = .ok (.invokevirtual 57, 3) := by decide +kernel
theorem d_L_345 : decode code 345 = .ok (.if_icmp .eq 199, 3) := by decide +kernel
theorem d_L_348 : decode code 348 = .ok (.iconst 0, 1) := by decide +kernel
theorem d_L_349 : decode code 349 = .ok (.ireturn, 1) := by decide +kernel
theorem d_L_350 : decode code 350 = .ok (.aload_n 1, 1) := by decide +kernel
theorem d_L_351 : decode code 351 = .ok (.invokevirtual 58, 3) := by decide +kernel
theorem d_L_354 : decode code 354 = .ok (.aload_n 2, 1) := by decide +kernel
theorem d_L_355 : decode code 355 = .ok (.invokevirtual 61, 3) := by decide +kernel
theorem d_L_358 : decode code 358 = .ok (.if_icmp .eq 186, 3) := by decide +kernel
theorem d_L_361 : decode code 361 = .ok (.iconst 0, 1) := by decide +kernel
theorem d_L_362 : decode code 362 = .ok (.ireturn, 1) := by decide +kernel
theorem d_L_363 : decode code 363 = .ok (.aload_n 1, 1) := by decide +kernel
theorem d_L_364 : decode code 364 = .ok (.aload_n 0, 1) := by decide +kernel
theorem d_L_365 : decode code 365 = .ok (.iload_n 3, 1) := by decide +kernel
theorem d_L_366 : decode code 366 = .ok (.iconst 1, 1) := by decide +kernel
theorem d_L_367 : decode code 367 = .ok (.iadd, 1) := by decide +kernel
theorem d_L_368 : decode code 368 = .ok (.iaload, 1) := by decide +kernel
theorem d_L_369 : decode code 369 = .ok (.invokevirtual 62, 3) := by decide +kernel
theorem d_L_372 : decode code 372 = .ok (.aload_n 2, 1) := by decide +kernel
theorem d_L_373 : decode code 373 = .ok (.aload_n 0, 1) := by decide +kernel
theorem d_L_374 : decode code 374 = .ok (.iload_n 3, 1) := by decide +kernel
theorem d_L_375 : decode code 375 = .ok (.iconst 1, 1) := by decide +kernel
theorem d_L_376 : decode code 376 = .ok (.iadd, 1) := by decide +kernel
theorem d_L_377 : decode code 377 = .ok (.iaload, 1) := by decide +kernel
theorem d_L_378 : decode code 378 = .ok (.invokevirtual 65, 3) := by decide +kernel
theorem d_L_381 : decode code 381 = .ok (.if_icmp .eq 163, 3) := by decide +kernel
theorem d_L_384 : decode code 384 = .ok (.iconst 0, 1) := by decide +kernel
theorem d_L_385 : decode code 385 = .ok (.ireturn, 1) := by decide +kernel
theorem d_L_386 : decode code 386 = .ok (.aload_n 1, 1) := by decide +kernel
theorem d_L_387 : decode code 387 = .ok (.aload_n 0, 1) := by decide +kernel
theorem d_L_388 : decode code 388 = .ok (.iload_n 3, 1) := by decide +kernel
theorem d_L_389 : decode code 389 = .ok (.iconst 1, 1) := by decide +kernel
theorem d_L_390 : decode code 390 = .ok (.iadd, 1) := by decide +kernel
theorem d_L_391 : decode code 391 = .ok (.iaload, 1) := by decide +kernel
theorem d_L_392 : decode code 392 = .ok (.invokevirtual 66, 3) := by decide +kernel
theorem d_L_395 : decode code 395 = .ok (.aload_n 2, 1) := by decide +kernel
theorem d_L_396 : decode code 396 = .ok (.aload_n 0, 1) := by decide +kernel
theorem d_L_397 : decode code 397 = .ok (.iload_n 3, 1) := by decide +kernel
theorem d_L_398 : decode code 398 = .ok (.iconst 1, 1) := by decide +kernel
theorem d_L_399 : decode code 399 = .ok (.iadd, 1) := by decide +kernel
theorem d_L_400 : decode code 400 = .ok (.iaload, 1) := by decide +kernel
theorem d_L_401 : decode code 401 = .ok (.invokevirtual 69, 3) := by decide +kernel
theorem d_L_404 : decode code 404 = .ok (.if_icmp .eq 140, 3) := by decide +kernel
theorem d_L_407 : decode code 407 = .ok (.iconst 0, 1) := by decide +kernel
theorem d_L_408 : decode code 408 = .ok (.ireturn, 1) := by decide +kernel
theorem d_L_409 : decode code 409 = .ok (.aload_n 1, 1) := by decide +kernel
theorem d_L_410 : decode code 410 = .ok (.aload_n 0, 1) := by decide +kernel
theorem d_L_411 : decode code 411 = .ok (.iload_n 3, 1) := by decide +kernel
theorem d_L_412 : decode code 412 = .ok (.iconst 1, 1) := by decide +kernel
theorem d_L_413 : decode code 413 = .ok (.iadd, 1) := by decide +kernel
theorem d_L_414 : decode code 414 = .ok (.iaload, 1) := by decide +kernel
theorem d_L_415 : decode code 415 = .ok (.invokevirtual 70, 3) := by decide +kernel
