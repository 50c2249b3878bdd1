/-! THE LAW (by program) -/
def m_law : x_M := (⟨"FaithRailsLaw", "law", "([I)Z"⟩, code, 4, (some FieldType.boolean), 12, 272)
theorem d_law_0 : x_dec m_law 0 (.new 7) 3 3 := ⟨by decide +kernel, rfl⟩
theorem d_law_3 : x_dec m_law 3 (.dup) 1 4 := ⟨by decide +kernel, rfl⟩
theorem d_law_4 : x_dec m_law 4 (.invokespecial 9) 3 7 := ⟨by decide +kernel, rfl⟩
theorem d_law_7 : x_dec m_law 7 (.astore_n 1) 1 8 := ⟨by decide +kernel, rfl⟩
theorem d_law_8 : x_dec m_law 8 (.new 10) 3 11 := ⟨by decide +kernel, rfl⟩
theorem d_law_11 : x_dec m_law 11 (.dup) 1 12 := ⟨by decide +kernel, rfl⟩
theorem d_law_12 : x_dec m_law 12 (.invokespecial 12) 3 15 := ⟨by decide +kernel, rfl⟩
theorem d_law_15 : x_dec m_law 15 (.astore_n 2) 1 16 := ⟨by decide +kernel, rfl⟩
theorem d_law_16 : x_dec m_law 16 (.iconst 0) 1 17 := ⟨by decide +kernel, rfl⟩
theorem d_law_17 : x_dec m_law 17 (.istore_n 3) 1 18 := ⟨by decide +kernel, rfl⟩
theorem d_law_18 : x_dec m_law 18 (.iload_n 3) 1 19 := ⟨by decide +kernel, rfl⟩
theorem d_law_19 : x_dec m_law 19 (.aload_n 0) 1 20 := ⟨by decide +kernel, rfl⟩
theorem d_law_20 : x_dec m_law 20 (.arraylength) 1 21 := ⟨by decide +kernel, rfl⟩
theorem d_law_21 : x_dec m_law 21 (.bipush 6) 2 23 := ⟨by decide +kernel, rfl⟩
theorem d_law_23 : x_dec m_law 23 (.isub) 1 24 := ⟨by decide +kernel, rfl⟩
theorem d_law_24 : x_dec m_law 24 (.if_icmp .gt 1537) 3 27 := ⟨by decide +kernel, rfl⟩
theorem d_law_27 : x_dec m_law 27 (.aload_n 0) 1 28 := ⟨by decide +kernel, rfl⟩
theorem d_law_28 : x_dec m_law 28 (.iload_n 3) 1 29 := ⟨by decide +kernel, rfl⟩
theorem d_law_29 : x_dec m_law 29 (.iaload) 1 30 := ⟨by decide +kernel, rfl⟩
theorem d_law_30 : x_dec m_law 30 (.bipush 63) 2 32 := ⟨by decide +kernel, rfl⟩
theorem d_law_32 : x_dec m_law 32 (.iand) 1 33 := ⟨by decide +kernel, rfl⟩
theorem d_law_33 : x_dec m_law 33 (.tableswitch 1522 0 47 #[207, 240, 273, 306, 339, 382, 415, 438, 461, 484, 507, 530, 563, 586, 599, 612, 635, 668, 701, 734, 757, 780, 823, 856, 889, 922, 955, 988, 1001, 1024, 1037, 1060, 1094, 1117, 1150, 1163, 1176, 1209, 1242, 1285, 1328, 1391, 1414, 1437, 1450, 1463, 1476, 1499]) 207 240 := ⟨by decide +kernel, rfl⟩
theorem d_law_240 : x_dec m_law 240 (.aload_n 1) 1 241 := ⟨by decide +kernel, rfl⟩
theorem d_law_241 : x_dec m_law 241 (.aload_n 0) 1 242 := ⟨by decide +kernel, rfl⟩
theorem d_law_242 : x_dec m_law 242 (.iload_n 3) 1 243 := ⟨by decide +kernel, rfl⟩
theorem d_law_243 : x_dec m_law 243 (.iconst 1) 1 244 := ⟨by decide +kernel, rfl⟩
theorem d_law_244 : x_dec m_law 244 (.iadd) 1 245 := ⟨by decide +kernel, rfl⟩
theorem d_law_245 : x_dec m_law 245 (.iaload) 1 246 := ⟨by decide +kernel, rfl⟩
theorem d_law_246 : x_dec m_law 246 (.aload_n 0) 1 247 := ⟨by decide +kernel, rfl⟩
theorem d_law_247 : x_dec m_law 247 (.iload_n 3) 1 248 := ⟨by decide +kernel, rfl⟩
theorem d_law_248 : x_dec m_law 248 (.iconst 2) 1 249 := ⟨by decide +kernel, rfl⟩
theorem d_law_249 : x_dec m_law 249 (.iadd) 1 250 := ⟨by decide +kernel, rfl⟩
theorem d_law_250 : x_dec m_law 250 (.iaload) 1 251 := ⟨by decide +kernel, rfl⟩
theorem d_law_251 : x_dec m_law 251 (.invokevirtual 13) 3 254 := ⟨by decide +kernel, rfl⟩
theorem d_law_254 : x_dec m_law 254 (.aload_n 2) 1 255 := ⟨by decide +kernel, rfl⟩
theorem d_law_255 : x_dec m_law 255 (.aload_n 0) 1 256 := ⟨by decide +kernel, rfl⟩
theorem d_law_256 : x_dec m_law 256 (.iload_n 3) 1 257 := ⟨by decide +kernel, rfl⟩
theorem d_law_257 : x_dec m_law 257 (.iconst 1) 1 258 := ⟨by decide +kernel, rfl⟩
theorem d_law_258 : x_dec m_law 258 (.iadd) 1 259 := ⟨by decide +kernel, rfl⟩
theorem d_law_259 : x_dec m_law 259 (.iaload) 1 260 := ⟨by decide +kernel, rfl⟩
theorem d_law_260 : x_dec m_law 260 (.aload_n 0) 1 261 := ⟨by decide +kernel, rfl⟩
theorem d_law_261 : x_dec m_law 261 (.iload_n 3) 1 262 := ⟨by decide +kernel, rfl⟩
theorem d_law_262 : x_dec m_law 262 (.iconst 2) 1 263 := ⟨by decide +kernel, rfl⟩
theorem d_law_263 : x_dec m_law 263 (.iadd) 1 264 := ⟨by decide +kernel, rfl⟩
theorem d_law_264 : x_dec m_law 264 (.iaload) 1 265 := ⟨by decide +kernel, rfl⟩
theorem d_law_265 : x_dec m_law 265 (.invokevirtual 17) 3 268 := ⟨by decide +kernel, rfl⟩
theorem d_law_268 : x_dec m_law 268 (.if_icmp .eq 1287) 3 271 := ⟨by decide +kernel, rfl⟩
theorem d_law_271 : x_dec m_law 271 (.iconst 0) 1 272 := ⟨by decide +kernel, rfl⟩
theorem d_law_272 : x_dec m_law 272 (.ireturn) 1 273 := ⟨by decide +kernel, rfl⟩
theorem d_law_273 : x_dec m_law 273 (.aload_n 1) 1 274 := ⟨by decide +kernel, rfl⟩
theorem d_law_274 : x_dec m_law 274 (.aload_n 0) 1 275 := ⟨by decide +kernel, rfl⟩
theorem d_law_275 : x_dec m_law 275 (.iload_n 3) 1 276 := ⟨by decide +kernel, rfl⟩
theorem d_law_276 : x_dec m_law 276 (.iconst 1) 1 277 := ⟨by decide +kernel, rfl⟩
theorem d_law_277 : x_dec m_law 277 (.iadd) 1 278 := ⟨by decide +kernel, rfl⟩
theorem d_law_278 : x_dec m_law 278 (.iaload) 1 279 := ⟨by decide +kernel, rfl⟩
theorem d_law_279 : x_dec m_law 279 (.aload_n 0) 1 280 := ⟨by decide +kernel, rfl⟩
theorem d_law_280 : x_dec m_law 280 (.iload_n 3) 1 281 := ⟨by decide +kernel, rfl⟩
theorem d_law_281 : x_dec m_law 281 (.iconst 2) 1 282 := ⟨by decide +kernel, rfl⟩
theorem d_law_282 : x_dec m_law 282 (.iadd) 1 283 := ⟨by decide +kernel, rfl⟩
theorem d_law_283 : x_dec m_law 283 (.iaload) 1 284 := ⟨by decide +kernel, rfl⟩
theorem d_law_284 : x_dec m_law 284 (.invokevirtual 18) 3 287 := ⟨by decide +kernel, rfl⟩
theorem d_law_287 : x_dec m_law 287 (.aload_n 2) 1 288 := ⟨by decide +kernel, rfl⟩
theorem d_law_288 : x_dec m_law 288 (.aload_n 0) 1 289 := ⟨by decide +kernel, rfl⟩
theorem d_law_289 : x_dec m_law 289 (.iload_n 3) 1 290 := ⟨by decide +kernel, rfl⟩
theorem d_law_290 : x_dec m_law 290 (.iconst 1) 1 291 := ⟨by decide +kernel, rfl⟩
theorem d_law_291 : x_dec m_law 291 (.iadd) 1 292 := ⟨by decide +kernel, rfl⟩
theorem d_law_292 : x_dec m_law 292 (.iaload) 1 293 := ⟨by decide +kernel, rfl⟩
theorem d_law_293 : x_dec m_law 293 (.aload_n 0) 1 294 := ⟨by decide +kernel, rfl⟩
theorem d_law_294 : x_dec m_law 294 (.iload_n 3) 1 295 := ⟨by decide +kernel, rfl⟩
theorem d_law_295 : x_dec m_law 295 (.iconst 2) 1 296 := ⟨by decide +kernel, rfl⟩
theorem d_law_296 : x_dec m_law 296 (.iadd) 1 297 := ⟨by decide +kernel, rfl⟩
theorem d_law_297 : x_dec m_law 297 (.iaload) 1 298 := ⟨by decide +kernel, rfl⟩
theorem d_law_298 : x_dec m_law 298 (.invokevirtual 21) 3 301 := ⟨by decide +kernel, rfl⟩
theorem d_law_301 : x_dec m_law 301 (.if_icmp .eq 1254) 3 304 := ⟨by decide +kernel, rfl⟩
theorem d_law_304 : x_dec m_law 304 (.iconst 0) 1 305 := ⟨by decide +kernel, rfl⟩
theorem d_law_305 : x_dec m_law 305 (.ireturn) 1 306 := ⟨by decide +kernel, rfl⟩
theorem d_law_306 : x_dec m_law 306 (.aload_n 1) 1 307 := ⟨by decide +kernel, rfl⟩
theorem d_law_307 : x_dec m_law 307 (.aload_n 0) 1 308 := ⟨by decide +kernel, rfl⟩
theorem d_law_308 : x_dec m_law 308 (.iload_n 3) 1 309 := ⟨by decide +kernel, rfl⟩
theorem d_law_309 : x_dec m_law 309 (.iconst 1) 1 310 := ⟨by decide +kernel, rfl⟩
theorem d_law_310 : x_dec m_law 310 (.iadd) 1 311 := ⟨by decide +kernel, rfl⟩
theorem d_law_311 : x_dec m_law 311 (.iaload) 1 312 := ⟨by decide +kernel, rfl⟩
theorem d_law_312 : x_dec m_law 312 (.aload_n 0) 1 313 := ⟨by decide +kernel, rfl⟩
theorem d_law_313 : x_dec m_law 313 (.iload_n 3) 1 314 := ⟨by decide +kernel, rfl⟩
theorem d_law_314 : x_dec m_law 314 (.iconst 2) 1 315 := ⟨by decide +kernel, rfl⟩
theorem d_law_315 : x_dec m_law 315 (.iadd) 1 316 := ⟨by decide +kernel, rfl⟩
theorem d_law_316 : x_dec m_law 316 (.iaload) 1 317 := ⟨by decide +kernel, rfl⟩
theorem d_law_317 : x_dec m_law 317 (.invokevirtual 22) 3 320 := ⟨by decide +kernel, rfl⟩
theorem d_law_320 : x_dec m_law 320 (.aload_n 2) 1 321 := ⟨by decide +kernel, rfl⟩
theorem d_law_321 : x_dec m_law 321 (.aload_n 0) 1 322 := ⟨by decide +kernel, rfl⟩
theorem d_law_322 : x_dec m_law 322 (.iload_n 3) 1 323 := ⟨by decide +kernel, rfl⟩
theorem d_law_323 : x_dec m_law 323 (.iconst 1) 1 324 := ⟨by decide +kernel, rfl⟩
theorem d_law_324 : x_dec m_law 324 (.iadd) 1 325 := ⟨by decide +kernel, rfl⟩
theorem d_law_325 : x_dec m_law 325 (.iaload) 1 326 := ⟨by decide +kernel, rfl⟩
theorem d_law_326 : x_dec m_law 326 (.aload_n 0) 1 327 := ⟨by decide +kernel, rfl⟩
theorem d_law_327 : x_dec m_law 327 (.iload_n 3) 1 328 := ⟨by decide +kernel, rfl⟩
theorem d_law_328 : x_dec m_law 328 (.iconst 2) 1 329 := ⟨by decide +kernel, rfl⟩
theorem d_law_329 : x_dec m_law 329 (.iadd) 1 330 := ⟨by decide +kernel, rfl⟩
theorem d_law_330 : x_dec m_law 330 (.iaload) 1 331 := ⟨by decide +kernel, rfl⟩
theorem d_law_331 : x_dec m_law 331 (.invokevirtual 25) 3 334 := ⟨by decide +kernel, rfl⟩
theorem d_law_334 : x_dec m_law 334 (.if_icmp .eq 1221) 3 337 := ⟨by decide +kernel, rfl⟩
theorem d_law_337 : x_dec m_law 337 (.iconst 0) 1 338 := ⟨by decide +kernel, rfl⟩
theorem d_law_338 : x_dec m_law 338 (.ireturn) 1 339 := ⟨by decide +kernel, rfl⟩
theorem d_law_339 : x_dec m_law 339 (.aload_n 1) 1 340 := ⟨by decide +kernel, rfl⟩
theorem d_law_340 : x_dec m_law 340 (.aload_n 0) 1 341 := ⟨by decide +kernel, rfl⟩
theorem d_law_341 : x_dec m_law 341 (.iload_n 3) 1 342 := ⟨by decide +kernel, rfl⟩
theorem d_law_342 : x_dec m_law 342 (.iconst 1) 1 343 := ⟨by decide +kernel, rfl⟩
theorem d_law_343 : x_dec m_law 343 (.iadd) 1 344 := ⟨by decide +kernel, rfl⟩
theorem d_law_344 : x_dec m_law 344 (.iaload) 1 345 := ⟨by decide +kernel, rfl⟩
theorem d_law_345 : x_dec m_law 345 (.aload_n 0) 1 346 := ⟨by decide +kernel, rfl⟩
theorem d_law_346 : x_dec m_law 346 (.iload_n 3) 1 347 := ⟨by decide +kernel, rfl⟩
theorem d_law_347 : x_dec m_law 347 (.iconst 2) 1 348 := ⟨by decide +kernel, rfl⟩
theorem d_law_348 : x_dec m_law 348 (.iadd) 1 349 := ⟨by decide +kernel, rfl⟩
theorem d_law_349 : x_dec m_law 349 (.iaload) 1 350 := ⟨by decide +kernel, rfl⟩
theorem d_law_350 : x_dec m_law 350 (.invokevirtual 26) 3 353 := ⟨by decide +kernel, rfl⟩
theorem d_law_353 : x_dec m_law 353 (.aload_n 2) 1 354 := ⟨by decide +kernel, rfl⟩
theorem d_law_354 : x_dec m_law 354 (.aload_n 0) 1 355 := ⟨by decide +kernel, rfl⟩
theorem d_law_355 : x_dec m_law 355 (.iload_n 3) 1 356 := ⟨by decide +kernel, rfl⟩
theorem d_law_356 : x_dec m_law 356 (.iconst 1) 1 357 := ⟨by decide +kernel, rfl⟩
theorem d_law_357 : x_dec m_law 357 (.iadd) 1 358 := ⟨by decide +kernel, rfl⟩
theorem d_law_358 : x_dec m_law 358 (.iaload) 1 359 := ⟨by decide +kernel, rfl⟩
theorem d_law_359 : x_dec m_law 359 (.aload_n 0) 1 360 := ⟨by decide +kernel, rfl⟩
theorem d_law_360 : x_dec m_law 360 (.iload_n 3) 1 361 := ⟨by decide +kernel, rfl⟩
theorem d_law_361 : x_dec m_law 361 (.iconst 2) 1 362 := ⟨by decide +kernel, rfl⟩
theorem d_law_362 : x_dec m_law 362 (.iadd) 1 363 := ⟨by decide +kernel, rfl⟩
theorem d_law_363 : x_dec m_law 363 (.iaload) 1 364 := ⟨by decide +kernel, rfl⟩
theorem d_law_364 : x_dec m_law 364 (.invokevirtual 29) 3 367 := ⟨by decide +kernel, rfl⟩
theorem d_law_367 : x_dec m_law 367 (.if_icmp .eq 1188) 3 370 := ⟨by decide +kernel, rfl⟩
theorem d_law_370 : x_dec m_law 370 (.iconst 0) 1 371 := ⟨by decide +kernel, rfl⟩
theorem d_law_371 : x_dec m_law 371 (.ireturn) 1 372 := ⟨by decide +kernel, rfl⟩
theorem d_law_372 : x_dec m_law 372 (.aload_n 1) 1 373 := ⟨by decide +kernel, rfl⟩
theorem d_law_373 : x_dec m_law 373 (.aload_n 0) 1 374 := ⟨by decide +kernel, rfl⟩
theorem d_law_374 : x_dec m_law 374 (.iload_n 3) 1 375 := ⟨by decide +kernel, rfl⟩
theorem d_law_375 : x_dec m_law 375 (.iconst 1) 1 376 := ⟨by decide +kernel, rfl⟩
theorem d_law_376 : x_dec m_law 376 (.iadd) 1 377 := ⟨by decide +kernel, rfl⟩
theorem d_law_377 : x_dec m_law 377 (.iaload) 1 378 := ⟨by decide +kernel, rfl⟩
theorem d_law_378 : x_dec m_law 378 (.aload_n 0) 1 379 := ⟨by decide +kernel, rfl⟩
theorem d_law_379 : x_dec m_law 379 (.iload_n 3) 1 380 := ⟨by decide +kernel, rfl⟩
theorem d_law_380 : x_dec m_law 380 (.iconst 2) 1 381 := ⟨by decide +kernel, rfl⟩
theorem d_law_381 : x_dec m_law 381 (.iadd) 1 382 := ⟨by decide +kernel, rfl⟩
theorem d_law_382 : x_dec m_law 382 (.iaload) 1 383 := ⟨by decide +kernel, rfl⟩
theorem d_law_383 : x_dec m_law 383 (.aload_n 0) 1 384 := ⟨by decide +kernel, rfl⟩
theorem d_law_384 : x_dec m_law 384 (.iload_n 3) 1 385 := ⟨by decide +kernel, rfl⟩
theorem d_law_385 : x_dec m_law 385 (.iconst 3) 1 386 := ⟨by decide +kernel, rfl⟩
theorem d_law_386 : x_dec m_law 386 (.iadd) 1 387 := ⟨by decide +kernel, rfl⟩
theorem d_law_387 : x_dec m_law 387 (.iaload) 1 388 := ⟨by decide +kernel, rfl⟩
theorem d_law_388 : x_dec m_law 388 (.invokevirtual 30) 3 391 := ⟨by decide +kernel, rfl⟩
theorem d_law_391 : x_dec m_law 391 (.aload_n 2) 1 392 := ⟨by decide +kernel, rfl⟩
theorem d_law_392 : x_dec m_law 392 (.aload_n 0) 1 393 := ⟨by decide +kernel, rfl⟩
theorem d_law_393 : x_dec m_law 393 (.iload_n 3) 1 394 := ⟨by decide +kernel, rfl⟩
theorem d_law_394 : x_dec m_law 394 (.iconst 1) 1 395 := ⟨by decide +kernel, rfl⟩
theorem d_law_395 : x_dec m_law 395 (.iadd) 1 396 := ⟨by decide +kernel, rfl⟩
theorem d_law_396 : x_dec m_law 396 (.iaload) 1 397 := ⟨by decide +kernel, rfl⟩
theorem d_law_397 : x_dec m_law 397 (.aload_n 0) 1 398 := ⟨by decide +kernel, rfl⟩
theorem d_law_398 : x_dec m_law 398 (.iload_n 3) 1 399 := ⟨by decide +kernel, rfl⟩
theorem d_law_399 : x_dec m_law 399 (.iconst 2) 1 400 := ⟨by decide +kernel, rfl⟩
theorem d_law_400 : x_dec m_law 400 (.iadd) 1 401 := ⟨by decide +kernel, rfl⟩
theorem d_law_401 : x_dec m_law 401 (.iaload) 1 402 := ⟨by decide +kernel, rfl⟩
theorem d_law_402 : x_dec m_law 402 (.aload_n 0) 1 403 := ⟨by decide +kernel, rfl⟩
theorem d_law_403 : x_dec m_law 403 (.iload_n 3) 1 404 := ⟨by decide +kernel, rfl⟩
theorem d_law_404 : x_dec m_law 404 (.iconst 3) 1 405 := ⟨by decide +kernel, rfl⟩
theorem d_law_405 : x_dec m_law 405 (.iadd) 1 406 := ⟨by decide +kernel, rfl⟩
theorem d_law_406 : x_dec m_law 406 (.iaload) 1 407 := ⟨by decide +kernel, rfl⟩
theorem d_law_407 : x_dec m_law 407 (.invokevirtual 34) 3 410 := ⟨by decide +kernel, rfl⟩
theorem d_law_410 : x_dec m_law 410 (.if_icmp .eq 1145) 3 413 := ⟨by decide +kernel, rfl⟩
theorem d_law_413 : x_dec m_law 413 (.iconst 0) 1 414 := ⟨by decide +kernel, rfl⟩
theorem d_law_414 : x_dec m_law 414 (.ireturn) 1 415 := ⟨by decide +kernel, rfl⟩
theorem d_law_415 : x_dec m_law 415 (.aload_n 1) 1 416 := ⟨by decide +kernel, rfl⟩
theorem d_law_416 : x_dec m_law 416 (.aload_n 0) 1 417 := ⟨by decide +kernel, rfl⟩
theorem d_law_417 : x_dec m_law 417 (.iload_n 3) 1 418 := ⟨by decide +kernel, rfl⟩
theorem d_law_418 : x_dec m_law 418 (.iconst 1) 1 419 := ⟨by decide +kernel, rfl⟩
theorem d_law_419 : x_dec m_law 419 (.iadd) 1 420 := ⟨by decide +kernel, rfl⟩
theorem d_law_420 : x_dec m_law 420 (.iaload) 1 421 := ⟨by decide +kernel, rfl⟩
theorem d_law_421 : x_dec m_law 421 (.aload_n 0) 1 422 := ⟨by decide +kernel, rfl⟩
theorem d_law_422 : x_dec m_law 422 (.iload_n 3) 1 423 := ⟨by decide +kernel, rfl⟩
theorem d_law_423 : x_dec m_law 423 (.iconst 2) 1 424 := ⟨by decide +kernel, rfl⟩
theorem d_law_424 : x_dec m_law 424 (.iadd) 1 425 := ⟨by decide +kernel, rfl⟩
theorem d_law_425 : x_dec m_law 425 (.iaload) 1 426 := ⟨by decide +kernel, rfl⟩
theorem d_law_426 : x_dec m_law 426 (.invokevirtual 35) 3 429 := ⟨by decide +kernel, rfl⟩
theorem d_law_429 : x_dec m_law 429 (.aload_n 2) 1 430 := ⟨by decide +kernel, rfl⟩
theorem d_law_430 : x_dec m_law 430 (.aload_n 0) 1 431 := ⟨by decide +kernel, rfl⟩
theorem d_law_431 : x_dec m_law 431 (.iload_n 3) 1 432 := ⟨by decide +kernel, rfl⟩
theorem d_law_432 : x_dec m_law 432 (.iconst 1) 1 433 := ⟨by decide +kernel, rfl⟩
theorem d_law_433 : x_dec m_law 433 (.iadd) 1 434 := ⟨by decide +kernel, rfl⟩
theorem d_law_434 : x_dec m_law 434 (.iaload) 1 435 := ⟨by decide +kernel, rfl⟩
theorem d_law_435 : x_dec m_law 435 (.aload_n 0) 1 436 := ⟨by decide +kernel, rfl⟩
theorem d_law_436 : x_dec m_law 436 (.iload_n 3) 1 437 := ⟨by decide +kernel, rfl⟩
theorem d_law_437 : x_dec m_law 437 (.iconst 2) 1 438 := ⟨by decide +kernel, rfl⟩
theorem d_law_438 : x_dec m_law 438 (.iadd) 1 439 := ⟨by decide +kernel, rfl⟩
theorem d_law_439 : x_dec m_law 439 (.iaload) 1 440 := ⟨by decide +kernel, rfl⟩
theorem d_law_440 : x_dec m_law 440 (.invokevirtual 38) 3 443 := ⟨by decide +kernel, rfl⟩
theorem d_law_443 : x_dec m_law 443 (.if_icmp .eq 1112) 3 446 := ⟨by decide +kernel, rfl⟩
theorem d_law_446 : x_dec m_law 446 (.iconst 0) 1 447 := ⟨by decide +kernel, rfl⟩
theorem d_law_447 : x_dec m_law 447 (.ireturn) 1 448 := ⟨by decide +kernel, rfl⟩
theorem d_law_448 : x_dec m_law 448 (.aload_n 1) 1 449 := ⟨by decide +kernel, rfl⟩
theorem d_law_449 : x_dec m_law 449 (.aload_n 0) 1 450 := ⟨by decide +kernel, rfl⟩
theorem d_law_450 : x_dec m_law 450 (.iload_n 3) 1 451 := ⟨by decide +kernel, rfl⟩
theorem d_law_451 : x_dec m_law 451 (.iconst 1) 1 452 := ⟨by decide +kernel, rfl⟩
theorem d_law_452 : x_dec m_law 452 (.iadd) 1 453 := ⟨by decide +kernel, rfl⟩
theorem d_law_453 : x_dec m_law 453 (.iaload) 1 454 := ⟨by decide +kernel, rfl⟩
theorem d_law_454 : x_dec m_law 454 (.invokevirtual 39) 3 457 := ⟨by decide +kernel, rfl⟩
theorem d_law_457 : x_dec m_law 457 (.aload_n 2) 1 458 := ⟨by decide +kernel, rfl⟩
theorem d_law_458 : x_dec m_law 458 (.aload_n 0) 1 459 := ⟨by decide +kernel, rfl⟩
theorem d_law_459 : x_dec m_law 459 (.iload_n 3) 1 460 := ⟨by decide +kernel, rfl⟩
theorem d_law_460 : x_dec m_law 460 (.iconst 1) 1 461 := ⟨by decide +kernel, rfl⟩
theorem d_law_461 : x_dec m_law 461 (.iadd) 1 462 := ⟨by decide +kernel, rfl⟩
theorem d_law_462 : x_dec m_law 462 (.iaload) 1 463 := ⟨by decide +kernel, rfl⟩
theorem d_law_463 : x_dec m_law 463 (.invokevirtual 43) 3 466 := ⟨by decide +kernel, rfl⟩
theorem d_law_466 : x_dec m_law 466 (.if_icmp .eq 1089) 3 469 := ⟨by decide +kernel, rfl⟩
theorem d_law_469 : x_dec m_law 469 (.iconst 0) 1 470 := ⟨by decide +kernel, rfl⟩
theorem d_law_470 : x_dec m_law 470 (.ireturn) 1 471 := ⟨by decide +kernel, rfl⟩
theorem d_law_471 : x_dec m_law 471 (.aload_n 1) 1 472 := ⟨by decide +kernel, rfl⟩
theorem d_law_472 : x_dec m_law 472 (.aload_n 0) 1 473 := ⟨by decide +kernel, rfl⟩
theorem d_law_473 : x_dec m_law 473 (.iload_n 3) 1 474 := ⟨by decide +kernel, rfl⟩
theorem d_law_474 : x_dec m_law 474 (.iconst 1) 1 475 := ⟨by decide +kernel, rfl⟩
theorem d_law_475 : x_dec m_law 475 (.iadd) 1 476 := ⟨by decide +kernel, rfl⟩
theorem d_law_476 : x_dec m_law 476 (.iaload) 1 477 := ⟨by decide +kernel, rfl⟩
theorem d_law_477 : x_dec m_law 477 (.invokevirtual 44) 3 480 := ⟨by decide +kernel, rfl⟩
theorem d_law_480 : x_dec m_law 480 (.aload_n 2) 1 481 := ⟨by decide +kernel, rfl⟩
theorem d_law_481 : x_dec m_law 481 (.aload_n 0) 1 482 := ⟨by decide +kernel, rfl⟩
theorem d_law_482 : x_dec m_law 482 (.iload_n 3) 1 483 := ⟨by decide +kernel, rfl⟩
theorem d_law_483 : x_dec m_law 483 (.iconst 1) 1 484 := ⟨by decide +kernel, rfl⟩
theorem d_law_484 : x_dec m_law 484 (.iadd) 1 485 := ⟨by decide +kernel, rfl⟩
theorem d_law_485 : x_dec m_law 485 (.iaload) 1 486 := ⟨by decide +kernel, rfl⟩
theorem d_law_486 : x_dec m_law 486 (.invokevirtual 47) 3 489 := ⟨by decide +kernel, rfl⟩
theorem d_law_489 : x_dec m_law 489 (.if_icmp .eq 1066) 3 492 := ⟨by decide +kernel, rfl⟩
theorem d_law_492 : x_dec m_law 492 (.iconst 0) 1 493 := ⟨by decide +kernel, rfl⟩
theorem d_law_493 : x_dec m_law 493 (.ireturn) 1 494 := ⟨by decide +kernel, rfl⟩
theorem d_law_494 : x_dec m_law 494 (.aload_n 1) 1 495 := ⟨by decide +kernel, rfl⟩
theorem d_law_495 : x_dec m_law 495 (.aload_n 0) 1 496 := ⟨by decide +kernel, rfl⟩
theorem d_law_496 : x_dec m_law 496 (.iload_n 3) 1 497 := ⟨by decide +kernel, rfl⟩
theorem d_law_497 : x_dec m_law 497 (.iconst 1) 1 498 := ⟨by decide +kernel, rfl⟩
theorem d_law_498 : x_dec m_law 498 (.iadd) 1 499 := ⟨by decide +kernel, rfl⟩
theorem d_law_499 : x_dec m_law 499 (.iaload) 1 500 := ⟨by decide +kernel, rfl⟩
theorem d_law_500 : x_dec m_law 500 (.invokevirtual 48) 3 503 := ⟨by decide +kernel, rfl⟩
theorem d_law_503 : x_dec m_law 503 (.aload_n 2) 1 504 := ⟨by decide +kernel, rfl⟩
theorem d_law_504 : x_dec m_law 504 (.aload_n 0) 1 505 := ⟨by decide +kernel, rfl⟩
theorem d_law_505 : x_dec m_law 505 (.iload_n 3) 1 506 := ⟨by decide +kernel, rfl⟩
theorem d_law_506 : x_dec m_law 506 (.iconst 1) 1 507 := ⟨by decide +kernel, rfl⟩
theorem d_law_507 : x_dec m_law 507 (.iadd) 1 508 := ⟨by decide +kernel, rfl⟩
theorem d_law_508 : x_dec m_law 508 (.iaload) 1 509 := ⟨by decide +kernel, rfl⟩
theorem d_law_509 : x_dec m_law 509 (.invokevirtual 51) 3 512 := ⟨by decide +kernel, rfl⟩
theorem d_law_512 : x_dec m_law 512 (.if_icmp .eq 1043) 3 515 := ⟨by decide +kernel, rfl⟩
theorem d_law_515 : x_dec m_law 515 (.iconst 0) 1 516 := ⟨by decide +kernel, rfl⟩
theorem d_law_516 : x_dec m_law 516 (.ireturn) 1 517 := ⟨by decide +kernel, rfl⟩
theorem d_law_517 : x_dec m_law 517 (.aload_n 1) 1 518 := ⟨by decide +kernel, rfl⟩
theorem d_law_518 : x_dec m_law 518 (.aload_n 0) 1 519 := ⟨by decide +kernel, rfl⟩
theorem d_law_519 : x_dec m_law 519 (.iload_n 3) 1 520 := ⟨by decide +kernel, rfl⟩
theorem d_law_520 : x_dec m_law 520 (.iconst 1) 1 521 := ⟨by decide +kernel, rfl⟩
theorem d_law_521 : x_dec m_law 521 (.iadd) 1 522 := ⟨by decide +kernel, rfl⟩
theorem d_law_522 : x_dec m_law 522 (.iaload) 1 523 := ⟨by decide +kernel, rfl⟩
theorem d_law_523 : x_dec m_law 523 (.invokevirtual 52) 3 526 := ⟨by decide +kernel, rfl⟩
theorem d_law_526 : x_dec m_law 526 (.aload_n 2) 1 527 := ⟨by decide +kernel, rfl⟩
theorem d_law_527 : x_dec m_law 527 (.aload_n 0) 1 528 := ⟨by decide +kernel, rfl⟩
theorem d_law_528 : x_dec m_law 528 (.iload_n 3) 1 529 := ⟨by decide +kernel, rfl⟩
theorem d_law_529 : x_dec m_law 529 (.iconst 1) 1 530 := ⟨by decide +kernel, rfl⟩
theorem d_law_530 : x_dec m_law 530 (.iadd) 1 531 := ⟨by decide +kernel, rfl⟩
theorem d_law_531 : x_dec m_law 531 (.iaload) 1 532 := ⟨by decide +kernel, rfl⟩
theorem d_law_532 : x_dec m_law 532 (.invokevirtual 55) 3 535 := ⟨by decide +kernel, rfl⟩
theorem d_law_535 : x_dec m_law 535 (.if_icmp .eq 1020) 3 538 := ⟨by decide +kernel, rfl⟩
theorem d_law_538 : x_dec m_law 538 (.iconst 0) 1 539 := ⟨by decide +kernel, rfl⟩
theorem d_law_539 : x_dec m_law 539 (.ireturn) 1 540 := ⟨by decide +kernel, rfl⟩
theorem d_law_540 : x_dec m_law 540 (.aload_n 1) 1 541 := ⟨by decide +kernel, rfl⟩
theorem d_law_541 : x_dec m_law 541 (.aload_n 0) 1 542 := ⟨by decide +kernel, rfl⟩
theorem d_law_542 : x_dec m_law 542 (.iload_n 3) 1 543 := ⟨by decide +kernel, rfl⟩
theorem d_law_543 : x_dec m_law 543 (.iconst 1) 1 544 := ⟨by decide +kernel, rfl⟩
theorem d_law_544 : x_dec m_law 544 (.iadd) 1 545 := ⟨by decide +kernel, rfl⟩
theorem d_law_545 : x_dec m_law 545 (.iaload) 1 546 := ⟨by decide +kernel, rfl⟩
theorem d_law_546 : x_dec m_law 546 (.invokevirtual 56) 3 549 := ⟨by decide +kernel, rfl⟩
theorem d_law_549 : x_dec m_law 549 (.aload_n 2) 1 550 := ⟨by decide +kernel, rfl⟩
theorem d_law_550 : x_dec m_law 550 (.aload_n 0) 1 551 := ⟨by decide +kernel, rfl⟩
theorem d_law_551 : x_dec m_law 551 (.iload_n 3) 1 552 := ⟨by decide +kernel, rfl⟩
theorem d_law_552 : x_dec m_law 552 (.iconst 1) 1 553 := ⟨by decide +kernel, rfl⟩
theorem d_law_553 : x_dec m_law 553 (.iadd) 1 554 := ⟨by decide +kernel, rfl⟩
theorem d_law_554 : x_dec m_law 554 (.iaload) 1 555 := ⟨by decide +kernel, rfl⟩
theorem d_law_555 : x_dec m_law 555 (.invokevirtual 59) 3 558 := ⟨by decide +kernel, rfl⟩
theorem d_law_558 : x_dec m_law 558 (.if_icmp .eq 997) 3 561 := ⟨by decide +kernel, rfl⟩
theorem d_law_561 : x_dec m_law 561 (.iconst 0) 1 562 := ⟨by decide +kernel, rfl⟩
theorem d_law_562 : x_dec m_law 562 (.ireturn) 1 563 := ⟨by decide +kernel, rfl⟩
theorem d_law_563 : x_dec m_law 563 (.aload_n 1) 1 564 := ⟨by decide +kernel, rfl⟩
theorem d_law_564 : x_dec m_law 564 (.aload_n 0) 1 565 := ⟨by decide +kernel, rfl⟩
theorem d_law_565 : x_dec m_law 565 (.iload_n 3) 1 566 := ⟨by decide +kernel, rfl⟩
theorem d_law_566 : x_dec m_law 566 (.iconst 1) 1 567 := ⟨by decide +kernel, rfl⟩
theorem d_law_567 : x_dec m_law 567 (.iadd) 1 568 := ⟨by decide +kernel, rfl⟩
theorem d_law_568 : x_dec m_law 568 (.iaload) 1 569 := ⟨by decide +kernel, rfl⟩
theorem d_law_569 : x_dec m_law 569 (.aload_n 0) 1 570 := ⟨by decide +kernel, rfl⟩
theorem d_law_570 : x_dec m_law 570 (.iload_n 3) 1 571 := ⟨by decide +kernel, rfl⟩
theorem d_law_571 : x_dec m_law 571 (.iconst 2) 1 572 := ⟨by decide +kernel, rfl⟩
theorem d_law_572 : x_dec m_law 572 (.iadd) 1 573 := ⟨by decide +kernel, rfl⟩
theorem d_law_573 : x_dec m_law 573 (.iaload) 1 574 := ⟨by decide +kernel, rfl⟩
theorem d_law_574 : x_dec m_law 574 (.invokevirtual 60) 3 577 := ⟨by decide +kernel, rfl⟩
theorem d_law_577 : x_dec m_law 577 (.aload_n 2) 1 578 := ⟨by decide +kernel, rfl⟩
theorem d_law_578 : x_dec m_law 578 (.aload_n 0) 1 579 := ⟨by decide +kernel, rfl⟩
theorem d_law_579 : x_dec m_law 579 (.iload_n 3) 1 580 := ⟨by decide +kernel, rfl⟩
theorem d_law_580 : x_dec m_law 580 (.iconst 1) 1 581 := ⟨by decide +kernel, rfl⟩
theorem d_law_581 : x_dec m_law 581 (.iadd) 1 582 := ⟨by decide +kernel, rfl⟩
theorem d_law_582 : x_dec m_law 582 (.iaload) 1 583 := ⟨by decide +kernel, rfl⟩
theorem d_law_583 : x_dec m_law 583 (.aload_n 0) 1 584 := ⟨by decide +kernel, rfl⟩
theorem d_law_584 : x_dec m_law 584 (.iload_n 3) 1 585 := ⟨by decide +kernel, rfl⟩
theorem d_law_585 : x_dec m_law 585 (.iconst 2) 1 586 := ⟨by decide +kernel, rfl⟩
theorem d_law_586 : x_dec m_law 586 (.iadd) 1 587 := ⟨by decide +kernel, rfl⟩
theorem d_law_587 : x_dec m_law 587 (.iaload) 1 588 := ⟨by decide +kernel, rfl⟩
theorem d_law_588 : x_dec m_law 588 (.invokevirtual 63) 3 591 := ⟨by decide +kernel, rfl⟩
theorem d_law_591 : x_dec m_law 591 (.if_icmp .eq 964) 3 594 := ⟨by decide +kernel, rfl⟩
theorem d_law_594 : x_dec m_law 594 (.iconst 0) 1 595 := ⟨by decide +kernel, rfl⟩
theorem d_law_595 : x_dec m_law 595 (.ireturn) 1 596 := ⟨by decide +kernel, rfl⟩
theorem d_law_596 : x_dec m_law 596 (.aload_n 1) 1 597 := ⟨by decide +kernel, rfl⟩
theorem d_law_597 : x_dec m_law 597 (.aload_n 0) 1 598 := ⟨by decide +kernel, rfl⟩
theorem d_law_598 : x_dec m_law 598 (.iload_n 3) 1 599 := ⟨by decide +kernel, rfl⟩
theorem d_law_599 : x_dec m_law 599 (.iconst 1) 1 600 := ⟨by decide +kernel, rfl⟩
theorem d_law_600 : x_dec m_law 600 (.iadd) 1 601 := ⟨by decide +kernel, rfl⟩
theorem d_law_601 : x_dec m_law 601 (.iaload) 1 602 := ⟨by decide +kernel, rfl⟩
theorem d_law_602 : x_dec m_law 602 (.invokevirtual 64) 3 605 := ⟨by decide +kernel, rfl⟩
theorem d_law_605 : x_dec m_law 605 (.aload_n 2) 1 606 := ⟨by decide +kernel, rfl⟩
theorem d_law_606 : x_dec m_law 606 (.aload_n 0) 1 607 := ⟨by decide +kernel, rfl⟩
theorem d_law_607 : x_dec m_law 607 (.iload_n 3) 1 608 := ⟨by decide +kernel, rfl⟩
theorem d_law_608 : x_dec m_law 608 (.iconst 1) 1 609 := ⟨by decide +kernel, rfl⟩
theorem d_law_609 : x_dec m_law 609 (.iadd) 1 610 := ⟨by decide +kernel, rfl⟩
theorem d_law_610 : x_dec m_law 610 (.iaload) 1 611 := ⟨by decide +kernel, rfl⟩
theorem d_law_611 : x_dec m_law 611 (.invokevirtual 67) 3 614 := ⟨by decide +kernel, rfl⟩
theorem d_law_614 : x_dec m_law 614 (.if_icmp .eq 941) 3 617 := ⟨by decide +kernel, rfl⟩
theorem d_law_617 : x_dec m_law 617 (.iconst 0) 1 618 := ⟨by decide +kernel, rfl⟩
theorem d_law_618 : x_dec m_law 618 (.ireturn) 1 619 := ⟨by decide +kernel, rfl⟩
theorem d_law_619 : x_dec m_law 619 (.aload_n 1) 1 620 := ⟨by decide +kernel, rfl⟩
theorem d_law_620 : x_dec m_law 620 (.invokevirtual 68) 3 623 := ⟨by decide +kernel, rfl⟩
theorem d_law_623 : x_dec m_law 623 (.aload_n 2) 1 624 := ⟨by decide +kernel, rfl⟩
theorem d_law_624 : x_dec m_law 624 (.invokevirtual 72) 3 627 := ⟨by decide +kernel, rfl⟩
theorem d_law_627 : x_dec m_law 627 (.if_icmp .eq 928) 3 630 := ⟨by decide +kernel, rfl⟩
theorem d_law_630 : x_dec m_law 630 (.iconst 0) 1 631 := ⟨by decide +kernel, rfl⟩
theorem d_law_631 : x_dec m_law 631 (.ireturn) 1 632 := ⟨by decide +kernel, rfl⟩
theorem d_law_632 : x_dec m_law 632 (.aload_n 1) 1 633 := ⟨by decide +kernel, rfl⟩
theorem d_law_633 : x_dec m_law 633 (.invokevirtual 73) 3 636 := ⟨by decide +kernel, rfl⟩
theorem d_law_636 : x_dec m_law 636 (.aload_n 2) 1 637 := ⟨by decide +kernel, rfl⟩
theorem d_law_637 : x_dec m_law 637 (.invokevirtual 76) 3 640 := ⟨by decide +kernel, rfl⟩
theorem d_law_640 : x_dec m_law 640 (.if_icmp .eq 915) 3 643 := ⟨by decide +kernel, rfl⟩
theorem d_law_643 : x_dec m_law 643 (.iconst 0) 1 644 := ⟨by decide +kernel, rfl⟩
theorem d_law_644 : x_dec m_law 644 (.ireturn) 1 645 := ⟨by decide +kernel, rfl⟩
theorem d_law_645 : x_dec m_law 645 (.aload_n 1) 1 646 := ⟨by decide +kernel, rfl⟩
theorem d_law_646 : x_dec m_law 646 (.aload_n 0) 1 647 := ⟨by decide +kernel, rfl⟩
theorem d_law_647 : x_dec m_law 647 (.iload_n 3) 1 648 := ⟨by decide +kernel, rfl⟩
theorem d_law_648 : x_dec m_law 648 (.iconst 1) 1 649 := ⟨by decide +kernel, rfl⟩
theorem d_law_649 : x_dec m_law 649 (.iadd) 1 650 := ⟨by decide +kernel, rfl⟩
theorem d_law_650 : x_dec m_law 650 (.iaload) 1 651 := ⟨by decide +kernel, rfl⟩
theorem d_law_651 : x_dec m_law 651 (.invokevirtual 77) 3 654 := ⟨by decide +kernel, rfl⟩
theorem d_law_654 : x_dec m_law 654 (.aload_n 2) 1 655 := ⟨by decide +kernel, rfl⟩
theorem d_law_655 : x_dec m_law 655 (.aload_n 0) 1 656 := ⟨by decide +kernel, rfl⟩
theorem d_law_656 : x_dec m_law 656 (.iload_n 3) 1 657 := ⟨by decide +kernel, rfl⟩
theorem d_law_657 : x_dec m_law 657 (.iconst 1) 1 658 := ⟨by decide +kernel, rfl⟩
theorem d_law_658 : x_dec m_law 658 (.iadd) 1 659 := ⟨by decide +kernel, rfl⟩
theorem d_law_659 : x_dec m_law 659 (.iaload) 1 660 := ⟨by decide +kernel, rfl⟩
theorem d_law_660 : x_dec m_law 660 (.invokevirtual 80) 3 663 := ⟨by decide +kernel, rfl⟩
theorem d_law_663 : x_dec m_law 663 (.if_icmp .eq 892) 3 666 := ⟨by decide +kernel, rfl⟩
theorem d_law_666 : x_dec m_law 666 (.iconst 0) 1 667 := ⟨by decide +kernel, rfl⟩
theorem d_law_667 : x_dec m_law 667 (.ireturn) 1 668 := ⟨by decide +kernel, rfl⟩
theorem d_law_668 : x_dec m_law 668 (.aload_n 1) 1 669 := ⟨by decide +kernel, rfl⟩
theorem d_law_669 : x_dec m_law 669 (.aload_n 0) 1 670 := ⟨by decide +kernel, rfl⟩
theorem d_law_670 : x_dec m_law 670 (.iload_n 3) 1 671 := ⟨by decide +kernel, rfl⟩
theorem d_law_671 : x_dec m_law 671 (.iconst 1) 1 672 := ⟨by decide +kernel, rfl⟩
theorem d_law_672 : x_dec m_law 672 (.iadd) 1 673 := ⟨by decide +kernel, rfl⟩
theorem d_law_673 : x_dec m_law 673 (.iaload) 1 674 := ⟨by decide +kernel, rfl⟩
theorem d_law_674 : x_dec m_law 674 (.aload_n 0) 1 675 := ⟨by decide +kernel, rfl⟩
theorem d_law_675 : x_dec m_law 675 (.iload_n 3) 1 676 := ⟨by decide +kernel, rfl⟩
theorem d_law_676 : x_dec m_law 676 (.iconst 2) 1 677 := ⟨by decide +kernel, rfl⟩
theorem d_law_677 : x_dec m_law 677 (.iadd) 1 678 := ⟨by decide +kernel, rfl⟩
theorem d_law_678 : x_dec m_law 678 (.iaload) 1 679 := ⟨by decide +kernel, rfl⟩
theorem d_law_679 : x_dec m_law 679 (.invokevirtual 81) 3 682 := ⟨by decide +kernel, rfl⟩
theorem d_law_682 : x_dec m_law 682 (.aload_n 2) 1 683 := ⟨by decide +kernel, rfl⟩
theorem d_law_683 : x_dec m_law 683 (.aload_n 0) 1 684 := ⟨by decide +kernel, rfl⟩
theorem d_law_684 : x_dec m_law 684 (.iload_n 3) 1 685 := ⟨by decide +kernel, rfl⟩
theorem d_law_685 : x_dec m_law 685 (.iconst 1) 1 686 := ⟨by decide +kernel, rfl⟩
theorem d_law_686 : x_dec m_law 686 (.iadd) 1 687 := ⟨by decide +kernel, rfl⟩
theorem d_law_687 : x_dec m_law 687 (.iaload) 1 688 := ⟨by decide +kernel, rfl⟩
theorem d_law_688 : x_dec m_law 688 (.aload_n 0) 1 689 := ⟨by decide +kernel, rfl⟩
theorem d_law_689 : x_dec m_law 689 (.iload_n 3) 1 690 := ⟨by decide +kernel, rfl⟩
theorem d_law_690 : x_dec m_law 690 (.iconst 2) 1 691 := ⟨by decide +kernel, rfl⟩
theorem d_law_691 : x_dec m_law 691 (.iadd) 1 692 := ⟨by decide +kernel, rfl⟩
theorem d_law_692 : x_dec m_law 692 (.iaload) 1 693 := ⟨by decide +kernel, rfl⟩
theorem d_law_693 : x_dec m_law 693 (.invokevirtual 84) 3 696 := ⟨by decide +kernel, rfl⟩
theorem d_law_696 : x_dec m_law 696 (.if_icmp .eq 859) 3 699 := ⟨by decide +kernel, rfl⟩
theorem d_law_699 : x_dec m_law 699 (.iconst 0) 1 700 := ⟨by decide +kernel, rfl⟩
theorem d_law_700 : x_dec m_law 700 (.ireturn) 1 701 := ⟨by decide +kernel, rfl⟩
theorem d_law_701 : x_dec m_law 701 (.aload_n 1) 1 702 := ⟨by decide +kernel, rfl⟩
theorem d_law_702 : x_dec m_law 702 (.aload_n 0) 1 703 := ⟨by decide +kernel, rfl⟩
theorem d_law_703 : x_dec m_law 703 (.iload_n 3) 1 704 := ⟨by decide +kernel, rfl⟩
theorem d_law_704 : x_dec m_law 704 (.iconst 1) 1 705 := ⟨by decide +kernel, rfl⟩
theorem d_law_705 : x_dec m_law 705 (.iadd) 1 706 := ⟨by decide +kernel, rfl⟩
theorem d_law_706 : x_dec m_law 706 (.iaload) 1 707 := ⟨by decide +kernel, rfl⟩
theorem d_law_707 : x_dec m_law 707 (.aload_n 0) 1 708 := ⟨by decide +kernel, rfl⟩
theorem d_law_708 : x_dec m_law 708 (.iload_n 3) 1 709 := ⟨by decide +kernel, rfl⟩
theorem d_law_709 : x_dec m_law 709 (.iconst 2) 1 710 := ⟨by decide +kernel, rfl⟩
theorem d_law_710 : x_dec m_law 710 (.iadd) 1 711 := ⟨by decide +kernel, rfl⟩
theorem d_law_711 : x_dec m_law 711 (.iaload) 1 712 := ⟨by decide +kernel, rfl⟩
theorem d_law_712 : x_dec m_law 712 (.invokevirtual 85) 3 715 := ⟨by decide +kernel, rfl⟩
theorem d_law_715 : x_dec m_law 715 (.aload_n 2) 1 716 := ⟨by decide +kernel, rfl⟩
theorem d_law_716 : x_dec m_law 716 (.aload_n 0) 1 717 := ⟨by decide +kernel, rfl⟩
theorem d_law_717 : x_dec m_law 717 (.iload_n 3) 1 718 := ⟨by decide +kernel, rfl⟩
theorem d_law_718 : x_dec m_law 718 (.iconst 1) 1 719 := ⟨by decide +kernel, rfl⟩
theorem d_law_719 : x_dec m_law 719 (.iadd) 1 720 := ⟨by decide +kernel, rfl⟩
theorem d_law_720 : x_dec m_law 720 (.iaload) 1 721 := ⟨by decide +kernel, rfl⟩
theorem d_law_721 : x_dec m_law 721 (.aload_n 0) 1 722 := ⟨by decide +kernel, rfl⟩
theorem d_law_722 : x_dec m_law 722 (.iload_n 3) 1 723 := ⟨by decide +kernel, rfl⟩
theorem d_law_723 : x_dec m_law 723 (.iconst 2) 1 724 := ⟨by decide +kernel, rfl⟩
theorem d_law_724 : x_dec m_law 724 (.iadd) 1 725 := ⟨by decide +kernel, rfl⟩
theorem d_law_725 : x_dec m_law 725 (.iaload) 1 726 := ⟨by decide +kernel, rfl⟩
theorem d_law_726 : x_dec m_law 726 (.invokevirtual 88) 3 729 := ⟨by decide +kernel, rfl⟩
theorem d_law_729 : x_dec m_law 729 (.if_icmp .eq 826) 3 732 := ⟨by decide +kernel, rfl⟩
theorem d_law_732 : x_dec m_law 732 (.iconst 0) 1 733 := ⟨by decide +kernel, rfl⟩
theorem d_law_733 : x_dec m_law 733 (.ireturn) 1 734 := ⟨by decide +kernel, rfl⟩
theorem d_law_734 : x_dec m_law 734 (.aload_n 1) 1 735 := ⟨by decide +kernel, rfl⟩
theorem d_law_735 : x_dec m_law 735 (.aload_n 0) 1 736 := ⟨by decide +kernel, rfl⟩
theorem d_law_736 : x_dec m_law 736 (.iload_n 3) 1 737 := ⟨by decide +kernel, rfl⟩
theorem d_law_737 : x_dec m_law 737 (.iconst 1) 1 738 := ⟨by decide +kernel, rfl⟩
theorem d_law_738 : x_dec m_law 738 (.iadd) 1 739 := ⟨by decide +kernel, rfl⟩
theorem d_law_739 : x_dec m_law 739 (.iaload) 1 740 := ⟨by decide +kernel, rfl⟩
theorem d_law_740 : x_dec m_law 740 (.aload_n 0) 1 741 := ⟨by decide +kernel, rfl⟩
theorem d_law_741 : x_dec m_law 741 (.iload_n 3) 1 742 := ⟨by decide +kernel, rfl⟩
theorem d_law_742 : x_dec m_law 742 (.iconst 2) 1 743 := ⟨by decide +kernel, rfl⟩
theorem d_law_743 : x_dec m_law 743 (.iadd) 1 744 := ⟨by decide +kernel, rfl⟩
theorem d_law_744 : x_dec m_law 744 (.iaload) 1 745 := ⟨by decide +kernel, rfl⟩
theorem d_law_745 : x_dec m_law 745 (.invokevirtual 89) 3 748 := ⟨by decide +kernel, rfl⟩
theorem d_law_748 : x_dec m_law 748 (.aload_n 2) 1 749 := ⟨by decide +kernel, rfl⟩
theorem d_law_749 : x_dec m_law 749 (.aload_n 0) 1 750 := ⟨by decide +kernel, rfl⟩
theorem d_law_750 : x_dec m_law 750 (.iload_n 3) 1 751 := ⟨by decide +kernel, rfl⟩
theorem d_law_751 : x_dec m_law 751 (.iconst 1) 1 752 := ⟨by decide +kernel, rfl⟩
theorem d_law_752 : x_dec m_law 752 (.iadd) 1 753 := ⟨by decide +kernel, rfl⟩
theorem d_law_753 : x_dec m_law 753 (.iaload) 1 754 := ⟨by decide +kernel, rfl⟩
theorem d_law_754 : x_dec m_law 754 (.aload_n 0) 1 755 := ⟨by decide +kernel, rfl⟩
theorem d_law_755 : x_dec m_law 755 (.iload_n 3) 1 756 := ⟨by decide +kernel, rfl⟩
theorem d_law_756 : x_dec m_law 756 (.iconst 2) 1 757 := ⟨by decide +kernel, rfl⟩
theorem d_law_757 : x_dec m_law 757 (.iadd) 1 758 := ⟨by decide +kernel, rfl⟩
theorem d_law_758 : x_dec m_law 758 (.iaload) 1 759 := ⟨by decide +kernel, rfl⟩
theorem d_law_759 : x_dec m_law 759 (.invokevirtual 92) 3 762 := ⟨by decide +kernel, rfl⟩
theorem d_law_762 : x_dec m_law 762 (.if_icmp .eq 793) 3 765 := ⟨by decide +kernel, rfl⟩
theorem d_law_765 : x_dec m_law 765 (.iconst 0) 1 766 := ⟨by decide +kernel, rfl⟩
theorem d_law_766 : x_dec m_law 766 (.ireturn) 1 767 := ⟨by decide +kernel, rfl⟩
theorem d_law_767 : x_dec m_law 767 (.aload_n 1) 1 768 := ⟨by decide +kernel, rfl⟩
theorem d_law_768 : x_dec m_law 768 (.aload_n 0) 1 769 := ⟨by decide +kernel, rfl⟩
theorem d_law_769 : x_dec m_law 769 (.iload_n 3) 1 770 := ⟨by decide +kernel, rfl⟩
theorem d_law_770 : x_dec m_law 770 (.iconst 1) 1 771 := ⟨by decide +kernel, rfl⟩
theorem d_law_771 : x_dec m_law 771 (.iadd) 1 772 := ⟨by decide +kernel, rfl⟩
theorem d_law_772 : x_dec m_law 772 (.iaload) 1 773 := ⟨by decide +kernel, rfl⟩
theorem d_law_773 : x_dec m_law 773 (.invokevirtual 93) 3 776 := ⟨by decide +kernel, rfl⟩
theorem d_law_776 : x_dec m_law 776 (.aload_n 2) 1 777 := ⟨by decide +kernel, rfl⟩
theorem d_law_777 : x_dec m_law 777 (.aload_n 0) 1 778 := ⟨by decide +kernel, rfl⟩
theorem d_law_778 : x_dec m_law 778 (.iload_n 3) 1 779 := ⟨by decide +kernel, rfl⟩
theorem d_law_779 : x_dec m_law 779 (.iconst 1) 1 780 := ⟨by decide +kernel, rfl⟩
theorem d_law_780 : x_dec m_law 780 (.iadd) 1 781 := ⟨by decide +kernel, rfl⟩
theorem d_law_781 : x_dec m_law 781 (.iaload) 1 782 := ⟨by decide +kernel, rfl⟩
theorem d_law_782 : x_dec m_law 782 (.invokevirtual 96) 3 785 := ⟨by decide +kernel, rfl⟩
theorem d_law_785 : x_dec m_law 785 (.if_icmp .eq 770) 3 788 := ⟨by decide +kernel, rfl⟩
theorem d_law_788 : x_dec m_law 788 (.iconst 0) 1 789 := ⟨by decide +kernel, rfl⟩
theorem d_law_789 : x_dec m_law 789 (.ireturn) 1 790 := ⟨by decide +kernel, rfl⟩
theorem d_law_790 : x_dec m_law 790 (.aload_n 1) 1 791 := ⟨by decide +kernel, rfl⟩
theorem d_law_791 : x_dec m_law 791 (.aload_n 0) 1 792 := ⟨by decide +kernel, rfl⟩
theorem d_law_792 : x_dec m_law 792 (.iload_n 3) 1 793 := ⟨by decide +kernel, rfl⟩
theorem d_law_793 : x_dec m_law 793 (.iconst 1) 1 794 := ⟨by decide +kernel, rfl⟩
theorem d_law_794 : x_dec m_law 794 (.iadd) 1 795 := ⟨by decide +kernel, rfl⟩
theorem d_law_795 : x_dec m_law 795 (.iaload) 1 796 := ⟨by decide +kernel, rfl⟩
theorem d_law_796 : x_dec m_law 796 (.invokevirtual 97) 3 799 := ⟨by decide +kernel, rfl⟩
theorem d_law_799 : x_dec m_law 799 (.aload_n 2) 1 800 := ⟨by decide +kernel, rfl⟩
theorem d_law_800 : x_dec m_law 800 (.aload_n 0) 1 801 := ⟨by decide +kernel, rfl⟩
theorem d_law_801 : x_dec m_law 801 (.iload_n 3) 1 802 := ⟨by decide +kernel, rfl⟩
theorem d_law_802 : x_dec m_law 802 (.iconst 1) 1 803 := ⟨by decide +kernel, rfl⟩
theorem d_law_803 : x_dec m_law 803 (.iadd) 1 804 := ⟨by decide +kernel, rfl⟩
theorem d_law_804 : x_dec m_law 804 (.iaload) 1 805 := ⟨by decide +kernel, rfl⟩
theorem d_law_805 : x_dec m_law 805 (.invokevirtual 100) 3 808 := ⟨by decide +kernel, rfl⟩
theorem d_law_808 : x_dec m_law 808 (.if_icmp .eq 747) 3 811 := ⟨by decide +kernel, rfl⟩
theorem d_law_811 : x_dec m_law 811 (.iconst 0) 1 812 := ⟨by decide +kernel, rfl⟩
theorem d_law_812 : x_dec m_law 812 (.ireturn) 1 813 := ⟨by decide +kernel, rfl⟩
theorem d_law_813 : x_dec m_law 813 (.aload_n 1) 1 814 := ⟨by decide +kernel, rfl⟩
theorem d_law_814 : x_dec m_law 814 (.aload_n 0) 1 815 := ⟨by decide +kernel, rfl⟩
theorem d_law_815 : x_dec m_law 815 (.iload_n 3) 1 816 := ⟨by decide +kernel, rfl⟩
theorem d_law_816 : x_dec m_law 816 (.iconst 1) 1 817 := ⟨by decide +kernel, rfl⟩
theorem d_law_817 : x_dec m_law 817 (.iadd) 1 818 := ⟨by decide +kernel, rfl⟩
theorem d_law_818 : x_dec m_law 818 (.iaload) 1 819 := ⟨by decide +kernel, rfl⟩
theorem d_law_819 : x_dec m_law 819 (.aload_n 0) 1 820 := ⟨by decide +kernel, rfl⟩
theorem d_law_820 : x_dec m_law 820 (.iload_n 3) 1 821 := ⟨by decide +kernel, rfl⟩
theorem d_law_821 : x_dec m_law 821 (.iconst 2) 1 822 := ⟨by decide +kernel, rfl⟩
theorem d_law_822 : x_dec m_law 822 (.iadd) 1 823 := ⟨by decide +kernel, rfl⟩
theorem d_law_823 : x_dec m_law 823 (.iaload) 1 824 := ⟨by decide +kernel, rfl⟩
theorem d_law_824 : x_dec m_law 824 (.aload_n 0) 1 825 := ⟨by decide +kernel, rfl⟩
theorem d_law_825 : x_dec m_law 825 (.iload_n 3) 1 826 := ⟨by decide +kernel, rfl⟩
theorem d_law_826 : x_dec m_law 826 (.iconst 3) 1 827 := ⟨by decide +kernel, rfl⟩
theorem d_law_827 : x_dec m_law 827 (.iadd) 1 828 := ⟨by decide +kernel, rfl⟩
theorem d_law_828 : x_dec m_law 828 (.iaload) 1 829 := ⟨by decide +kernel, rfl⟩
theorem d_law_829 : x_dec m_law 829 (.invokevirtual 101) 3 832 := ⟨by decide +kernel, rfl⟩
theorem d_law_832 : x_dec m_law 832 (.aload_n 2) 1 833 := ⟨by decide +kernel, rfl⟩
theorem d_law_833 : x_dec m_law 833 (.aload_n 0) 1 834 := ⟨by decide +kernel, rfl⟩
theorem d_law_834 : x_dec m_law 834 (.iload_n 3) 1 835 := ⟨by decide +kernel, rfl⟩
theorem d_law_835 : x_dec m_law 835 (.iconst 1) 1 836 := ⟨by decide +kernel, rfl⟩
theorem d_law_836 : x_dec m_law 836 (.iadd) 1 837 := ⟨by decide +kernel, rfl⟩
theorem d_law_837 : x_dec m_law 837 (.iaload) 1 838 := ⟨by decide +kernel, rfl⟩
theorem d_law_838 : x_dec m_law 838 (.aload_n 0) 1 839 := ⟨by decide +kernel, rfl⟩
theorem d_law_839 : x_dec m_law 839 (.iload_n 3) 1 840 := ⟨by decide +kernel, rfl⟩
theorem d_law_840 : x_dec m_law 840 (.iconst 2) 1 841 := ⟨by decide +kernel, rfl⟩
theorem d_law_841 : x_dec m_law 841 (.iadd) 1 842 := ⟨by decide +kernel, rfl⟩
theorem d_law_842 : x_dec m_law 842 (.iaload) 1 843 := ⟨by decide +kernel, rfl⟩
theorem d_law_843 : x_dec m_law 843 (.aload_n 0) 1 844 := ⟨by decide +kernel, rfl⟩
theorem d_law_844 : x_dec m_law 844 (.iload_n 3) 1 845 := ⟨by decide +kernel, rfl⟩
theorem d_law_845 : x_dec m_law 845 (.iconst 3) 1 846 := ⟨by decide +kernel, rfl⟩
theorem d_law_846 : x_dec m_law 846 (.iadd) 1 847 := ⟨by decide +kernel, rfl⟩
theorem d_law_847 : x_dec m_law 847 (.iaload) 1 848 := ⟨by decide +kernel, rfl⟩
theorem d_law_848 : x_dec m_law 848 (.invokevirtual 104) 3 851 := ⟨by decide +kernel, rfl⟩
theorem d_law_851 : x_dec m_law 851 (.if_icmp .eq 704) 3 854 := ⟨by decide +kernel, rfl⟩
theorem d_law_854 : x_dec m_law 854 (.iconst 0) 1 855 := ⟨by decide +kernel, rfl⟩
theorem d_law_855 : x_dec m_law 855 (.ireturn) 1 856 := ⟨by decide +kernel, rfl⟩
theorem d_law_856 : x_dec m_law 856 (.aload_n 1) 1 857 := ⟨by decide +kernel, rfl⟩
theorem d_law_857 : x_dec m_law 857 (.aload_n 0) 1 858 := ⟨by decide +kernel, rfl⟩
theorem d_law_858 : x_dec m_law 858 (.iload_n 3) 1 859 := ⟨by decide +kernel, rfl⟩
theorem d_law_859 : x_dec m_law 859 (.iconst 1) 1 860 := ⟨by decide +kernel, rfl⟩
theorem d_law_860 : x_dec m_law 860 (.iadd) 1 861 := ⟨by decide +kernel, rfl⟩
theorem d_law_861 : x_dec m_law 861 (.iaload) 1 862 := ⟨by decide +kernel, rfl⟩
theorem d_law_862 : x_dec m_law 862 (.aload_n 0) 1 863 := ⟨by decide +kernel, rfl⟩
theorem d_law_863 : x_dec m_law 863 (.iload_n 3) 1 864 := ⟨by decide +kernel, rfl⟩
theorem d_law_864 : x_dec m_law 864 (.iconst 2) 1 865 := ⟨by decide +kernel, rfl⟩
theorem d_law_865 : x_dec m_law 865 (.iadd) 1 866 := ⟨by decide +kernel, rfl⟩
theorem d_law_866 : x_dec m_law 866 (.iaload) 1 867 := ⟨by decide +kernel, rfl⟩
theorem d_law_867 : x_dec m_law 867 (.invokevirtual 105) 3 870 := ⟨by decide +kernel, rfl⟩
theorem d_law_870 : x_dec m_law 870 (.aload_n 2) 1 871 := ⟨by decide +kernel, rfl⟩
theorem d_law_871 : x_dec m_law 871 (.aload_n 0) 1 872 := ⟨by decide +kernel, rfl⟩
theorem d_law_872 : x_dec m_law 872 (.iload_n 3) 1 873 := ⟨by decide +kernel, rfl⟩
theorem d_law_873 : x_dec m_law 873 (.iconst 1) 1 874 := ⟨by decide +kernel, rfl⟩
theorem d_law_874 : x_dec m_law 874 (.iadd) 1 875 := ⟨by decide +kernel, rfl⟩
theorem d_law_875 : x_dec m_law 875 (.iaload) 1 876 := ⟨by decide +kernel, rfl⟩
theorem d_law_876 : x_dec m_law 876 (.aload_n 0) 1 877 := ⟨by decide +kernel, rfl⟩
theorem d_law_877 : x_dec m_law 877 (.iload_n 3) 1 878 := ⟨by decide +kernel, rfl⟩
theorem d_law_878 : x_dec m_law 878 (.iconst 2) 1 879 := ⟨by decide +kernel, rfl⟩
theorem d_law_879 : x_dec m_law 879 (.iadd) 1 880 := ⟨by decide +kernel, rfl⟩
theorem d_law_880 : x_dec m_law 880 (.iaload) 1 881 := ⟨by decide +kernel, rfl⟩
theorem d_law_881 : x_dec m_law 881 (.invokevirtual 108) 3 884 := ⟨by decide +kernel, rfl⟩
theorem d_law_884 : x_dec m_law 884 (.if_icmp .eq 671) 3 887 := ⟨by decide +kernel, rfl⟩
theorem d_law_887 : x_dec m_law 887 (.iconst 0) 1 888 := ⟨by decide +kernel, rfl⟩
theorem d_law_888 : x_dec m_law 888 (.ireturn) 1 889 := ⟨by decide +kernel, rfl⟩
theorem d_law_889 : x_dec m_law 889 (.aload_n 1) 1 890 := ⟨by decide +kernel, rfl⟩
theorem d_law_890 : x_dec m_law 890 (.aload_n 0) 1 891 := ⟨by decide +kernel, rfl⟩
theorem d_law_891 : x_dec m_law 891 (.iload_n 3) 1 892 := ⟨by decide +kernel, rfl⟩
theorem d_law_892 : x_dec m_law 892 (.iconst 1) 1 893 := ⟨by decide +kernel, rfl⟩
theorem d_law_893 : x_dec m_law 893 (.iadd) 1 894 := ⟨by decide +kernel, rfl⟩
theorem d_law_894 : x_dec m_law 894 (.iaload) 1 895 := ⟨by decide +kernel, rfl⟩
theorem d_law_895 : x_dec m_law 895 (.aload_n 0) 1 896 := ⟨by decide +kernel, rfl⟩
theorem d_law_896 : x_dec m_law 896 (.iload_n 3) 1 897 := ⟨by decide +kernel, rfl⟩
theorem d_law_897 : x_dec m_law 897 (.iconst 2) 1 898 := ⟨by decide +kernel, rfl⟩
theorem d_law_898 : x_dec m_law 898 (.iadd) 1 899 := ⟨by decide +kernel, rfl⟩
theorem d_law_899 : x_dec m_law 899 (.iaload) 1 900 := ⟨by decide +kernel, rfl⟩
theorem d_law_900 : x_dec m_law 900 (.invokevirtual 109) 3 903 := ⟨by decide +kernel, rfl⟩
theorem d_law_903 : x_dec m_law 903 (.aload_n 2) 1 904 := ⟨by decide +kernel, rfl⟩
theorem d_law_904 : x_dec m_law 904 (.aload_n 0) 1 905 := ⟨by decide +kernel, rfl⟩
theorem d_law_905 : x_dec m_law 905 (.iload_n 3) 1 906 := ⟨by decide +kernel, rfl⟩
theorem d_law_906 : x_dec m_law 906 (.iconst 1) 1 907 := ⟨by decide +kernel, rfl⟩
theorem d_law_907 : x_dec m_law 907 (.iadd) 1 908 := ⟨by decide +kernel, rfl⟩
theorem d_law_908 : x_dec m_law 908 (.iaload) 1 909 := ⟨by decide +kernel, rfl⟩
theorem d_law_909 : x_dec m_law 909 (.aload_n 0) 1 910 := ⟨by decide +kernel, rfl⟩
theorem d_law_910 : x_dec m_law 910 (.iload_n 3) 1 911 := ⟨by decide +kernel, rfl⟩
theorem d_law_911 : x_dec m_law 911 (.iconst 2) 1 912 := ⟨by decide +kernel, rfl⟩
theorem d_law_912 : x_dec m_law 912 (.iadd) 1 913 := ⟨by decide +kernel, rfl⟩
theorem d_law_913 : x_dec m_law 913 (.iaload) 1 914 := ⟨by decide +kernel, rfl⟩
theorem d_law_914 : x_dec m_law 914 (.invokevirtual 112) 3 917 := ⟨by decide +kernel, rfl⟩
theorem d_law_917 : x_dec m_law 917 (.if_icmp .eq 638) 3 920 := ⟨by decide +kernel, rfl⟩
theorem d_law_920 : x_dec m_law 920 (.iconst 0) 1 921 := ⟨by decide +kernel, rfl⟩
theorem d_law_921 : x_dec m_law 921 (.ireturn) 1 922 := ⟨by decide +kernel, rfl⟩
theorem d_law_922 : x_dec m_law 922 (.aload_n 1) 1 923 := ⟨by decide +kernel, rfl⟩
theorem d_law_923 : x_dec m_law 923 (.aload_n 0) 1 924 := ⟨by decide +kernel, rfl⟩
theorem d_law_924 : x_dec m_law 924 (.iload_n 3) 1 925 := ⟨by decide +kernel, rfl⟩
theorem d_law_925 : x_dec m_law 925 (.iconst 1) 1 926 := ⟨by decide +kernel, rfl⟩
theorem d_law_926 : x_dec m_law 926 (.iadd) 1 927 := ⟨by decide +kernel, rfl⟩
theorem d_law_927 : x_dec m_law 927 (.iaload) 1 928 := ⟨by decide +kernel, rfl⟩
theorem d_law_928 : x_dec m_law 928 (.aload_n 0) 1 929 := ⟨by decide +kernel, rfl⟩
theorem d_law_929 : x_dec m_law 929 (.iload_n 3) 1 930 := ⟨by decide +kernel, rfl⟩
theorem d_law_930 : x_dec m_law 930 (.iconst 2) 1 931 := ⟨by decide +kernel, rfl⟩
theorem d_law_931 : x_dec m_law 931 (.iadd) 1 932 := ⟨by decide +kernel, rfl⟩
theorem d_law_932 : x_dec m_law 932 (.iaload) 1 933 := ⟨by decide +kernel, rfl⟩
theorem d_law_933 : x_dec m_law 933 (.invokevirtual 113) 3 936 := ⟨by decide +kernel, rfl⟩
theorem d_law_936 : x_dec m_law 936 (.aload_n 2) 1 937 := ⟨by decide +kernel, rfl⟩
theorem d_law_937 : x_dec m_law 937 (.aload_n 0) 1 938 := ⟨by decide +kernel, rfl⟩
theorem d_law_938 : x_dec m_law 938 (.iload_n 3) 1 939 := ⟨by decide +kernel, rfl⟩
theorem d_law_939 : x_dec m_law 939 (.iconst 1) 1 940 := ⟨by decide +kernel, rfl⟩
theorem d_law_940 : x_dec m_law 940 (.iadd) 1 941 := ⟨by decide +kernel, rfl⟩
theorem d_law_941 : x_dec m_law 941 (.iaload) 1 942 := ⟨by decide +kernel, rfl⟩
theorem d_law_942 : x_dec m_law 942 (.aload_n 0) 1 943 := ⟨by decide +kernel, rfl⟩
theorem d_law_943 : x_dec m_law 943 (.iload_n 3) 1 944 := ⟨by decide +kernel, rfl⟩
theorem d_law_944 : x_dec m_law 944 (.iconst 2) 1 945 := ⟨by decide +kernel, rfl⟩
theorem d_law_945 : x_dec m_law 945 (.iadd) 1 946 := ⟨by decide +kernel, rfl⟩
theorem d_law_946 : x_dec m_law 946 (.iaload) 1 947 := ⟨by decide +kernel, rfl⟩
theorem d_law_947 : x_dec m_law 947 (.invokevirtual 116) 3 950 := ⟨by decide +kernel, rfl⟩
theorem d_law_950 : x_dec m_law 950 (.if_icmp .eq 605) 3 953 := ⟨by decide +kernel, rfl⟩
theorem d_law_953 : x_dec m_law 953 (.iconst 0) 1 954 := ⟨by decide +kernel, rfl⟩
theorem d_law_954 : x_dec m_law 954 (.ireturn) 1 955 := ⟨by decide +kernel, rfl⟩
theorem d_law_955 : x_dec m_law 955 (.aload_n 1) 1 956 := ⟨by decide +kernel, rfl⟩
theorem d_law_956 : x_dec m_law 956 (.aload_n 0) 1 957 := ⟨by decide +kernel, rfl⟩
theorem d_law_957 : x_dec m_law 957 (.iload_n 3) 1 958 := ⟨by decide +kernel, rfl⟩
theorem d_law_958 : x_dec m_law 958 (.iconst 1) 1 959 := ⟨by decide +kernel, rfl⟩
theorem d_law_959 : x_dec m_law 959 (.iadd) 1 960 := ⟨by decide +kernel, rfl⟩
theorem d_law_960 : x_dec m_law 960 (.iaload) 1 961 := ⟨by decide +kernel, rfl⟩
theorem d_law_961 : x_dec m_law 961 (.aload_n 0) 1 962 := ⟨by decide +kernel, rfl⟩
theorem d_law_962 : x_dec m_law 962 (.iload_n 3) 1 963 := ⟨by decide +kernel, rfl⟩
theorem d_law_963 : x_dec m_law 963 (.iconst 2) 1 964 := ⟨by decide +kernel, rfl⟩
theorem d_law_964 : x_dec m_law 964 (.iadd) 1 965 := ⟨by decide +kernel, rfl⟩
theorem d_law_965 : x_dec m_law 965 (.iaload) 1 966 := ⟨by decide +kernel, rfl⟩
theorem d_law_966 : x_dec m_law 966 (.invokevirtual 117) 3 969 := ⟨by decide +kernel, rfl⟩
theorem d_law_969 : x_dec m_law 969 (.aload_n 2) 1 970 := ⟨by decide +kernel, rfl⟩
theorem d_law_970 : x_dec m_law 970 (.aload_n 0) 1 971 := ⟨by decide +kernel, rfl⟩
theorem d_law_971 : x_dec m_law 971 (.iload_n 3) 1 972 := ⟨by decide +kernel, rfl⟩
theorem d_law_972 : x_dec m_law 972 (.iconst 1) 1 973 := ⟨by decide +kernel, rfl⟩
theorem d_law_973 : x_dec m_law 973 (.iadd) 1 974 := ⟨by decide +kernel, rfl⟩
theorem d_law_974 : x_dec m_law 974 (.iaload) 1 975 := ⟨by decide +kernel, rfl⟩
theorem d_law_975 : x_dec m_law 975 (.aload_n 0) 1 976 := ⟨by decide +kernel, rfl⟩
theorem d_law_976 : x_dec m_law 976 (.iload_n 3) 1 977 := ⟨by decide +kernel, rfl⟩
theorem d_law_977 : x_dec m_law 977 (.iconst 2) 1 978 := ⟨by decide +kernel, rfl⟩
theorem d_law_978 : x_dec m_law 978 (.iadd) 1 979 := ⟨by decide +kernel, rfl⟩
theorem d_law_979 : x_dec m_law 979 (.iaload) 1 980 := ⟨by decide +kernel, rfl⟩
theorem d_law_980 : x_dec m_law 980 (.invokevirtual 120) 3 983 := ⟨by decide +kernel, rfl⟩
theorem d_law_983 : x_dec m_law 983 (.if_icmp .eq 572) 3 986 := ⟨by decide +kernel, rfl⟩
theorem d_law_986 : x_dec m_law 986 (.iconst 0) 1 987 := ⟨by decide +kernel, rfl⟩
theorem d_law_987 : x_dec m_law 987 (.ireturn) 1 988 := ⟨by decide +kernel, rfl⟩
theorem d_law_988 : x_dec m_law 988 (.aload_n 1) 1 989 := ⟨by decide +kernel, rfl⟩
theorem d_law_989 : x_dec m_law 989 (.aload_n 0) 1 990 := ⟨by decide +kernel, rfl⟩
theorem d_law_990 : x_dec m_law 990 (.iload_n 3) 1 991 := ⟨by decide +kernel, rfl⟩
theorem d_law_991 : x_dec m_law 991 (.iconst 1) 1 992 := ⟨by decide +kernel, rfl⟩
theorem d_law_992 : x_dec m_law 992 (.iadd) 1 993 := ⟨by decide +kernel, rfl⟩
theorem d_law_993 : x_dec m_law 993 (.iaload) 1 994 := ⟨by decide +kernel, rfl⟩
theorem d_law_994 : x_dec m_law 994 (.aload_n 0) 1 995 := ⟨by decide +kernel, rfl⟩
theorem d_law_995 : x_dec m_law 995 (.iload_n 3) 1 996 := ⟨by decide +kernel, rfl⟩
theorem d_law_996 : x_dec m_law 996 (.iconst 2) 1 997 := ⟨by decide +kernel, rfl⟩
theorem d_law_997 : x_dec m_law 997 (.iadd) 1 998 := ⟨by decide +kernel, rfl⟩
theorem d_law_998 : x_dec m_law 998 (.iaload) 1 999 := ⟨by decide +kernel, rfl⟩
theorem d_law_999 : x_dec m_law 999 (.invokevirtual 121) 3 1002 := ⟨by decide +kernel, rfl⟩
theorem d_law_1002 : x_dec m_law 1002 (.aload_n 2) 1 1003 := ⟨by decide +kernel, rfl⟩
theorem d_law_1003 : x_dec m_law 1003 (.aload_n 0) 1 1004 := ⟨by decide +kernel, rfl⟩
theorem d_law_1004 : x_dec m_law 1004 (.iload_n 3) 1 1005 := ⟨by decide +kernel, rfl⟩
theorem d_law_1005 : x_dec m_law 1005 (.iconst 1) 1 1006 := ⟨by decide +kernel, rfl⟩
theorem d_law_1006 : x_dec m_law 1006 (.iadd) 1 1007 := ⟨by decide +kernel, rfl⟩
theorem d_law_1007 : x_dec m_law 1007 (.iaload) 1 1008 := ⟨by decide +kernel, rfl⟩
theorem d_law_1008 : x_dec m_law 1008 (.aload_n 0) 1 1009 := ⟨by decide +kernel, rfl⟩
theorem d_law_1009 : x_dec m_law 1009 (.iload_n 3) 1 1010 := ⟨by decide +kernel, rfl⟩
theorem d_law_1010 : x_dec m_law 1010 (.iconst 2) 1 1011 := ⟨by decide +kernel, rfl⟩
theorem d_law_1011 : x_dec m_law 1011 (.iadd) 1 1012 := ⟨by decide +kernel, rfl⟩
theorem d_law_1012 : x_dec m_law 1012 (.iaload) 1 1013 := ⟨by decide +kernel, rfl⟩
theorem d_law_1013 : x_dec m_law 1013 (.invokevirtual 124) 3 1016 := ⟨by decide +kernel, rfl⟩
theorem d_law_1016 : x_dec m_law 1016 (.if_icmp .eq 539) 3 1019 := ⟨by decide +kernel, rfl⟩
theorem d_law_1019 : x_dec m_law 1019 (.iconst 0) 1 1020 := ⟨by decide +kernel, rfl⟩
theorem d_law_1020 : x_dec m_law 1020 (.ireturn) 1 1021 := ⟨by decide +kernel, rfl⟩
theorem d_law_1021 : x_dec m_law 1021 (.aload_n 1) 1 1022 := ⟨by decide +kernel, rfl⟩
theorem d_law_1022 : x_dec m_law 1022 (.invokevirtual 125) 3 1025 := ⟨by decide +kernel, rfl⟩
theorem d_law_1025 : x_dec m_law 1025 (.aload_n 2) 1 1026 := ⟨by decide +kernel, rfl⟩
theorem d_law_1026 : x_dec m_law 1026 (.invokevirtual 128) 3 1029 := ⟨by decide +kernel, rfl⟩
theorem d_law_1029 : x_dec m_law 1029 (.if_icmp .eq 526) 3 1032 := ⟨by decide +kernel, rfl⟩
theorem d_law_1032 : x_dec m_law 1032 (.iconst 0) 1 1033 := ⟨by decide +kernel, rfl⟩
theorem d_law_1033 : x_dec m_law 1033 (.ireturn) 1 1034 := ⟨by decide +kernel, rfl⟩
theorem d_law_1034 : x_dec m_law 1034 (.aload_n 1) 1 1035 := ⟨by decide +kernel, rfl⟩
theorem d_law_1035 : x_dec m_law 1035 (.aload_n 0) 1 1036 := ⟨by decide +kernel, rfl⟩
theorem d_law_1036 : x_dec m_law 1036 (.iload_n 3) 1 1037 := ⟨by decide +kernel, rfl⟩
theorem d_law_1037 : x_dec m_law 1037 (.iconst 1) 1 1038 := ⟨by decide +kernel, rfl⟩
theorem d_law_1038 : x_dec m_law 1038 (.iadd) 1 1039 := ⟨by decide +kernel, rfl⟩
theorem d_law_1039 : x_dec m_law 1039 (.iaload) 1 1040 := ⟨by decide +kernel, rfl⟩
theorem d_law_1040 : x_dec m_law 1040 (.invokevirtual 129) 3 1043 := ⟨by decide +kernel, rfl⟩
theorem d_law_1043 : x_dec m_law 1043 (.aload_n 2) 1 1044 := ⟨by decide +kernel, rfl⟩
theorem d_law_1044 : x_dec m_law 1044 (.aload_n 0) 1 1045 := ⟨by decide +kernel, rfl⟩
theorem d_law_1045 : x_dec m_law 1045 (.iload_n 3) 1 1046 := ⟨by decide +kernel, rfl⟩
theorem d_law_1046 : x_dec m_law 1046 (.iconst 1) 1 1047 := ⟨by decide +kernel, rfl⟩
theorem d_law_1047 : x_dec m_law 1047 (.iadd) 1 1048 := ⟨by decide +kernel, rfl⟩
theorem d_law_1048 : x_dec m_law 1048 (.iaload) 1 1049 := ⟨by decide +kernel, rfl⟩
theorem d_law_1049 : x_dec m_law 1049 (.invokevirtual 132) 3 1052 := ⟨by decide +kernel, rfl⟩
theorem d_law_1052 : x_dec m_law 1052 (.if_icmp .eq 503) 3 1055 := ⟨by decide +kernel, rfl⟩
theorem d_law_1055 : x_dec m_law 1055 (.iconst 0) 1 1056 := ⟨by decide +kernel, rfl⟩
theorem d_law_1056 : x_dec m_law 1056 (.ireturn) 1 1057 := ⟨by decide +kernel, rfl⟩
theorem d_law_1057 : x_dec m_law 1057 (.aload_n 1) 1 1058 := ⟨by decide +kernel, rfl⟩
theorem d_law_1058 : x_dec m_law 1058 (.invokevirtual 133) 3 1061 := ⟨by decide +kernel, rfl⟩
theorem d_law_1061 : x_dec m_law 1061 (.aload_n 2) 1 1062 := ⟨by decide +kernel, rfl⟩
theorem d_law_1062 : x_dec m_law 1062 (.invokevirtual 136) 3 1065 := ⟨by decide +kernel, rfl⟩
theorem d_law_1065 : x_dec m_law 1065 (.if_icmp .eq 490) 3 1068 := ⟨by decide +kernel, rfl⟩
theorem d_law_1068 : x_dec m_law 1068 (.iconst 0) 1 1069 := ⟨by decide +kernel, rfl⟩
theorem d_law_1069 : x_dec m_law 1069 (.ireturn) 1 1070 := ⟨by decide +kernel, rfl⟩
theorem d_law_1070 : x_dec m_law 1070 (.aload_n 1) 1 1071 := ⟨by decide +kernel, rfl⟩
theorem d_law_1071 : x_dec m_law 1071 (.aload_n 0) 1 1072 := ⟨by decide +kernel, rfl⟩
theorem d_law_1072 : x_dec m_law 1072 (.iload_n 3) 1 1073 := ⟨by decide +kernel, rfl⟩
theorem d_law_1073 : x_dec m_law 1073 (.iconst 1) 1 1074 := ⟨by decide +kernel, rfl⟩
theorem d_law_1074 : x_dec m_law 1074 (.iadd) 1 1075 := ⟨by decide +kernel, rfl⟩
theorem d_law_1075 : x_dec m_law 1075 (.iaload) 1 1076 := ⟨by decide +kernel, rfl⟩
theorem d_law_1076 : x_dec m_law 1076 (.invokevirtual 137) 3 1079 := ⟨by decide +kernel, rfl⟩
theorem d_law_1079 : x_dec m_law 1079 (.aload_n 2) 1 1080 := ⟨by decide +kernel, rfl⟩
theorem d_law_1080 : x_dec m_law 1080 (.aload_n 0) 1 1081 := ⟨by decide +kernel, rfl⟩
theorem d_law_1081 : x_dec m_law 1081 (.iload_n 3) 1 1082 := ⟨by decide +kernel, rfl⟩
theorem d_law_1082 : x_dec m_law 1082 (.iconst 1) 1 1083 := ⟨by decide +kernel, rfl⟩
theorem d_law_1083 : x_dec m_law 1083 (.iadd) 1 1084 := ⟨by decide +kernel, rfl⟩
theorem d_law_1084 : x_dec m_law 1084 (.iaload) 1 1085 := ⟨by decide +kernel, rfl⟩
theorem d_law_1085 : x_dec m_law 1085 (.invokevirtual 140) 3 1088 := ⟨by decide +kernel, rfl⟩
theorem d_law_1088 : x_dec m_law 1088 (.if_icmp .eq 467) 3 1091 := ⟨by decide +kernel, rfl⟩
theorem d_law_1091 : x_dec m_law 1091 (.iconst 0) 1 1092 := ⟨by decide +kernel, rfl⟩
theorem d_law_1092 : x_dec m_law 1092 (.ireturn) 1 1093 := ⟨by decide +kernel, rfl⟩
theorem d_law_1093 : x_dec m_law 1093 (.aload_n 1) 1 1094 := ⟨by decide +kernel, rfl⟩
theorem d_law_1094 : x_dec m_law 1094 (.aload_n 0) 1 1095 := ⟨by decide +kernel, rfl⟩
theorem d_law_1095 : x_dec m_law 1095 (.iload_n 3) 1 1096 := ⟨by decide +kernel, rfl⟩
theorem d_law_1096 : x_dec m_law 1096 (.iconst 1) 1 1097 := ⟨by decide +kernel, rfl⟩
theorem d_law_1097 : x_dec m_law 1097 (.iadd) 1 1098 := ⟨by decide +kernel, rfl⟩
theorem d_law_1098 : x_dec m_law 1098 (.iaload) 1 1099 := ⟨by decide +kernel, rfl⟩
theorem d_law_1099 : x_dec m_law 1099 (.aload_n 0) 1 1100 := ⟨by decide +kernel, rfl⟩
theorem d_law_1100 : x_dec m_law 1100 (.iload_n 3) 1 1101 := ⟨by decide +kernel, rfl⟩
theorem d_law_1101 : x_dec m_law 1101 (.iconst 2) 1 1102 := ⟨by decide +kernel, rfl⟩
theorem d_law_1102 : x_dec m_law 1102 (.iadd) 1 1103 := ⟨by decide +kernel, rfl⟩
theorem d_law_1103 : x_dec m_law 1103 (.iaload) 1 1104 := ⟨by decide +kernel, rfl⟩
theorem d_law_1104 : x_dec m_law 1104 (.invokevirtual 141) 3 1107 := ⟨by decide +kernel, rfl⟩
theorem d_law_1107 : x_dec m_law 1107 (.aload_n 2) 1 1108 := ⟨by decide +kernel, rfl⟩
theorem d_law_1108 : x_dec m_law 1108 (.aload_n 0) 1 1109 := ⟨by decide +kernel, rfl⟩
theorem d_law_1109 : x_dec m_law 1109 (.iload_n 3) 1 1110 := ⟨by decide +kernel, rfl⟩
theorem d_law_1110 : x_dec m_law 1110 (.iconst 1) 1 1111 := ⟨by decide +kernel, rfl⟩
theorem d_law_1111 : x_dec m_law 1111 (.iadd) 1 1112 := ⟨by decide +kernel, rfl⟩
theorem d_law_1112 : x_dec m_law 1112 (.iaload) 1 1113 := ⟨by decide +kernel, rfl⟩
theorem d_law_1113 : x_dec m_law 1113 (.aload_n 0) 1 1114 := ⟨by decide +kernel, rfl⟩
theorem d_law_1114 : x_dec m_law 1114 (.iload_n 3) 1 1115 := ⟨by decide +kernel, rfl⟩
theorem d_law_1115 : x_dec m_law 1115 (.iconst 2) 1 1116 := ⟨by decide +kernel, rfl⟩
theorem d_law_1116 : x_dec m_law 1116 (.iadd) 1 1117 := ⟨by decide +kernel, rfl⟩
theorem d_law_1117 : x_dec m_law 1117 (.iaload) 1 1118 := ⟨by decide +kernel, rfl⟩
theorem d_law_1118 : x_dec m_law 1118 (.invokevirtual 145) 3 1121 := ⟨by decide +kernel, rfl⟩
theorem d_law_1121 : x_dec m_law 1121 (.lcmp) 1 1122 := ⟨by decide +kernel, rfl⟩
theorem d_law_1122 : x_dec m_law 1122 (.ifCond .eq 433) 3 1125 := ⟨by decide +kernel, rfl⟩
theorem d_law_1125 : x_dec m_law 1125 (.iconst 0) 1 1126 := ⟨by decide +kernel, rfl⟩
theorem d_law_1126 : x_dec m_law 1126 (.ireturn) 1 1127 := ⟨by decide +kernel, rfl⟩
theorem d_law_1127 : x_dec m_law 1127 (.aload_n 1) 1 1128 := ⟨by decide +kernel, rfl⟩
theorem d_law_1128 : x_dec m_law 1128 (.aload_n 0) 1 1129 := ⟨by decide +kernel, rfl⟩
theorem d_law_1129 : x_dec m_law 1129 (.iload_n 3) 1 1130 := ⟨by decide +kernel, rfl⟩
theorem d_law_1130 : x_dec m_law 1130 (.iconst 1) 1 1131 := ⟨by decide +kernel, rfl⟩
theorem d_law_1131 : x_dec m_law 1131 (.iadd) 1 1132 := ⟨by decide +kernel, rfl⟩
theorem d_law_1132 : x_dec m_law 1132 (.iaload) 1 1133 := ⟨by decide +kernel, rfl⟩
theorem d_law_1133 : x_dec m_law 1133 (.invokevirtual 146) 3 1136 := ⟨by decide +kernel, rfl⟩
theorem d_law_1136 : x_dec m_law 1136 (.aload_n 2) 1 1137 := ⟨by decide +kernel, rfl⟩
theorem d_law_1137 : x_dec m_law 1137 (.aload_n 0) 1 1138 := ⟨by decide +kernel, rfl⟩
theorem d_law_1138 : x_dec m_law 1138 (.iload_n 3) 1 1139 := ⟨by decide +kernel, rfl⟩
theorem d_law_1139 : x_dec m_law 1139 (.iconst 1) 1 1140 := ⟨by decide +kernel, rfl⟩
theorem d_law_1140 : x_dec m_law 1140 (.iadd) 1 1141 := ⟨by decide +kernel, rfl⟩
theorem d_law_1141 : x_dec m_law 1141 (.iaload) 1 1142 := ⟨by decide +kernel, rfl⟩
theorem d_law_1142 : x_dec m_law 1142 (.invokevirtual 149) 3 1145 := ⟨by decide +kernel, rfl⟩
theorem d_law_1145 : x_dec m_law 1145 (.if_icmp .eq 410) 3 1148 := ⟨by decide +kernel, rfl⟩
theorem d_law_1148 : x_dec m_law 1148 (.iconst 0) 1 1149 := ⟨by decide +kernel, rfl⟩
theorem d_law_1149 : x_dec m_law 1149 (.ireturn) 1 1150 := ⟨by decide +kernel, rfl⟩
theorem d_law_1150 : x_dec m_law 1150 (.aload_n 1) 1 1151 := ⟨by decide +kernel, rfl⟩
theorem d_law_1151 : x_dec m_law 1151 (.aload_n 0) 1 1152 := ⟨by decide +kernel, rfl⟩
theorem d_law_1152 : x_dec m_law 1152 (.iload_n 3) 1 1153 := ⟨by decide +kernel, rfl⟩
theorem d_law_1153 : x_dec m_law 1153 (.iconst 1) 1 1154 := ⟨by decide +kernel, rfl⟩
theorem d_law_1154 : x_dec m_law 1154 (.iadd) 1 1155 := ⟨by decide +kernel, rfl⟩
theorem d_law_1155 : x_dec m_law 1155 (.iaload) 1 1156 := ⟨by decide +kernel, rfl⟩
theorem d_law_1156 : x_dec m_law 1156 (.aload_n 0) 1 1157 := ⟨by decide +kernel, rfl⟩
theorem d_law_1157 : x_dec m_law 1157 (.iload_n 3) 1 1158 := ⟨by decide +kernel, rfl⟩
theorem d_law_1158 : x_dec m_law 1158 (.iconst 2) 1 1159 := ⟨by decide +kernel, rfl⟩
theorem d_law_1159 : x_dec m_law 1159 (.iadd) 1 1160 := ⟨by decide +kernel, rfl⟩
theorem d_law_1160 : x_dec m_law 1160 (.iaload) 1 1161 := ⟨by decide +kernel, rfl⟩
theorem d_law_1161 : x_dec m_law 1161 (.invokevirtual 150) 3 1164 := ⟨by decide +kernel, rfl⟩
theorem d_law_1164 : x_dec m_law 1164 (.aload_n 2) 1 1165 := ⟨by decide +kernel, rfl⟩
theorem d_law_1165 : x_dec m_law 1165 (.aload_n 0) 1 1166 := ⟨by decide +kernel, rfl⟩
theorem d_law_1166 : x_dec m_law 1166 (.iload_n 3) 1 1167 := ⟨by decide +kernel, rfl⟩
theorem d_law_1167 : x_dec m_law 1167 (.iconst 1) 1 1168 := ⟨by decide +kernel, rfl⟩
theorem d_law_1168 : x_dec m_law 1168 (.iadd) 1 1169 := ⟨by decide +kernel, rfl⟩
theorem d_law_1169 : x_dec m_law 1169 (.iaload) 1 1170 := ⟨by decide +kernel, rfl⟩
theorem d_law_1170 : x_dec m_law 1170 (.aload_n 0) 1 1171 := ⟨by decide +kernel, rfl⟩
theorem d_law_1171 : x_dec m_law 1171 (.iload_n 3) 1 1172 := ⟨by decide +kernel, rfl⟩
theorem d_law_1172 : x_dec m_law 1172 (.iconst 2) 1 1173 := ⟨by decide +kernel, rfl⟩
theorem d_law_1173 : x_dec m_law 1173 (.iadd) 1 1174 := ⟨by decide +kernel, rfl⟩
theorem d_law_1174 : x_dec m_law 1174 (.iaload) 1 1175 := ⟨by decide +kernel, rfl⟩
theorem d_law_1175 : x_dec m_law 1175 (.invokevirtual 153) 3 1178 := ⟨by decide +kernel, rfl⟩
theorem d_law_1178 : x_dec m_law 1178 (.if_icmp .eq 377) 3 1181 := ⟨by decide +kernel, rfl⟩
theorem d_law_1181 : x_dec m_law 1181 (.iconst 0) 1 1182 := ⟨by decide +kernel, rfl⟩
theorem d_law_1182 : x_dec m_law 1182 (.ireturn) 1 1183 := ⟨by decide +kernel, rfl⟩
theorem d_law_1183 : x_dec m_law 1183 (.aload_n 1) 1 1184 := ⟨by decide +kernel, rfl⟩
theorem d_law_1184 : x_dec m_law 1184 (.invokevirtual 154) 3 1187 := ⟨by decide +kernel, rfl⟩
theorem d_law_1187 : x_dec m_law 1187 (.aload_n 2) 1 1188 := ⟨by decide +kernel, rfl⟩
theorem d_law_1188 : x_dec m_law 1188 (.invokevirtual 157) 3 1191 := ⟨by decide +kernel, rfl⟩
theorem d_law_1191 : x_dec m_law 1191 (.if_icmp .eq 364) 3 1194 := ⟨by decide +kernel, rfl⟩
theorem d_law_1194 : x_dec m_law 1194 (.iconst 0) 1 1195 := ⟨by decide +kernel, rfl⟩
theorem d_law_1195 : x_dec m_law 1195 (.ireturn) 1 1196 := ⟨by decide +kernel, rfl⟩
theorem d_law_1196 : x_dec m_law 1196 (.aload_n 1) 1 1197 := ⟨by decide +kernel, rfl⟩
theorem d_law_1197 : x_dec m_law 1197 (.invokevirtual 158) 3 1200 := ⟨by decide +kernel, rfl⟩
theorem d_law_1200 : x_dec m_law 1200 (.aload_n 2) 1 1201 := ⟨by decide +kernel, rfl⟩
theorem d_law_1201 : x_dec m_law 1201 (.invokevirtual 161) 3 1204 := ⟨by decide +kernel, rfl⟩
theorem d_law_1204 : x_dec m_law 1204 (.if_icmp .eq 351) 3 1207 := ⟨by decide +kernel, rfl⟩
theorem d_law_1207 : x_dec m_law 1207 (.iconst 0) 1 1208 := ⟨by decide +kernel, rfl⟩
theorem d_law_1208 : x_dec m_law 1208 (.ireturn) 1 1209 := ⟨by decide +kernel, rfl⟩
theorem d_law_1209 : x_dec m_law 1209 (.aload_n 1) 1 1210 := ⟨by decide +kernel, rfl⟩
theorem d_law_1210 : x_dec m_law 1210 (.aload_n 0) 1 1211 := ⟨by decide +kernel, rfl⟩
theorem d_law_1211 : x_dec m_law 1211 (.iload_n 3) 1 1212 := ⟨by decide +kernel, rfl⟩
theorem d_law_1212 : x_dec m_law 1212 (.iconst 1) 1 1213 := ⟨by decide +kernel, rfl⟩
theorem d_law_1213 : x_dec m_law 1213 (.iadd) 1 1214 := ⟨by decide +kernel, rfl⟩
theorem d_law_1214 : x_dec m_law 1214 (.iaload) 1 1215 := ⟨by decide +kernel, rfl⟩
theorem d_law_1215 : x_dec m_law 1215 (.aload_n 0) 1 1216 := ⟨by decide +kernel, rfl⟩
theorem d_law_1216 : x_dec m_law 1216 (.iload_n 3) 1 1217 := ⟨by decide +kernel, rfl⟩
theorem d_law_1217 : x_dec m_law 1217 (.iconst 2) 1 1218 := ⟨by decide +kernel, rfl⟩
theorem d_law_1218 : x_dec m_law 1218 (.iadd) 1 1219 := ⟨by decide +kernel, rfl⟩
theorem d_law_1219 : x_dec m_law 1219 (.iaload) 1 1220 := ⟨by decide +kernel, rfl⟩
theorem d_law_1220 : x_dec m_law 1220 (.invokevirtual 162) 3 1223 := ⟨by decide +kernel, rfl⟩
theorem d_law_1223 : x_dec m_law 1223 (.aload_n 2) 1 1224 := ⟨by decide +kernel, rfl⟩
theorem d_law_1224 : x_dec m_law 1224 (.aload_n 0) 1 1225 := ⟨by decide +kernel, rfl⟩
theorem d_law_1225 : x_dec m_law 1225 (.iload_n 3) 1 1226 := ⟨by decide +kernel, rfl⟩
theorem d_law_1226 : x_dec m_law 1226 (.iconst 1) 1 1227 := ⟨by decide +kernel, rfl⟩
theorem d_law_1227 : x_dec m_law 1227 (.iadd) 1 1228 := ⟨by decide +kernel, rfl⟩
theorem d_law_1228 : x_dec m_law 1228 (.iaload) 1 1229 := ⟨by decide +kernel, rfl⟩
theorem d_law_1229 : x_dec m_law 1229 (.aload_n 0) 1 1230 := ⟨by decide +kernel, rfl⟩
theorem d_law_1230 : x_dec m_law 1230 (.iload_n 3) 1 1231 := ⟨by decide +kernel, rfl⟩
theorem d_law_1231 : x_dec m_law 1231 (.iconst 2) 1 1232 := ⟨by decide +kernel, rfl⟩
theorem d_law_1232 : x_dec m_law 1232 (.iadd) 1 1233 := ⟨by decide +kernel, rfl⟩
theorem d_law_1233 : x_dec m_law 1233 (.iaload) 1 1234 := ⟨by decide +kernel, rfl⟩
theorem d_law_1234 : x_dec m_law 1234 (.invokevirtual 165) 3 1237 := ⟨by decide +kernel, rfl⟩
theorem d_law_1237 : x_dec m_law 1237 (.if_icmp .eq 318) 3 1240 := ⟨by decide +kernel, rfl⟩
theorem d_law_1240 : x_dec m_law 1240 (.iconst 0) 1 1241 := ⟨by decide +kernel, rfl⟩
theorem d_law_1241 : x_dec m_law 1241 (.ireturn) 1 1242 := ⟨by decide +kernel, rfl⟩
theorem d_law_1242 : x_dec m_law 1242 (.aload_n 1) 1 1243 := ⟨by decide +kernel, rfl⟩
theorem d_law_1243 : x_dec m_law 1243 (.aload_n 0) 1 1244 := ⟨by decide +kernel, rfl⟩
theorem d_law_1244 : x_dec m_law 1244 (.iload_n 3) 1 1245 := ⟨by decide +kernel, rfl⟩
theorem d_law_1245 : x_dec m_law 1245 (.iconst 1) 1 1246 := ⟨by decide +kernel, rfl⟩
theorem d_law_1246 : x_dec m_law 1246 (.iadd) 1 1247 := ⟨by decide +kernel, rfl⟩
theorem d_law_1247 : x_dec m_law 1247 (.iaload) 1 1248 := ⟨by decide +kernel, rfl⟩
theorem d_law_1248 : x_dec m_law 1248 (.aload_n 0) 1 1249 := ⟨by decide +kernel, rfl⟩
theorem d_law_1249 : x_dec m_law 1249 (.iload_n 3) 1 1250 := ⟨by decide +kernel, rfl⟩
theorem d_law_1250 : x_dec m_law 1250 (.iconst 2) 1 1251 := ⟨by decide +kernel, rfl⟩
theorem d_law_1251 : x_dec m_law 1251 (.iadd) 1 1252 := ⟨by decide +kernel, rfl⟩
theorem d_law_1252 : x_dec m_law 1252 (.iaload) 1 1253 := ⟨by decide +kernel, rfl⟩
theorem d_law_1253 : x_dec m_law 1253 (.invokevirtual 166) 3 1256 := ⟨by decide +kernel, rfl⟩
theorem d_law_1256 : x_dec m_law 1256 (.aload_n 2) 1 1257 := ⟨by decide +kernel, rfl⟩
theorem d_law_1257 : x_dec m_law 1257 (.aload_n 0) 1 1258 := ⟨by decide +kernel, rfl⟩
theorem d_law_1258 : x_dec m_law 1258 (.iload_n 3) 1 1259 := ⟨by decide +kernel, rfl⟩
theorem d_law_1259 : x_dec m_law 1259 (.iconst 1) 1 1260 := ⟨by decide +kernel, rfl⟩
theorem d_law_1260 : x_dec m_law 1260 (.iadd) 1 1261 := ⟨by decide +kernel, rfl⟩
theorem d_law_1261 : x_dec m_law 1261 (.iaload) 1 1262 := ⟨by decide +kernel, rfl⟩
theorem d_law_1262 : x_dec m_law 1262 (.aload_n 0) 1 1263 := ⟨by decide +kernel, rfl⟩
theorem d_law_1263 : x_dec m_law 1263 (.iload_n 3) 1 1264 := ⟨by decide +kernel, rfl⟩
theorem d_law_1264 : x_dec m_law 1264 (.iconst 2) 1 1265 := ⟨by decide +kernel, rfl⟩
theorem d_law_1265 : x_dec m_law 1265 (.iadd) 1 1266 := ⟨by decide +kernel, rfl⟩
theorem d_law_1266 : x_dec m_law 1266 (.iaload) 1 1267 := ⟨by decide +kernel, rfl⟩
theorem d_law_1267 : x_dec m_law 1267 (.invokevirtual 169) 3 1270 := ⟨by decide +kernel, rfl⟩
theorem d_law_1270 : x_dec m_law 1270 (.if_icmp .eq 285) 3 1273 := ⟨by decide +kernel, rfl⟩
theorem d_law_1273 : x_dec m_law 1273 (.iconst 0) 1 1274 := ⟨by decide +kernel, rfl⟩
theorem d_law_1274 : x_dec m_law 1274 (.ireturn) 1 1275 := ⟨by decide +kernel, rfl⟩
theorem d_law_1275 : x_dec m_law 1275 (.aload_n 1) 1 1276 := ⟨by decide +kernel, rfl⟩
theorem d_law_1276 : x_dec m_law 1276 (.aload_n 0) 1 1277 := ⟨by decide +kernel, rfl⟩
theorem d_law_1277 : x_dec m_law 1277 (.iload_n 3) 1 1278 := ⟨by decide +kernel, rfl⟩
theorem d_law_1278 : x_dec m_law 1278 (.iconst 1) 1 1279 := ⟨by decide +kernel, rfl⟩
theorem d_law_1279 : x_dec m_law 1279 (.iadd) 1 1280 := ⟨by decide +kernel, rfl⟩
theorem d_law_1280 : x_dec m_law 1280 (.iaload) 1 1281 := ⟨by decide +kernel, rfl⟩
theorem d_law_1281 : x_dec m_law 1281 (.aload_n 0) 1 1282 := ⟨by decide +kernel, rfl⟩
theorem d_law_1282 : x_dec m_law 1282 (.iload_n 3) 1 1283 := ⟨by decide +kernel, rfl⟩
theorem d_law_1283 : x_dec m_law 1283 (.iconst 2) 1 1284 := ⟨by decide +kernel, rfl⟩
theorem d_law_1284 : x_dec m_law 1284 (.iadd) 1 1285 := ⟨by decide +kernel, rfl⟩
theorem d_law_1285 : x_dec m_law 1285 (.iaload) 1 1286 := ⟨by decide +kernel, rfl⟩
theorem d_law_1286 : x_dec m_law 1286 (.aload_n 0) 1 1287 := ⟨by decide +kernel, rfl⟩
theorem d_law_1287 : x_dec m_law 1287 (.iload_n 3) 1 1288 := ⟨by decide +kernel, rfl⟩
theorem d_law_1288 : x_dec m_law 1288 (.iconst 3) 1 1289 := ⟨by decide +kernel, rfl⟩
theorem d_law_1289 : x_dec m_law 1289 (.iadd) 1 1290 := ⟨by decide +kernel, rfl⟩
theorem d_law_1290 : x_dec m_law 1290 (.iaload) 1 1291 := ⟨by decide +kernel, rfl⟩
theorem d_law_1291 : x_dec m_law 1291 (.invokevirtual 170) 3 1294 := ⟨by decide +kernel, rfl⟩
theorem d_law_1294 : x_dec m_law 1294 (.aload_n 2) 1 1295 := ⟨by decide +kernel, rfl⟩
theorem d_law_1295 : x_dec m_law 1295 (.aload_n 0) 1 1296 := ⟨by decide +kernel, rfl⟩
theorem d_law_1296 : x_dec m_law 1296 (.iload_n 3) 1 1297 := ⟨by decide +kernel, rfl⟩
theorem d_law_1297 : x_dec m_law 1297 (.iconst 1) 1 1298 := ⟨by decide +kernel, rfl⟩
theorem d_law_1298 : x_dec m_law 1298 (.iadd) 1 1299 := ⟨by decide +kernel, rfl⟩
theorem d_law_1299 : x_dec m_law 1299 (.iaload) 1 1300 := ⟨by decide +kernel, rfl⟩
theorem d_law_1300 : x_dec m_law 1300 (.aload_n 0) 1 1301 := ⟨by decide +kernel, rfl⟩
theorem d_law_1301 : x_dec m_law 1301 (.iload_n 3) 1 1302 := ⟨by decide +kernel, rfl⟩
theorem d_law_1302 : x_dec m_law 1302 (.iconst 2) 1 1303 := ⟨by decide +kernel, rfl⟩
theorem d_law_1303 : x_dec m_law 1303 (.iadd) 1 1304 := ⟨by decide +kernel, rfl⟩
theorem d_law_1304 : x_dec m_law 1304 (.iaload) 1 1305 := ⟨by decide +kernel, rfl⟩
theorem d_law_1305 : x_dec m_law 1305 (.aload_n 0) 1 1306 := ⟨by decide +kernel, rfl⟩
theorem d_law_1306 : x_dec m_law 1306 (.iload_n 3) 1 1307 := ⟨by decide +kernel, rfl⟩
theorem d_law_1307 : x_dec m_law 1307 (.iconst 3) 1 1308 := ⟨by decide +kernel, rfl⟩
theorem d_law_1308 : x_dec m_law 1308 (.iadd) 1 1309 := ⟨by decide +kernel, rfl⟩
theorem d_law_1309 : x_dec m_law 1309 (.iaload) 1 1310 := ⟨by decide +kernel, rfl⟩
theorem d_law_1310 : x_dec m_law 1310 (.invokevirtual 173) 3 1313 := ⟨by decide +kernel, rfl⟩
theorem d_law_1313 : x_dec m_law 1313 (.if_icmp .eq 242) 3 1316 := ⟨by decide +kernel, rfl⟩
theorem d_law_1316 : x_dec m_law 1316 (.iconst 0) 1 1317 := ⟨by decide +kernel, rfl⟩
theorem d_law_1317 : x_dec m_law 1317 (.ireturn) 1 1318 := ⟨by decide +kernel, rfl⟩
theorem d_law_1318 : x_dec m_law 1318 (.aload_n 1) 1 1319 := ⟨by decide +kernel, rfl⟩
theorem d_law_1319 : x_dec m_law 1319 (.aload_n 0) 1 1320 := ⟨by decide +kernel, rfl⟩
theorem d_law_1320 : x_dec m_law 1320 (.iload_n 3) 1 1321 := ⟨by decide +kernel, rfl⟩
theorem d_law_1321 : x_dec m_law 1321 (.iconst 1) 1 1322 := ⟨by decide +kernel, rfl⟩
theorem d_law_1322 : x_dec m_law 1322 (.iadd) 1 1323 := ⟨by decide +kernel, rfl⟩
theorem d_law_1323 : x_dec m_law 1323 (.iaload) 1 1324 := ⟨by decide +kernel, rfl⟩
theorem d_law_1324 : x_dec m_law 1324 (.aload_n 0) 1 1325 := ⟨by decide +kernel, rfl⟩
theorem d_law_1325 : x_dec m_law 1325 (.iload_n 3) 1 1326 := ⟨by decide +kernel, rfl⟩
theorem d_law_1326 : x_dec m_law 1326 (.iconst 2) 1 1327 := ⟨by decide +kernel, rfl⟩
theorem d_law_1327 : x_dec m_law 1327 (.iadd) 1 1328 := ⟨by decide +kernel, rfl⟩
theorem d_law_1328 : x_dec m_law 1328 (.iaload) 1 1329 := ⟨by decide +kernel, rfl⟩
theorem d_law_1329 : x_dec m_law 1329 (.aload_n 0) 1 1330 := ⟨by decide +kernel, rfl⟩
theorem d_law_1330 : x_dec m_law 1330 (.iload_n 3) 1 1331 := ⟨by decide +kernel, rfl⟩
theorem d_law_1331 : x_dec m_law 1331 (.iconst 3) 1 1332 := ⟨by decide +kernel, rfl⟩
theorem d_law_1332 : x_dec m_law 1332 (.iadd) 1 1333 := ⟨by decide +kernel, rfl⟩
theorem d_law_1333 : x_dec m_law 1333 (.iaload) 1 1334 := ⟨by decide +kernel, rfl⟩
theorem d_law_1334 : x_dec m_law 1334 (.invokevirtual 174) 3 1337 := ⟨by decide +kernel, rfl⟩
theorem d_law_1337 : x_dec m_law 1337 (.aload_n 2) 1 1338 := ⟨by decide +kernel, rfl⟩
theorem d_law_1338 : x_dec m_law 1338 (.aload_n 0) 1 1339 := ⟨by decide +kernel, rfl⟩
theorem d_law_1339 : x_dec m_law 1339 (.iload_n 3) 1 1340 := ⟨by decide +kernel, rfl⟩
theorem d_law_1340 : x_dec m_law 1340 (.iconst 1) 1 1341 := ⟨by decide +kernel, rfl⟩
theorem d_law_1341 : x_dec m_law 1341 (.iadd) 1 1342 := ⟨by decide +kernel, rfl⟩
theorem d_law_1342 : x_dec m_law 1342 (.iaload) 1 1343 := ⟨by decide +kernel, rfl⟩
theorem d_law_1343 : x_dec m_law 1343 (.aload_n 0) 1 1344 := ⟨by decide +kernel, rfl⟩
theorem d_law_1344 : x_dec m_law 1344 (.iload_n 3) 1 1345 := ⟨by decide +kernel, rfl⟩
theorem d_law_1345 : x_dec m_law 1345 (.iconst 2) 1 1346 := ⟨by decide +kernel, rfl⟩
theorem d_law_1346 : x_dec m_law 1346 (.iadd) 1 1347 := ⟨by decide +kernel, rfl⟩
theorem d_law_1347 : x_dec m_law 1347 (.iaload) 1 1348 := ⟨by decide +kernel, rfl⟩
theorem d_law_1348 : x_dec m_law 1348 (.aload_n 0) 1 1349 := ⟨by decide +kernel, rfl⟩
theorem d_law_1349 : x_dec m_law 1349 (.iload_n 3) 1 1350 := ⟨by decide +kernel, rfl⟩
theorem d_law_1350 : x_dec m_law 1350 (.iconst 3) 1 1351 := ⟨by decide +kernel, rfl⟩
theorem d_law_1351 : x_dec m_law 1351 (.iadd) 1 1352 := ⟨by decide +kernel, rfl⟩
theorem d_law_1352 : x_dec m_law 1352 (.iaload) 1 1353 := ⟨by decide +kernel, rfl⟩
theorem d_law_1353 : x_dec m_law 1353 (.invokevirtual 177) 3 1356 := ⟨by decide +kernel, rfl⟩
theorem d_law_1356 : x_dec m_law 1356 (.if_icmp .eq 199) 3 1359 := ⟨by decide +kernel, rfl⟩
theorem d_law_1359 : x_dec m_law 1359 (.iconst 0) 1 1360 := ⟨by decide +kernel, rfl⟩
theorem d_law_1360 : x_dec m_law 1360 (.ireturn) 1 1361 := ⟨by decide +kernel, rfl⟩
theorem d_law_1361 : x_dec m_law 1361 (.aload_n 1) 1 1362 := ⟨by decide +kernel, rfl⟩
theorem d_law_1362 : x_dec m_law 1362 (.aload_n 0) 1 1363 := ⟨by decide +kernel, rfl⟩
theorem d_law_1363 : x_dec m_law 1363 (.iload_n 3) 1 1364 := ⟨by decide +kernel, rfl⟩
theorem d_law_1364 : x_dec m_law 1364 (.iconst 1) 1 1365 := ⟨by decide +kernel, rfl⟩
theorem d_law_1365 : x_dec m_law 1365 (.iadd) 1 1366 := ⟨by decide +kernel, rfl⟩
theorem d_law_1366 : x_dec m_law 1366 (.iaload) 1 1367 := ⟨by decide +kernel, rfl⟩
theorem d_law_1367 : x_dec m_law 1367 (.aload_n 0) 1 1368 := ⟨by decide +kernel, rfl⟩
theorem d_law_1368 : x_dec m_law 1368 (.iload_n 3) 1 1369 := ⟨by decide +kernel, rfl⟩
theorem d_law_1369 : x_dec m_law 1369 (.iconst 2) 1 1370 := ⟨by decide +kernel, rfl⟩
theorem d_law_1370 : x_dec m_law 1370 (.iadd) 1 1371 := ⟨by decide +kernel, rfl⟩
theorem d_law_1371 : x_dec m_law 1371 (.iaload) 1 1372 := ⟨by decide +kernel, rfl⟩
theorem d_law_1372 : x_dec m_law 1372 (.aload_n 0) 1 1373 := ⟨by decide +kernel, rfl⟩
theorem d_law_1373 : x_dec m_law 1373 (.iload_n 3) 1 1374 := ⟨by decide +kernel, rfl⟩
theorem d_law_1374 : x_dec m_law 1374 (.iconst 3) 1 1375 := ⟨by decide +kernel, rfl⟩
theorem d_law_1375 : x_dec m_law 1375 (.iadd) 1 1376 := ⟨by decide +kernel, rfl⟩
theorem d_law_1376 : x_dec m_law 1376 (.iaload) 1 1377 := ⟨by decide +kernel, rfl⟩
theorem d_law_1377 : x_dec m_law 1377 (.aload_n 0) 1 1378 := ⟨by decide +kernel, rfl⟩
theorem d_law_1378 : x_dec m_law 1378 (.iload_n 3) 1 1379 := ⟨by decide +kernel, rfl⟩
theorem d_law_1379 : x_dec m_law 1379 (.iconst 4) 1 1380 := ⟨by decide +kernel, rfl⟩
theorem d_law_1380 : x_dec m_law 1380 (.iadd) 1 1381 := ⟨by decide +kernel, rfl⟩
theorem d_law_1381 : x_dec m_law 1381 (.iaload) 1 1382 := ⟨by decide +kernel, rfl⟩
theorem d_law_1382 : x_dec m_law 1382 (.aload_n 0) 1 1383 := ⟨by decide +kernel, rfl⟩
theorem d_law_1383 : x_dec m_law 1383 (.iload_n 3) 1 1384 := ⟨by decide +kernel, rfl⟩
theorem d_law_1384 : x_dec m_law 1384 (.iconst 5) 1 1385 := ⟨by decide +kernel, rfl⟩
theorem d_law_1385 : x_dec m_law 1385 (.iadd) 1 1386 := ⟨by decide +kernel, rfl⟩
theorem d_law_1386 : x_dec m_law 1386 (.iaload) 1 1387 := ⟨by decide +kernel, rfl⟩
theorem d_law_1387 : x_dec m_law 1387 (.invokevirtual 178) 3 1390 := ⟨by decide +kernel, rfl⟩
theorem d_law_1390 : x_dec m_law 1390 (.aload_n 2) 1 1391 := ⟨by decide +kernel, rfl⟩
theorem d_law_1391 : x_dec m_law 1391 (.aload_n 0) 1 1392 := ⟨by decide +kernel, rfl⟩
theorem d_law_1392 : x_dec m_law 1392 (.iload_n 3) 1 1393 := ⟨by decide +kernel, rfl⟩
theorem d_law_1393 : x_dec m_law 1393 (.iconst 1) 1 1394 := ⟨by decide +kernel, rfl⟩
theorem d_law_1394 : x_dec m_law 1394 (.iadd) 1 1395 := ⟨by decide +kernel, rfl⟩
theorem d_law_1395 : x_dec m_law 1395 (.iaload) 1 1396 := ⟨by decide +kernel, rfl⟩
theorem d_law_1396 : x_dec m_law 1396 (.aload_n 0) 1 1397 := ⟨by decide +kernel, rfl⟩
theorem d_law_1397 : x_dec m_law 1397 (.iload_n 3) 1 1398 := ⟨by decide +kernel, rfl⟩
theorem d_law_1398 : x_dec m_law 1398 (.iconst 2) 1 1399 := ⟨by decide +kernel, rfl⟩
theorem d_law_1399 : x_dec m_law 1399 (.iadd) 1 1400 := ⟨by decide +kernel, rfl⟩
theorem d_law_1400 : x_dec m_law 1400 (.iaload) 1 1401 := ⟨by decide +kernel, rfl⟩
theorem d_law_1401 : x_dec m_law 1401 (.aload_n 0) 1 1402 := ⟨by decide +kernel, rfl⟩
theorem d_law_1402 : x_dec m_law 1402 (.iload_n 3) 1 1403 := ⟨by decide +kernel, rfl⟩
theorem d_law_1403 : x_dec m_law 1403 (.iconst 3) 1 1404 := ⟨by decide +kernel, rfl⟩
theorem d_law_1404 : x_dec m_law 1404 (.iadd) 1 1405 := ⟨by decide +kernel, rfl⟩
theorem d_law_1405 : x_dec m_law 1405 (.iaload) 1 1406 := ⟨by decide +kernel, rfl⟩
theorem d_law_1406 : x_dec m_law 1406 (.aload_n 0) 1 1407 := ⟨by decide +kernel, rfl⟩
theorem d_law_1407 : x_dec m_law 1407 (.iload_n 3) 1 1408 := ⟨by decide +kernel, rfl⟩
theorem d_law_1408 : x_dec m_law 1408 (.iconst 4) 1 1409 := ⟨by decide +kernel, rfl⟩
theorem d_law_1409 : x_dec m_law 1409 (.iadd) 1 1410 := ⟨by decide +kernel, rfl⟩
theorem d_law_1410 : x_dec m_law 1410 (.iaload) 1 1411 := ⟨by decide +kernel, rfl⟩
theorem d_law_1411 : x_dec m_law 1411 (.aload_n 0) 1 1412 := ⟨by decide +kernel, rfl⟩
theorem d_law_1412 : x_dec m_law 1412 (.iload_n 3) 1 1413 := ⟨by decide +kernel, rfl⟩
theorem d_law_1413 : x_dec m_law 1413 (.iconst 5) 1 1414 := ⟨by decide +kernel, rfl⟩
theorem d_law_1414 : x_dec m_law 1414 (.iadd) 1 1415 := ⟨by decide +kernel, rfl⟩
theorem d_law_1415 : x_dec m_law 1415 (.iaload) 1 1416 := ⟨by decide +kernel, rfl⟩
theorem d_law_1416 : x_dec m_law 1416 (.invokevirtual 182) 3 1419 := ⟨by decide +kernel, rfl⟩
theorem d_law_1419 : x_dec m_law 1419 (.if_icmp .eq 136) 3 1422 := ⟨by decide +kernel, rfl⟩
theorem d_law_1422 : x_dec m_law 1422 (.iconst 0) 1 1423 := ⟨by decide +kernel, rfl⟩
theorem d_law_1423 : x_dec m_law 1423 (.ireturn) 1 1424 := ⟨by decide +kernel, rfl⟩
theorem d_law_1424 : x_dec m_law 1424 (.aload_n 1) 1 1425 := ⟨by decide +kernel, rfl⟩
theorem d_law_1425 : x_dec m_law 1425 (.aload_n 0) 1 1426 := ⟨by decide +kernel, rfl⟩
theorem d_law_1426 : x_dec m_law 1426 (.iload_n 3) 1 1427 := ⟨by decide +kernel, rfl⟩
theorem d_law_1427 : x_dec m_law 1427 (.iconst 1) 1 1428 := ⟨by decide +kernel, rfl⟩
theorem d_law_1428 : x_dec m_law 1428 (.iadd) 1 1429 := ⟨by decide +kernel, rfl⟩
theorem d_law_1429 : x_dec m_law 1429 (.iaload) 1 1430 := ⟨by decide +kernel, rfl⟩
theorem d_law_1430 : x_dec m_law 1430 (.invokevirtual 183) 3 1433 := ⟨by decide +kernel, rfl⟩
theorem d_law_1433 : x_dec m_law 1433 (.aload_n 2) 1 1434 := ⟨by decide +kernel, rfl⟩
theorem d_law_1434 : x_dec m_law 1434 (.aload_n 0) 1 1435 := ⟨by decide +kernel, rfl⟩
theorem d_law_1435 : x_dec m_law 1435 (.iload_n 3) 1 1436 := ⟨by decide +kernel, rfl⟩
theorem d_law_1436 : x_dec m_law 1436 (.iconst 1) 1 1437 := ⟨by decide +kernel, rfl⟩
theorem d_law_1437 : x_dec m_law 1437 (.iadd) 1 1438 := ⟨by decide +kernel, rfl⟩
theorem d_law_1438 : x_dec m_law 1438 (.iaload) 1 1439 := ⟨by decide +kernel, rfl⟩
theorem d_law_1439 : x_dec m_law 1439 (.invokevirtual 186) 3 1442 := ⟨by decide +kernel, rfl⟩
theorem d_law_1442 : x_dec m_law 1442 (.if_icmp .eq 113) 3 1445 := ⟨by decide +kernel, rfl⟩
theorem d_law_1445 : x_dec m_law 1445 (.iconst 0) 1 1446 := ⟨by decide +kernel, rfl⟩
theorem d_law_1446 : x_dec m_law 1446 (.ireturn) 1 1447 := ⟨by decide +kernel, rfl⟩
theorem d_law_1447 : x_dec m_law 1447 (.aload_n 1) 1 1448 := ⟨by decide +kernel, rfl⟩
theorem d_law_1448 : x_dec m_law 1448 (.aload_n 0) 1 1449 := ⟨by decide +kernel, rfl⟩
theorem d_law_1449 : x_dec m_law 1449 (.iload_n 3) 1 1450 := ⟨by decide +kernel, rfl⟩
theorem d_law_1450 : x_dec m_law 1450 (.iconst 1) 1 1451 := ⟨by decide +kernel, rfl⟩
theorem d_law_1451 : x_dec m_law 1451 (.iadd) 1 1452 := ⟨by decide +kernel, rfl⟩
theorem d_law_1452 : x_dec m_law 1452 (.iaload) 1 1453 := ⟨by decide +kernel, rfl⟩
theorem d_law_1453 : x_dec m_law 1453 (.invokevirtual 187) 3 1456 := ⟨by decide +kernel, rfl⟩
theorem d_law_1456 : x_dec m_law 1456 (.aload_n 2) 1 1457 := ⟨by decide +kernel, rfl⟩
theorem d_law_1457 : x_dec m_law 1457 (.aload_n 0) 1 1458 := ⟨by decide +kernel, rfl⟩
theorem d_law_1458 : x_dec m_law 1458 (.iload_n 3) 1 1459 := ⟨by decide +kernel, rfl⟩
theorem d_law_1459 : x_dec m_law 1459 (.iconst 1) 1 1460 := ⟨by decide +kernel, rfl⟩
theorem d_law_1460 : x_dec m_law 1460 (.iadd) 1 1461 := ⟨by decide +kernel, rfl⟩
theorem d_law_1461 : x_dec m_law 1461 (.iaload) 1 1462 := ⟨by decide +kernel, rfl⟩
theorem d_law_1462 : x_dec m_law 1462 (.invokevirtual 190) 3 1465 := ⟨by decide +kernel, rfl⟩
theorem d_law_1465 : x_dec m_law 1465 (.if_icmp .eq 90) 3 1468 := ⟨by decide +kernel, rfl⟩
theorem d_law_1468 : x_dec m_law 1468 (.iconst 0) 1 1469 := ⟨by decide +kernel, rfl⟩
theorem d_law_1469 : x_dec m_law 1469 (.ireturn) 1 1470 := ⟨by decide +kernel, rfl⟩
theorem d_law_1470 : x_dec m_law 1470 (.aload_n 1) 1 1471 := ⟨by decide +kernel, rfl⟩
theorem d_law_1471 : x_dec m_law 1471 (.invokevirtual 191) 3 1474 := ⟨by decide +kernel, rfl⟩
theorem d_law_1474 : x_dec m_law 1474 (.aload_n 2) 1 1475 := ⟨by decide +kernel, rfl⟩
theorem d_law_1475 : x_dec m_law 1475 (.invokevirtual 194) 3 1478 := ⟨by decide +kernel, rfl⟩
theorem d_law_1478 : x_dec m_law 1478 (.if_icmp .eq 77) 3 1481 := ⟨by decide +kernel, rfl⟩
theorem d_law_1481 : x_dec m_law 1481 (.iconst 0) 1 1482 := ⟨by decide +kernel, rfl⟩
theorem d_law_1482 : x_dec m_law 1482 (.ireturn) 1 1483 := ⟨by decide +kernel, rfl⟩
theorem d_law_1483 : x_dec m_law 1483 (.aload_n 1) 1 1484 := ⟨by decide +kernel, rfl⟩
theorem d_law_1484 : x_dec m_law 1484 (.invokevirtual 195) 3 1487 := ⟨by decide +kernel, rfl⟩
theorem d_law_1487 : x_dec m_law 1487 (.aload_n 2) 1 1488 := ⟨by decide +kernel, rfl⟩
theorem d_law_1488 : x_dec m_law 1488 (.invokevirtual 198) 3 1491 := ⟨by decide +kernel, rfl⟩
theorem d_law_1491 : x_dec m_law 1491 (.if_icmp .eq 64) 3 1494 := ⟨by decide +kernel, rfl⟩
theorem d_law_1494 : x_dec m_law 1494 (.iconst 0) 1 1495 := ⟨by decide +kernel, rfl⟩
theorem d_law_1495 : x_dec m_law 1495 (.ireturn) 1 1496 := ⟨by decide +kernel, rfl⟩
theorem d_law_1496 : x_dec m_law 1496 (.aload_n 1) 1 1497 := ⟨by decide +kernel, rfl⟩
theorem d_law_1497 : x_dec m_law 1497 (.invokevirtual 199) 3 1500 := ⟨by decide +kernel, rfl⟩
theorem d_law_1500 : x_dec m_law 1500 (.aload_n 2) 1 1501 := ⟨by decide +kernel, rfl⟩
theorem d_law_1501 : x_dec m_law 1501 (.invokevirtual 202) 3 1504 := ⟨by decide +kernel, rfl⟩
theorem d_law_1504 : x_dec m_law 1504 (.if_icmp .eq 51) 3 1507 := ⟨by decide +kernel, rfl⟩
theorem d_law_1507 : x_dec m_law 1507 (.iconst 0) 1 1508 := ⟨by decide +kernel, rfl⟩
theorem d_law_1508 : x_dec m_law 1508 (.ireturn) 1 1509 := ⟨by decide +kernel, rfl⟩
theorem d_law_1509 : x_dec m_law 1509 (.aload_n 1) 1 1510 := ⟨by decide +kernel, rfl⟩
theorem d_law_1510 : x_dec m_law 1510 (.aload_n 0) 1 1511 := ⟨by decide +kernel, rfl⟩
theorem d_law_1511 : x_dec m_law 1511 (.iload_n 3) 1 1512 := ⟨by decide +kernel, rfl⟩
theorem d_law_1512 : x_dec m_law 1512 (.iconst 1) 1 1513 := ⟨by decide +kernel, rfl⟩
theorem d_law_1513 : x_dec m_law 1513 (.iadd) 1 1514 := ⟨by decide +kernel, rfl⟩
theorem d_law_1514 : x_dec m_law 1514 (.iaload) 1 1515 := ⟨by decide +kernel, rfl⟩
theorem d_law_1515 : x_dec m_law 1515 (.invokevirtual 203) 3 1518 := ⟨by decide +kernel, rfl⟩
theorem d_law_1518 : x_dec m_law 1518 (.aload_n 2) 1 1519 := ⟨by decide +kernel, rfl⟩
theorem d_law_1519 : x_dec m_law 1519 (.aload_n 0) 1 1520 := ⟨by decide +kernel, rfl⟩
theorem d_law_1520 : x_dec m_law 1520 (.iload_n 3) 1 1521 := ⟨by decide +kernel, rfl⟩
theorem d_law_1521 : x_dec m_law 1521 (.iconst 1) 1 1522 := ⟨by decide +kernel, rfl⟩
theorem d_law_1522 : x_dec m_law 1522 (.iadd) 1 1523 := ⟨by decide +kernel, rfl⟩
theorem d_law_1523 : x_dec m_law 1523 (.iaload) 1 1524 := ⟨by decide +kernel, rfl⟩
theorem d_law_1524 : x_dec m_law 1524 (.invokevirtual 206) 3 1527 := ⟨by decide +kernel, rfl⟩
theorem d_law_1527 : x_dec m_law 1527 (.if_icmp .eq 28) 3 1530 := ⟨by decide +kernel, rfl⟩
theorem d_law_1530 : x_dec m_law 1530 (.iconst 0) 1 1531 := ⟨by decide +kernel, rfl⟩
theorem d_law_1531 : x_dec m_law 1531 (.ireturn) 1 1532 := ⟨by decide +kernel, rfl⟩
theorem d_law_1532 : x_dec m_law 1532 (.aload_n 1) 1 1533 := ⟨by decide +kernel, rfl⟩
theorem d_law_1533 : x_dec m_law 1533 (.aload_n 0) 1 1534 := ⟨by decide +kernel, rfl⟩
theorem d_law_1534 : x_dec m_law 1534 (.iload_n 3) 1 1535 := ⟨by decide +kernel, rfl⟩
theorem d_law_1535 : x_dec m_law 1535 (.iconst 1) 1 1536 := ⟨by decide +kernel, rfl⟩
theorem d_law_1536 : x_dec m_law 1536 (.iadd) 1 1537 := ⟨by decide +kernel, rfl⟩
theorem d_law_1537 : x_dec m_law 1537 (.iaload) 1 1538 := ⟨by decide +kernel, rfl⟩
theorem d_law_1538 : x_dec m_law 1538 (.invokevirtual 207) 3 1541 := ⟨by decide +kernel, rfl⟩
theorem d_law_1541 : x_dec m_law 1541 (.aload_n 2) 1 1542 := ⟨by decide +kernel, rfl⟩
theorem d_law_1542 : x_dec m_law 1542 (.aload_n 0) 1 1543 := ⟨by decide +kernel, rfl⟩
theorem d_law_1543 : x_dec m_law 1543 (.iload_n 3) 1 1544 := ⟨by decide +kernel, rfl⟩
theorem d_law_1544 : x_dec m_law 1544 (.iconst 1) 1 1545 := ⟨by decide +kernel, rfl⟩
theorem d_law_1545 : x_dec m_law 1545 (.iadd) 1 1546 := ⟨by decide +kernel, rfl⟩
theorem d_law_1546 : x_dec m_law 1546 (.iaload) 1 1547 := ⟨by decide +kernel, rfl⟩
theorem d_law_1547 : x_dec m_law 1547 (.invokevirtual 210) 3 1550 := ⟨by decide +kernel, rfl⟩
theorem d_law_1550 : x_dec m_law 1550 (.if_icmp .eq 5) 3 1553 := ⟨by decide +kernel, rfl⟩
theorem d_law_1553 : x_dec m_law 1553 (.iconst 0) 1 1554 := ⟨by decide +kernel, rfl⟩
theorem d_law_1554 : x_dec m_law 1554 (.ireturn) 1 1555 := ⟨by decide +kernel, rfl⟩
theorem d_law_1555 : x_dec m_law 1555 (.iinc 3 6) 3 1558 := ⟨by decide +kernel, rfl⟩
theorem d_law_1558 : x_dec m_law 1558 (.goto (-1540)) 3 1561 := ⟨by decide +kernel, rfl⟩
theorem d_law_1561 : x_dec m_law 1561 (.iconst 1) 1 1562 := ⟨by decide +kernel, rfl⟩
theorem d_law_1562 : x_dec m_law 1562 (.ireturn) 1 1563 := ⟨by decide +kernel, rfl⟩
set_option maxHeartbeats 1000000 in
theorem L_need (l : Launch) (E : x_E) {b L i : Nat} {xs : Nat → Int32} (hL : L ≤ 3072) (hi : i + 6 ≤ L) {g : x_SG} {μ : x_Mem} (hX : XS g μ) (hM : MS g μ) (hI : Inv g) (kk : ∀ (g' : x_SG) (μ' : x_Mem), XS g' μ' → MS g' μ' → Inv g' → x_G l E m_law (x_vL E b L xs) μ' 1555 [(3, .int (nI i)), (2, .ref (E.1 + 41)), (1, .ref (E.1 + 0)), (0, .ref b)] []) : x_G l E m_law (x_vL E b L xs) μ 240 [(3, .int (nI i)), (2, .ref (E.1 + 41)), (1, .ref (E.1 + 0)), (0, .ref b)] [] := by
  refine x_aload_n 2 d_law_240 rfl rfl ?_
  refine x_aload_n 3 d_law_241 rfl rfl ?_
  refine x_iload_n 0 d_law_242 rfl rfl ?_
  refine x_iconst (x := 1) d_law_243 (by decide) ?_
  refine x_iadd d_law_244 ?_
  rw [show nI i + (1 : Int32) = nI (i + 1) from nI_add i 1]
  refine x_sld (e0 := i + 1) (by omega) hL d_law_245 ?_
  refine x_aload_n 3 d_law_246 rfl rfl ?_
  refine x_iload_n 0 d_law_247 rfl rfl ?_
  refine x_iconst (x := 2) d_law_248 (by decide) ?_
  refine x_iadd d_law_249 ?_
  rw [show nI i + (2 : Int32) = nI (i + 2) from nI_add i 2]
  refine x_sld (e0 := i + 2) (by omega) hL d_law_250 ?_
  refine x_cvi (k := 0) (as := [.int (xs (i + 1)), .int (xs (i + 2))]) (c_X3_need l E μ g hX hI (xs (i + 1)) (xs (i + 2))) v_X3_need w_X3_need q172 o_X rfl ⟨Nat.le_of_ble_eq_true rfl, Nat.le_of_ble_eq_true rfl⟩ rfl (Nat.le_of_ble_eq_true rfl) d_law_251 ?_
  rintro z1 μ1 ⟨rfl, hX1, k1⟩
  have hM1 := hM.keep k1
  generalize hR : F_need g (xs (i + 1)) (xs (i + 2)) = R at hX1 ⊢
  refine x_aload_n 1 d_law_254 rfl rfl ?_
  refine x_aload_n 3 d_law_255 rfl rfl ?_
  refine x_iload_n 0 d_law_256 rfl rfl ?_
  refine x_iconst (x := 1) d_law_257 (by decide) ?_
  refine x_iadd d_law_258 ?_
  rw [show nI i + (1 : Int32) = nI (i + 1) from nI_add i 1]
  refine x_sld (e0 := i + 1) (by omega) hL d_law_259 ?_
  refine x_aload_n 3 d_law_260 rfl rfl ?_
  refine x_iload_n 0 d_law_261 rfl rfl ?_
  refine x_iconst (x := 2) d_law_262 (by decide) ?_
  refine x_iadd d_law_263 ?_
  rw [show nI i + (2 : Int32) = nI (i + 2) from nI_add i 2]
  refine x_sld (e0 := i + 2) (by omega) hL d_law_264 ?_
  refine x_cvi (k := 41) (as := [.int (xs (i + 1)), .int (xs (i + 2))]) (c_X4_need l E μ1 g hM1 hI (xs (i + 1)) (xs (i + 2))) v_X4_need w_X4_need q720 o_M rfl ⟨Nat.le_of_ble_eq_true rfl, Nat.le_of_ble_eq_true rfl⟩ rfl (Nat.le_of_ble_eq_true rfl) d_law_265 ?_
  rintro z2 μ2 ⟨rfl, hM2, k2⟩
  rw [hR] at hM2 ⊢
  have hI2 : Inv R.2 := by rw [← hR]; exact I_need hI (xs (i + 1)) (xs (i + 2))
  exact x_icmp_eq 1555 d_law_268 (by decide) (fun _ => kk R.2 μ2 (hX1.keep k2) hM2 hI2) (fun c => absurd rfl c)
set_option maxHeartbeats 1000000 in
theorem L_stretch (l : Launch) (E : x_E) {b L i : Nat} {xs : Nat → Int32} (hL : L ≤ 3072) (hi : i + 6 ≤ L) {g : x_SG} {μ : x_Mem} (hX : XS g μ) (hM : MS g μ) (hI : Inv g) (kk : ∀ (g' : x_SG) (μ' : x_Mem), XS g' μ' → MS g' μ' → Inv g' → x_G l E m_law (x_vL E b L xs) μ' 1555 [(3, .int (nI i)), (2, .ref (E.1 + 41)), (1, .ref (E.1 + 0)), (0, .ref b)] []) : x_G l E m_law (x_vL E b L xs) μ 273 [(3, .int (nI i)), (2, .ref (E.1 + 41)), (1, .ref (E.1 + 0)), (0, .ref b)] [] := by
  refine x_aload_n 2 d_law_273 rfl rfl ?_
  refine x_aload_n 3 d_law_274 rfl rfl ?_
  refine x_iload_n 0 d_law_275 rfl rfl ?_
  refine x_iconst (x := 1) d_law_276 (by decide) ?_
  refine x_iadd d_law_277 ?_
  rw [show nI i + (1 : Int32) = nI (i + 1) from nI_add i 1]
  refine x_sld (e0 := i + 1) (by omega) hL d_law_278 ?_
  refine x_aload_n 3 d_law_279 rfl rfl ?_
  refine x_iload_n 0 d_law_280 rfl rfl ?_
  refine x_iconst (x := 2) d_law_281 (by decide) ?_
  refine x_iadd d_law_282 ?_
  rw [show nI i + (2 : Int32) = nI (i + 2) from nI_add i 2]
  refine x_sld (e0 := i + 2) (by omega) hL d_law_283 ?_
  refine x_cvi (k := 0) (as := [.int (xs (i + 1)), .int (xs (i + 2))]) (c_X3_stretch l E μ g hX hI (xs (i + 1)) (xs (i + 2))) v_X3_stretch w_X3_stretch q187 o_X rfl ⟨Nat.le_of_ble_eq_true rfl, Nat.le_of_ble_eq_true rfl⟩ rfl (Nat.le_of_ble_eq_true rfl) d_law_284 ?_
  rintro z1 μ1 ⟨rfl, hX1, k1⟩
  have hM1 := hM.keep k1
  generalize hR : F_stretch g (xs (i + 1)) (xs (i + 2)) = R at hX1 ⊢
  refine x_aload_n 1 d_law_287 rfl rfl ?_
  refine x_aload_n 3 d_law_288 rfl rfl ?_
  refine x_iload_n 0 d_law_289 rfl rfl ?_
  refine x_iconst (x := 1) d_law_290 (by decide) ?_
  refine x_iadd d_law_291 ?_
  rw [show nI i + (1 : Int32) = nI (i + 1) from nI_add i 1]
  refine x_sld (e0 := i + 1) (by omega) hL d_law_292 ?_
  refine x_aload_n 3 d_law_293 rfl rfl ?_
  refine x_iload_n 0 d_law_294 rfl rfl ?_
  refine x_iconst (x := 2) d_law_295 (by decide) ?_
  refine x_iadd d_law_296 ?_
  rw [show nI i + (2 : Int32) = nI (i + 2) from nI_add i 2]
  refine x_sld (e0 := i + 2) (by omega) hL d_law_297 ?_
  refine x_cvi (k := 41) (as := [.int (xs (i + 1)), .int (xs (i + 2))]) (c_X4_stretch l E μ1 g hM1 hI (xs (i + 1)) (xs (i + 2))) v_X4_stretch w_X4_stretch q739 o_M rfl ⟨Nat.le_of_ble_eq_true rfl, Nat.le_of_ble_eq_true rfl⟩ rfl (Nat.le_of_ble_eq_true rfl) d_law_298 ?_
  rintro z2 μ2 ⟨rfl, hM2, k2⟩
  rw [hR] at hM2 ⊢
  have hI2 : Inv R.2 := by rw [← hR]; exact I_stretch hI (xs (i + 1)) (xs (i + 2))
  exact x_icmp_eq 1555 d_law_301 (by decide) (fun _ => kk R.2 μ2 (hX1.keep k2) hM2 hI2) (fun c => absurd rfl c)
set_option maxHeartbeats 1000000 in
theorem L_person (l : Launch) (E : x_E) {b L i : Nat} {xs : Nat → Int32} (hL : L ≤ 3072) (hi : i + 6 ≤ L) {g : x_SG} {μ : x_Mem} (hX : XS g μ) (hM : MS g μ) (hI : Inv g) (kk : ∀ (g' : x_SG) (μ' : x_Mem), XS g' μ' → MS g' μ' → Inv g' → x_G l E m_law (x_vL E b L xs) μ' 1555 [(3, .int (nI i)), (2, .ref (E.1 + 41)), (1, .ref (E.1 + 0)), (0, .ref b)] []) : x_G l E m_law (x_vL E b L xs) μ 306 [(3, .int (nI i)), (2, .ref (E.1 + 41)), (1, .ref (E.1 + 0)), (0, .ref b)] [] := by
  refine x_aload_n 2 d_law_306 rfl rfl ?_
  refine x_aload_n 3 d_law_307 rfl rfl ?_
  refine x_iload_n 0 d_law_308 rfl rfl ?_
  refine x_iconst (x := 1) d_law_309 (by decide) ?_
  refine x_iadd d_law_310 ?_
  rw [show nI i + (1 : Int32) = nI (i + 1) from nI_add i 1]
  refine x_sld (e0 := i + 1) (by omega) hL d_law_311 ?_
  refine x_aload_n 3 d_law_312 rfl rfl ?_
  refine x_iload_n 0 d_law_313 rfl rfl ?_
  refine x_iconst (x := 2) d_law_314 (by decide) ?_
  refine x_iadd d_law_315 ?_
  rw [show nI i + (2 : Int32) = nI (i + 2) from nI_add i 2]
  refine x_sld (e0 := i + 2) (by omega) hL d_law_316 ?_
  refine x_cvi (k := 0) (as := [.int (xs (i + 1)), .int (xs (i + 2))]) (c_X3_person l E μ g hX hI (xs (i + 1)) (xs (i + 2))) v_X3_person w_X3_person q218 o_X rfl ⟨Nat.le_of_ble_eq_true rfl, Nat.le_of_ble_eq_true rfl⟩ rfl (Nat.le_of_ble_eq_true rfl) d_law_317 ?_
  rintro z1 μ1 ⟨rfl, hX1, k1⟩
  have hM1 := hM.keep k1
  generalize hR : F_person g (xs (i + 1)) (xs (i + 2)) = R at hX1 ⊢
  refine x_aload_n 1 d_law_320 rfl rfl ?_
  refine x_aload_n 3 d_law_321 rfl rfl ?_
  refine x_iload_n 0 d_law_322 rfl rfl ?_
  refine x_iconst (x := 1) d_law_323 (by decide) ?_
  refine x_iadd d_law_324 ?_
  rw [show nI i + (1 : Int32) = nI (i + 1) from nI_add i 1]
  refine x_sld (e0 := i + 1) (by omega) hL d_law_325 ?_
  refine x_aload_n 3 d_law_326 rfl rfl ?_
  refine x_iload_n 0 d_law_327 rfl rfl ?_
  refine x_iconst (x := 2) d_law_328 (by decide) ?_
  refine x_iadd d_law_329 ?_
  rw [show nI i + (2 : Int32) = nI (i + 2) from nI_add i 2]
  refine x_sld (e0 := i + 2) (by omega) hL d_law_330 ?_
  refine x_cvi (k := 41) (as := [.int (xs (i + 1)), .int (xs (i + 2))]) (c_X4_person l E μ1 g hM1 hI (xs (i + 1)) (xs (i + 2))) v_X4_person w_X4_person q774 o_M rfl ⟨Nat.le_of_ble_eq_true rfl, Nat.le_of_ble_eq_true rfl⟩ rfl (Nat.le_of_ble_eq_true rfl) d_law_331 ?_
  rintro z2 μ2 ⟨rfl, hM2, k2⟩
  rw [hR] at hM2 ⊢
  have hI2 : Inv R.2 := by rw [← hR]; exact I_person hI (xs (i + 1)) (xs (i + 2))
  exact x_icmp_eq 1555 d_law_334 (by decide) (fun _ => kk R.2 μ2 (hX1.keep k2) hM2 hI2) (fun c => absurd rfl c)
set_option maxHeartbeats 1000000 in
theorem L_of (l : Launch) (E : x_E) {b L i : Nat} {xs : Nat → Int32} (hL : L ≤ 3072) (hi : i + 6 ≤ L) {g : x_SG} {μ : x_Mem} (hX : XS g μ) (hM : MS g μ) (hI : Inv g) (kk : ∀ (g' : x_SG) (μ' : x_Mem), XS g' μ' → MS g' μ' → Inv g' → x_G l E m_law (x_vL E b L xs) μ' 1555 [(3, .int (nI i)), (2, .ref (E.1 + 41)), (1, .ref (E.1 + 0)), (0, .ref b)] []) : x_G l E m_law (x_vL E b L xs) μ 339 [(3, .int (nI i)), (2, .ref (E.1 + 41)), (1, .ref (E.1 + 0)), (0, .ref b)] [] := by
  refine x_aload_n 2 d_law_339 rfl rfl ?_
  refine x_aload_n 3 d_law_340 rfl rfl ?_
  refine x_iload_n 0 d_law_341 rfl rfl ?_
  refine x_iconst (x := 1) d_law_342 (by decide) ?_
  refine x_iadd d_law_343 ?_
  rw [show nI i + (1 : Int32) = nI (i + 1) from nI_add i 1]
  refine x_sld (e0 := i + 1) (by omega) hL d_law_344 ?_
  refine x_aload_n 3 d_law_345 rfl rfl ?_
  refine x_iload_n 0 d_law_346 rfl rfl ?_
  refine x_iconst (x := 2) d_law_347 (by decide) ?_
  refine x_iadd d_law_348 ?_
  rw [show nI i + (2 : Int32) = nI (i + 2) from nI_add i 2]
  refine x_sld (e0 := i + 2) (by omega) hL d_law_349 ?_
  refine x_cvi (k := 0) (as := [.int (xs (i + 1)), .int (xs (i + 2))]) (c_X3_of l E μ g hX hI (xs (i + 1)) (xs (i + 2))) v_X3_of w_X3_of q230 o_X rfl ⟨Nat.le_of_ble_eq_true rfl, Nat.le_of_ble_eq_true rfl⟩ rfl (Nat.le_of_ble_eq_true rfl) d_law_350 ?_
  rintro z1 μ1 ⟨rfl, hX1, k1⟩
  have hM1 := hM.keep k1
  generalize hR : F_of g (xs (i + 1)) (xs (i + 2)) = R at hX1 ⊢
  refine x_aload_n 1 d_law_353 rfl rfl ?_
  refine x_aload_n 3 d_law_354 rfl rfl ?_
  refine x_iload_n 0 d_law_355 rfl rfl ?_
  refine x_iconst (x := 1) d_law_356 (by decide) ?_
  refine x_iadd d_law_357 ?_
  rw [show nI i + (1 : Int32) = nI (i + 1) from nI_add i 1]
  refine x_sld (e0 := i + 1) (by omega) hL d_law_358 ?_
  refine x_aload_n 3 d_law_359 rfl rfl ?_
  refine x_iload_n 0 d_law_360 rfl rfl ?_
  refine x_iconst (x := 2) d_law_361 (by decide) ?_
  refine x_iadd d_law_362 ?_
  rw [show nI i + (2 : Int32) = nI (i + 2) from nI_add i 2]
  refine x_sld (e0 := i + 2) (by omega) hL d_law_363 ?_
  refine x_cvi (k := 41) (as := [.int (xs (i + 1)), .int (xs (i + 2))]) (c_X4_of l E μ1 g hM1 hI (xs (i + 1)) (xs (i + 2))) v_X4_of w_X4_of q787 o_M rfl ⟨Nat.le_of_ble_eq_true rfl, Nat.le_of_ble_eq_true rfl⟩ rfl (Nat.le_of_ble_eq_true rfl) d_law_364 ?_
  rintro z2 μ2 ⟨rfl, hM2, k2⟩
  rw [hR] at hM2 ⊢
  have hI2 : Inv R.2 := by rw [← hR]; exact I_of hI (xs (i + 1)) (xs (i + 2))
  exact x_icmp_eq 1555 d_law_367 (by decide) (fun _ => kk R.2 μ2 (hX1.keep k2) hM2 hI2) (fun c => absurd rfl c)
set_option maxHeartbeats 1000000 in
theorem L_change (l : Launch) (E : x_E) {b L i : Nat} {xs : Nat → Int32} (hL : L ≤ 3072) (hi : i + 6 ≤ L) {g : x_SG} {μ : x_Mem} (hX : XS g μ) (hM : MS g μ) (hI : Inv g) (kk : ∀ (g' : x_SG) (μ' : x_Mem), XS g' μ' → MS g' μ' → Inv g' → x_G l E m_law (x_vL E b L xs) μ' 1555 [(3, .int (nI i)), (2, .ref (E.1 + 41)), (1, .ref (E.1 + 0)), (0, .ref b)] []) : x_G l E m_law (x_vL E b L xs) μ 372 [(3, .int (nI i)), (2, .ref (E.1 + 41)), (1, .ref (E.1 + 0)), (0, .ref b)] [] := by
  refine x_aload_n 2 d_law_372 rfl rfl ?_
  refine x_aload_n 3 d_law_373 rfl rfl ?_
  refine x_iload_n 0 d_law_374 rfl rfl ?_
  refine x_iconst (x := 1) d_law_375 (by decide) ?_
  refine x_iadd d_law_376 ?_
  rw [show nI i + (1 : Int32) = nI (i + 1) from nI_add i 1]
  refine x_sld (e0 := i + 1) (by omega) hL d_law_377 ?_
  refine x_aload_n 3 d_law_378 rfl rfl ?_
  refine x_iload_n 0 d_law_379 rfl rfl ?_
  refine x_iconst (x := 2) d_law_380 (by decide) ?_
  refine x_iadd d_law_381 ?_
  rw [show nI i + (2 : Int32) = nI (i + 2) from nI_add i 2]
  refine x_sld (e0 := i + 2) (by omega) hL d_law_382 ?_
  refine x_aload_n 3 d_law_383 rfl rfl ?_
  refine x_iload_n 0 d_law_384 rfl rfl ?_
  refine x_iconst (x := 3) d_law_385 (by decide) ?_
  refine x_iadd d_law_386 ?_
  rw [show nI i + (3 : Int32) = nI (i + 3) from nI_add i 3]
  refine x_sld (e0 := i + 3) (by omega) hL d_law_387 ?_
  refine x_cvi (k := 0) (as := [.int (xs (i + 1)), .int (xs (i + 2)), .int (xs (i + 3))]) (c_X3_change l E μ g hX hI (xs (i + 1)) (xs (i + 2)) (xs (i + 3))) v_X3_change w_X3_change q239 o_X rfl ⟨Nat.le_of_ble_eq_true rfl, Nat.le_of_ble_eq_true rfl⟩ rfl (Nat.le_of_ble_eq_true rfl) d_law_388 ?_
  rintro z1 μ1 ⟨rfl, hX1, k1⟩
  have hM1 := hM.keep k1
  generalize hR : F_change g (xs (i + 1)) (xs (i + 2)) (xs (i + 3)) = R at hX1 ⊢
  refine x_aload_n 1 d_law_391 rfl rfl ?_
  refine x_aload_n 3 d_law_392 rfl rfl ?_
  refine x_iload_n 0 d_law_393 rfl rfl ?_
  refine x_iconst (x := 1) d_law_394 (by decide) ?_
  refine x_iadd d_law_395 ?_
  rw [show nI i + (1 : Int32) = nI (i + 1) from nI_add i 1]
  refine x_sld (e0 := i + 1) (by omega) hL d_law_396 ?_
  refine x_aload_n 3 d_law_397 rfl rfl ?_
  refine x_iload_n 0 d_law_398 rfl rfl ?_
  refine x_iconst (x := 2) d_law_399 (by decide) ?_
  refine x_iadd d_law_400 ?_
  rw [show nI i + (2 : Int32) = nI (i + 2) from nI_add i 2]
  refine x_sld (e0 := i + 2) (by omega) hL d_law_401 ?_
  refine x_aload_n 3 d_law_402 rfl rfl ?_
  refine x_iload_n 0 d_law_403 rfl rfl ?_
  refine x_iconst (x := 3) d_law_404 (by decide) ?_
  refine x_iadd d_law_405 ?_
  rw [show nI i + (3 : Int32) = nI (i + 3) from nI_add i 3]
  refine x_sld (e0 := i + 3) (by omega) hL d_law_406 ?_
  refine x_cvi (k := 41) (as := [.int (xs (i + 1)), .int (xs (i + 2)), .int (xs (i + 3))]) (c_X4_change l E μ1 g hM1 hI (xs (i + 1)) (xs (i + 2)) (xs (i + 3))) v_X4_change w_X4_change q795 o_M rfl ⟨Nat.le_of_ble_eq_true rfl, Nat.le_of_ble_eq_true rfl⟩ rfl (Nat.le_of_ble_eq_true rfl) d_law_407 ?_
  rintro z2 μ2 ⟨rfl, hM2, k2⟩
  rw [hR] at hM2 ⊢
  have hI2 : Inv R.2 := by rw [← hR]; exact I_change hI (xs (i + 1)) (xs (i + 2)) (xs (i + 3))
  exact x_icmp_eq 1555 d_law_410 (by decide) (fun _ => kk R.2 μ2 (hX1.keep k2) hM2 hI2) (fun c => absurd rfl c)
set_option maxHeartbeats 1000000 in
theorem L_set (l : Launch) (E : x_E) {b L i : Nat} {xs : Nat → Int32} (hL : L ≤ 3072) (hi : i + 6 ≤ L) {g : x_SG} {μ : x_Mem} (hX : XS g μ) (hM : MS g μ) (hI : Inv g) (kk : ∀ (g' : x_SG) (μ' : x_Mem), XS g' μ' → MS g' μ' → Inv g' → x_G l E m_law (x_vL E b L xs) μ' 1555 [(3, .int (nI i)), (2, .ref (E.1 + 41)), (1, .ref (E.1 + 0)), (0, .ref b)] []) : x_G l E m_law (x_vL E b L xs) μ 415 [(3, .int (nI i)), (2, .ref (E.1 + 41)), (1, .ref (E.1 + 0)), (0, .ref b)] [] := by
  refine x_aload_n 2 d_law_415 rfl rfl ?_
  refine x_aload_n 3 d_law_416 rfl rfl ?_
  refine x_iload_n 0 d_law_417 rfl rfl ?_
  refine x_iconst (x := 1) d_law_418 (by decide) ?_
  refine x_iadd d_law_419 ?_
  rw [show nI i + (1 : Int32) = nI (i + 1) from nI_add i 1]
  refine x_sld (e0 := i + 1) (by omega) hL d_law_420 ?_
  refine x_aload_n 3 d_law_421 rfl rfl ?_
  refine x_iload_n 0 d_law_422 rfl rfl ?_
  refine x_iconst (x := 2) d_law_423 (by decide) ?_
  refine x_iadd d_law_424 ?_
  rw [show nI i + (2 : Int32) = nI (i + 2) from nI_add i 2]
  refine x_sld (e0 := i + 2) (by omega) hL d_law_425 ?_
  refine x_cvi (k := 0) (as := [.int (xs (i + 1)), .int (xs (i + 2))]) (c_X3_set l E μ g hX hI (xs (i + 1)) (xs (i + 2))) v_X3_set w_X3_set q243 o_X rfl ⟨Nat.le_of_ble_eq_true rfl, Nat.le_of_ble_eq_true rfl⟩ rfl (Nat.le_of_ble_eq_true rfl) d_law_426 ?_
  rintro z1 μ1 ⟨rfl, hX1, k1⟩
  have hM1 := hM.keep k1
  generalize hR : F_set g (xs (i + 1)) (xs (i + 2)) = R at hX1 ⊢
  refine x_aload_n 1 d_law_429 rfl rfl ?_
  refine x_aload_n 3 d_law_430 rfl rfl ?_
  refine x_iload_n 0 d_law_431 rfl rfl ?_
  refine x_iconst (x := 1) d_law_432 (by decide) ?_
  refine x_iadd d_law_433 ?_
  rw [show nI i + (1 : Int32) = nI (i + 1) from nI_add i 1]
  refine x_sld (e0 := i + 1) (by omega) hL d_law_434 ?_
  refine x_aload_n 3 d_law_435 rfl rfl ?_
  refine x_iload_n 0 d_law_436 rfl rfl ?_
  refine x_iconst (x := 2) d_law_437 (by decide) ?_
  refine x_iadd d_law_438 ?_
  rw [show nI i + (2 : Int32) = nI (i + 2) from nI_add i 2]
  refine x_sld (e0 := i + 2) (by omega) hL d_law_439 ?_
  refine x_cvi (k := 41) (as := [.int (xs (i + 1)), .int (xs (i + 2))]) (c_X4_set l E μ1 g hM1 hI (xs (i + 1)) (xs (i + 2))) v_X4_set w_X4_set q802 o_M rfl ⟨Nat.le_of_ble_eq_true rfl, Nat.le_of_ble_eq_true rfl⟩ rfl (Nat.le_of_ble_eq_true rfl) d_law_440 ?_
  rintro z2 μ2 ⟨rfl, hM2, k2⟩
  rw [hR] at hM2 ⊢
  have hI2 : Inv R.2 := by rw [← hR]; exact I_set hI (xs (i + 1)) (xs (i + 2))
  exact x_icmp_eq 1555 d_law_443 (by decide) (fun _ => kk R.2 μ2 (hX1.keep k2) hM2 hI2) (fun c => absurd rfl c)
set_option maxHeartbeats 1000000 in
theorem L_board (l : Launch) (E : x_E) {b L i : Nat} {xs : Nat → Int32} (hL : L ≤ 3072) (hi : i + 6 ≤ L) {g : x_SG} {μ : x_Mem} (hX : XS g μ) (hM : MS g μ) (hI : Inv g) (kk : ∀ (g' : x_SG) (μ' : x_Mem), XS g' μ' → MS g' μ' → Inv g' → x_G l E m_law (x_vL E b L xs) μ' 1555 [(3, .int (nI i)), (2, .ref (E.1 + 41)), (1, .ref (E.1 + 0)), (0, .ref b)] []) : x_G l E m_law (x_vL E b L xs) μ 448 [(3, .int (nI i)), (2, .ref (E.1 + 41)), (1, .ref (E.1 + 0)), (0, .ref b)] [] := by
  refine x_aload_n 2 d_law_448 rfl rfl ?_
  refine x_aload_n 3 d_law_449 rfl rfl ?_
  refine x_iload_n 0 d_law_450 rfl rfl ?_
  refine x_iconst (x := 1) d_law_451 (by decide) ?_
  refine x_iadd d_law_452 ?_
  rw [show nI i + (1 : Int32) = nI (i + 1) from nI_add i 1]
  refine x_sld (e0 := i + 1) (by omega) hL d_law_453 ?_
  refine x_cvi (k := 0) (as := [.int (xs (i + 1))]) (c_X3_board l E μ g hX hI (xs (i + 1))) v_X3_board w_X3_board q250 o_X rfl ⟨Nat.le_of_ble_eq_true rfl, Nat.le_of_ble_eq_true rfl⟩ rfl (Nat.le_of_ble_eq_true rfl) d_law_454 ?_
  rintro z1 μ1 ⟨rfl, hX1, k1⟩
  have hM1 := hM.keep k1
  generalize hR : F_board g (xs (i + 1)) = R at hX1 ⊢
  refine x_aload_n 1 d_law_457 rfl rfl ?_
  refine x_aload_n 3 d_law_458 rfl rfl ?_
  refine x_iload_n 0 d_law_459 rfl rfl ?_
  refine x_iconst (x := 1) d_law_460 (by decide) ?_
  refine x_iadd d_law_461 ?_
  rw [show nI i + (1 : Int32) = nI (i + 1) from nI_add i 1]
  refine x_sld (e0 := i + 1) (by omega) hL d_law_462 ?_
  refine x_cvi (k := 41) (as := [.int (xs (i + 1))]) (c_X4_board l E μ1 g hM1 hI (xs (i + 1))) v_X4_board w_X4_board q806 o_M rfl ⟨Nat.le_of_ble_eq_true rfl, Nat.le_of_ble_eq_true rfl⟩ rfl (Nat.le_of_ble_eq_true rfl) d_law_463 ?_
  rintro z2 μ2 ⟨rfl, hM2, k2⟩
  rw [hR] at hM2 ⊢
  have hI2 : Inv R.2 := by rw [← hR]; exact I_board hI (xs (i + 1))
  exact x_icmp_eq 1555 d_law_466 (by decide) (fun _ => kk R.2 μ2 (hX1.keep k2) hM2 hI2) (fun c => absurd rfl c)
set_option maxHeartbeats 1000000 in
theorem L_leave (l : Launch) (E : x_E) {b L i : Nat} {xs : Nat → Int32} (hL : L ≤ 3072) (hi : i + 6 ≤ L) {g : x_SG} {μ : x_Mem} (hX : XS g μ) (hM : MS g μ) (hI : Inv g) (kk : ∀ (g' : x_SG) (μ' : x_Mem), XS g' μ' → MS g' μ' → Inv g' → x_G l E m_law (x_vL E b L xs) μ' 1555 [(3, .int (nI i)), (2, .ref (E.1 + 41)), (1, .ref (E.1 + 0)), (0, .ref b)] []) : x_G l E m_law (x_vL E b L xs) μ 471 [(3, .int (nI i)), (2, .ref (E.1 + 41)), (1, .ref (E.1 + 0)), (0, .ref b)] [] := by
  refine x_aload_n 2 d_law_471 rfl rfl ?_
  refine x_aload_n 3 d_law_472 rfl rfl ?_
  refine x_iload_n 0 d_law_473 rfl rfl ?_
  refine x_iconst (x := 1) d_law_474 (by decide) ?_
  refine x_iadd d_law_475 ?_
  rw [show nI i + (1 : Int32) = nI (i + 1) from nI_add i 1]
  refine x_sld (e0 := i + 1) (by omega) hL d_law_476 ?_
  refine x_cvi (k := 0) (as := [.int (xs (i + 1))]) (c_X3_leave l E μ g hX hI (xs (i + 1))) v_X3_leave w_X3_leave q255 o_X rfl ⟨Nat.le_of_ble_eq_true rfl, Nat.le_of_ble_eq_true rfl⟩ rfl (Nat.le_of_ble_eq_true rfl) d_law_477 ?_
  rintro z1 μ1 ⟨rfl, hX1, k1⟩
  have hM1 := hM.keep k1
  generalize hR : F_leave g (xs (i + 1)) = R at hX1 ⊢
  refine x_aload_n 1 d_law_480 rfl rfl ?_
  refine x_aload_n 3 d_law_481 rfl rfl ?_
  refine x_iload_n 0 d_law_482 rfl rfl ?_
  refine x_iconst (x := 1) d_law_483 (by decide) ?_
  refine x_iadd d_law_484 ?_
  rw [show nI i + (1 : Int32) = nI (i + 1) from nI_add i 1]
  refine x_sld (e0 := i + 1) (by omega) hL d_law_485 ?_
  refine x_cvi (k := 41) (as := [.int (xs (i + 1))]) (c_X4_leave l E μ1 g hM1 hI (xs (i + 1))) v_X4_leave w_X4_leave q811 o_M rfl ⟨Nat.le_of_ble_eq_true rfl, Nat.le_of_ble_eq_true rfl⟩ rfl (Nat.le_of_ble_eq_true rfl) d_law_486 ?_
  rintro z2 μ2 ⟨rfl, hM2, k2⟩
  rw [hR] at hM2 ⊢
  have hI2 : Inv R.2 := by rw [← hR]; exact I_leave hI (xs (i + 1))
  exact x_icmp_eq 1555 d_law_489 (by decide) (fun _ => kk R.2 μ2 (hX1.keep k2) hM2 hI2) (fun c => absurd rfl c)
set_option maxHeartbeats 1000000 in
theorem L_go (l : Launch) (E : x_E) {b L i : Nat} {xs : Nat → Int32} (hL : L ≤ 3072) (hi : i + 6 ≤ L) {g : x_SG} {μ : x_Mem} (hX : XS g μ) (hM : MS g μ) (hI : Inv g) (kk : ∀ (g' : x_SG) (μ' : x_Mem), XS g' μ' → MS g' μ' → Inv g' → x_G l E m_law (x_vL E b L xs) μ' 1555 [(3, .int (nI i)), (2, .ref (E.1 + 41)), (1, .ref (E.1 + 0)), (0, .ref b)] []) : x_G l E m_law (x_vL E b L xs) μ 494 [(3, .int (nI i)), (2, .ref (E.1 + 41)), (1, .ref (E.1 + 0)), (0, .ref b)] [] := by
  refine x_aload_n 2 d_law_494 rfl rfl ?_
  refine x_aload_n 3 d_law_495 rfl rfl ?_
  refine x_iload_n 0 d_law_496 rfl rfl ?_
  refine x_iconst (x := 1) d_law_497 (by decide) ?_
  refine x_iadd d_law_498 ?_
  rw [show nI i + (1 : Int32) = nI (i + 1) from nI_add i 1]
  refine x_sld (e0 := i + 1) (by omega) hL d_law_499 ?_
  refine x_cvi (k := 0) (as := [.int (xs (i + 1))]) (c_X3_go l E μ g hX hI (xs (i + 1))) v_X3_go w_X3_go q259 o_X rfl ⟨Nat.le_of_ble_eq_true rfl, Nat.le_of_ble_eq_true rfl⟩ rfl (Nat.le_of_ble_eq_true rfl) d_law_500 ?_
  rintro z1 μ1 ⟨rfl, hX1, k1⟩
  have hM1 := hM.keep k1
  generalize hR : F_go g (xs (i + 1)) = R at hX1 ⊢
  refine x_aload_n 1 d_law_503 rfl rfl ?_
  refine x_aload_n 3 d_law_504 rfl rfl ?_
  refine x_iload_n 0 d_law_505 rfl rfl ?_
  refine x_iconst (x := 1) d_law_506 (by decide) ?_
  refine x_iadd d_law_507 ?_
  rw [show nI i + (1 : Int32) = nI (i + 1) from nI_add i 1]
  refine x_sld (e0 := i + 1) (by omega) hL d_law_508 ?_
  refine x_cvi (k := 41) (as := [.int (xs (i + 1))]) (c_X4_go l E μ1 g hM1 hI (xs (i + 1))) v_X4_go w_X4_go q815 o_M rfl ⟨Nat.le_of_ble_eq_true rfl, Nat.le_of_ble_eq_true rfl⟩ rfl (Nat.le_of_ble_eq_true rfl) d_law_509 ?_
  rintro z2 μ2 ⟨rfl, hM2, k2⟩
  rw [hR] at hM2 ⊢
  have hI2 : Inv R.2 := by rw [← hR]; exact I_go hI (xs (i + 1))
  exact x_icmp_eq 1555 d_law_512 (by decide) (fun _ => kk R.2 μ2 (hX1.keep k2) hM2 hI2) (fun c => absurd rfl c)
set_option maxHeartbeats 1000000 in
theorem L_now (l : Launch) (E : x_E) {b L i : Nat} {xs : Nat → Int32} (hL : L ≤ 3072) (hi : i + 6 ≤ L) {g : x_SG} {μ : x_Mem} (hX : XS g μ) (hM : MS g μ) (hI : Inv g) (kk : ∀ (g' : x_SG) (μ' : x_Mem), XS g' μ' → MS g' μ' → Inv g' → x_G l E m_law (x_vL E b L xs) μ' 1555 [(3, .int (nI i)), (2, .ref (E.1 + 41)), (1, .ref (E.1 + 0)), (0, .ref b)] []) : x_G l E m_law (x_vL E b L xs) μ 517 [(3, .int (nI i)), (2, .ref (E.1 + 41)), (1, .ref (E.1 + 0)), (0, .ref b)] [] := by
  refine x_aload_n 2 d_law_517 rfl rfl ?_
  refine x_aload_n 3 d_law_518 rfl rfl ?_
  refine x_iload_n 0 d_law_519 rfl rfl ?_
  refine x_iconst (x := 1) d_law_520 (by decide) ?_
  refine x_iadd d_law_521 ?_
  rw [show nI i + (1 : Int32) = nI (i + 1) from nI_add i 1]
  refine x_sld (e0 := i + 1) (by omega) hL d_law_522 ?_
  refine x_cvi (k := 0) (as := [.int (xs (i + 1))]) (c_X3_now l E μ g hX hI (xs (i + 1))) v_X3_now w_X3_now q288 o_X rfl ⟨Nat.le_of_ble_eq_true rfl, Nat.le_of_ble_eq_true rfl⟩ rfl (Nat.le_of_ble_eq_true rfl) d_law_523 ?_
  rintro z1 μ1 ⟨rfl, hX1, k1⟩
  have hM1 := hM.keep k1
  generalize hR : F_now g (xs (i + 1)) = R at hX1 ⊢
  refine x_aload_n 1 d_law_526 rfl rfl ?_
  refine x_aload_n 3 d_law_527 rfl rfl ?_
  refine x_iload_n 0 d_law_528 rfl rfl ?_
  refine x_iconst (x := 1) d_law_529 (by decide) ?_
  refine x_iadd d_law_530 ?_
  rw [show nI i + (1 : Int32) = nI (i + 1) from nI_add i 1]
  refine x_sld (e0 := i + 1) (by omega) hL d_law_531 ?_
  refine x_cvi (k := 41) (as := [.int (xs (i + 1))]) (c_X4_now l E μ1 g hM1 hI (xs (i + 1))) v_X4_now w_X4_now q839 o_M rfl ⟨Nat.le_of_ble_eq_true rfl, Nat.le_of_ble_eq_true rfl⟩ rfl (Nat.le_of_ble_eq_true rfl) d_law_532 ?_
  rintro z2 μ2 ⟨rfl, hM2, k2⟩
  rw [hR] at hM2 ⊢
  have hI2 : Inv R.2 := by rw [← hR]; exact I_now hI (xs (i + 1))
  exact x_icmp_eq 1555 d_law_535 (by decide) (fun _ => kk R.2 μ2 (hX1.keep k2) hM2 hI2) (fun c => absurd rfl c)
set_option maxHeartbeats 1000000 in
theorem L_ahead (l : Launch) (E : x_E) {b L i : Nat} {xs : Nat → Int32} (hL : L ≤ 3072) (hi : i + 6 ≤ L) {g : x_SG} {μ : x_Mem} (hX : XS g μ) (hM : MS g μ) (hI : Inv g) (kk : ∀ (g' : x_SG) (μ' : x_Mem), XS g' μ' → MS g' μ' → Inv g' → x_G l E m_law (x_vL E b L xs) μ' 1555 [(3, .int (nI i)), (2, .ref (E.1 + 41)), (1, .ref (E.1 + 0)), (0, .ref b)] []) : x_G l E m_law (x_vL E b L xs) μ 540 [(3, .int (nI i)), (2, .ref (E.1 + 41)), (1, .ref (E.1 + 0)), (0, .ref b)] [] := by
  refine x_aload_n 2 d_law_540 rfl rfl ?_
  refine x_aload_n 3 d_law_541 rfl rfl ?_
  refine x_iload_n 0 d_law_542 rfl rfl ?_
  refine x_iconst (x := 1) d_law_543 (by decide) ?_
  refine x_iadd d_law_544 ?_
  rw [show nI i + (1 : Int32) = nI (i + 1) from nI_add i 1]
  refine x_sld (e0 := i + 1) (by omega) hL d_law_545 ?_
  refine x_cvi (k := 0) (as := [.int (xs (i + 1))]) (c_X3_ahead l E μ g hX hI (xs (i + 1))) v_X3_ahead w_X3_ahead q305 o_X rfl ⟨Nat.le_of_ble_eq_true rfl, Nat.le_of_ble_eq_true rfl⟩ rfl (Nat.le_of_ble_eq_true rfl) d_law_546 ?_
  rintro z1 μ1 ⟨rfl, hX1, k1⟩
  have hM1 := hM.keep k1
  generalize hR : F_ahead g (xs (i + 1)) = R at hX1 ⊢
  refine x_aload_n 1 d_law_549 rfl rfl ?_
  refine x_aload_n 3 d_law_550 rfl rfl ?_
  refine x_iload_n 0 d_law_551 rfl rfl ?_
  refine x_iconst (x := 1) d_law_552 (by decide) ?_
  refine x_iadd d_law_553 ?_
  rw [show nI i + (1 : Int32) = nI (i + 1) from nI_add i 1]
  refine x_sld (e0 := i + 1) (by omega) hL d_law_554 ?_
  refine x_cvi (k := 41) (as := [.int (xs (i + 1))]) (c_X4_ahead l E μ1 g hM1 hI (xs (i + 1))) v_X4_ahead w_X4_ahead q855 o_M rfl ⟨Nat.le_of_ble_eq_true rfl, Nat.le_of_ble_eq_true rfl⟩ rfl (Nat.le_of_ble_eq_true rfl) d_law_555 ?_
  rintro z2 μ2 ⟨rfl, hM2, k2⟩
  rw [hR] at hM2 ⊢
  have hI2 : Inv R.2 := by rw [← hR]; exact I_ahead hI (xs (i + 1))
  exact x_icmp_eq 1555 d_law_558 (by decide) (fun _ => kk R.2 μ2 (hX1.keep k2) hM2 hI2) (fun c => absurd rfl c)
set_option maxHeartbeats 1000000 in
theorem L_believes (l : Launch) (E : x_E) {b L i : Nat} {xs : Nat → Int32} (hL : L ≤ 3072) (hi : i + 6 ≤ L) {g : x_SG} {μ : x_Mem} (hX : XS g μ) (hM : MS g μ) (hI : Inv g) (kk : ∀ (g' : x_SG) (μ' : x_Mem), XS g' μ' → MS g' μ' → Inv g' → x_G l E m_law (x_vL E b L xs) μ' 1555 [(3, .int (nI i)), (2, .ref (E.1 + 41)), (1, .ref (E.1 + 0)), (0, .ref b)] []) : x_G l E m_law (x_vL E b L xs) μ 563 [(3, .int (nI i)), (2, .ref (E.1 + 41)), (1, .ref (E.1 + 0)), (0, .ref b)] [] := by
  refine x_aload_n 2 d_law_563 rfl rfl ?_
  refine x_aload_n 3 d_law_564 rfl rfl ?_
  refine x_iload_n 0 d_law_565 rfl rfl ?_
  refine x_iconst (x := 1) d_law_566 (by decide) ?_
  refine x_iadd d_law_567 ?_
  rw [show nI i + (1 : Int32) = nI (i + 1) from nI_add i 1]
  refine x_sld (e0 := i + 1) (by omega) hL d_law_568 ?_
  refine x_aload_n 3 d_law_569 rfl rfl ?_
  refine x_iload_n 0 d_law_570 rfl rfl ?_
  refine x_iconst (x := 2) d_law_571 (by decide) ?_
  refine x_iadd d_law_572 ?_
  rw [show nI i + (2 : Int32) = nI (i + 2) from nI_add i 2]
  refine x_sld (e0 := i + 2) (by omega) hL d_law_573 ?_
  refine x_cvi (k := 0) (as := [.int (xs (i + 1)), .int (xs (i + 2))]) (c_X3_believes l E μ g hX hI (xs (i + 1)) (xs (i + 2))) v_X3_believes w_X3_believes q317 o_X rfl ⟨Nat.le_of_ble_eq_true rfl, Nat.le_of_ble_eq_true rfl⟩ rfl (Nat.le_of_ble_eq_true rfl) d_law_574 ?_
  rintro z1 μ1 ⟨rfl, hX1, k1⟩
  have hM1 := hM.keep k1
  generalize hR : F_believes g (xs (i + 1)) (xs (i + 2)) = R at hX1 ⊢
  refine x_aload_n 1 d_law_577 rfl rfl ?_
  refine x_aload_n 3 d_law_578 rfl rfl ?_
  refine x_iload_n 0 d_law_579 rfl rfl ?_
  refine x_iconst (x := 1) d_law_580 (by decide) ?_
  refine x_iadd d_law_581 ?_
  rw [show nI i + (1 : Int32) = nI (i + 1) from nI_add i 1]
  refine x_sld (e0 := i + 1) (by omega) hL d_law_582 ?_
  refine x_aload_n 3 d_law_583 rfl rfl ?_
  refine x_iload_n 0 d_law_584 rfl rfl ?_
  refine x_iconst (x := 2) d_law_585 (by decide) ?_
  refine x_iadd d_law_586 ?_
  rw [show nI i + (2 : Int32) = nI (i + 2) from nI_add i 2]
  refine x_sld (e0 := i + 2) (by omega) hL d_law_587 ?_
  refine x_cvi (k := 41) (as := [.int (xs (i + 1)), .int (xs (i + 2))]) (c_X4_believes l E μ1 g hM1 hI (xs (i + 1)) (xs (i + 2))) v_X4_believes w_X4_believes q874 o_M rfl ⟨Nat.le_of_ble_eq_true rfl, Nat.le_of_ble_eq_true rfl⟩ rfl (Nat.le_of_ble_eq_true rfl) d_law_588 ?_
  rintro z2 μ2 ⟨rfl, hM2, k2⟩
  rw [hR] at hM2 ⊢
  have hI2 : Inv R.2 := by rw [← hR]; exact I_believes hI (xs (i + 1)) (xs (i + 2))
  exact x_icmp_eq 1555 d_law_591 (by decide) (fun _ => kk R.2 μ2 (hX1.keep k2) hM2 hI2) (fun c => absurd rfl c)
set_option maxHeartbeats 1000000 in
theorem L_when (l : Launch) (E : x_E) {b L i : Nat} {xs : Nat → Int32} (hL : L ≤ 3072) (hi : i + 6 ≤ L) {g : x_SG} {μ : x_Mem} (hX : XS g μ) (hM : MS g μ) (hI : Inv g) (kk : ∀ (g' : x_SG) (μ' : x_Mem), XS g' μ' → MS g' μ' → Inv g' → x_G l E m_law (x_vL E b L xs) μ' 1555 [(3, .int (nI i)), (2, .ref (E.1 + 41)), (1, .ref (E.1 + 0)), (0, .ref b)] []) : x_G l E m_law (x_vL E b L xs) μ 596 [(3, .int (nI i)), (2, .ref (E.1 + 41)), (1, .ref (E.1 + 0)), (0, .ref b)] [] := by
  refine x_aload_n 2 d_law_596 rfl rfl ?_
  refine x_aload_n 3 d_law_597 rfl rfl ?_
  refine x_iload_n 0 d_law_598 rfl rfl ?_
  refine x_iconst (x := 1) d_law_599 (by decide) ?_
  refine x_iadd d_law_600 ?_
  rw [show nI i + (1 : Int32) = nI (i + 1) from nI_add i 1]
  refine x_sld (e0 := i + 1) (by omega) hL d_law_601 ?_
  refine x_cvi (k := 0) (as := [.int (xs (i + 1))]) (c_X3_when l E μ g hX hI (xs (i + 1))) v_X3_when w_X3_when q321 o_X rfl ⟨Nat.le_of_ble_eq_true rfl, Nat.le_of_ble_eq_true rfl⟩ rfl (Nat.le_of_ble_eq_true rfl) d_law_602 ?_
  rintro z1 μ1 ⟨rfl, hX1, k1⟩
  have hM1 := hM.keep k1
  generalize hR : F_when g (xs (i + 1)) = R at hX1 ⊢
  refine x_aload_n 1 d_law_605 rfl rfl ?_
  refine x_aload_n 3 d_law_606 rfl rfl ?_
  refine x_iload_n 0 d_law_607 rfl rfl ?_
  refine x_iconst (x := 1) d_law_608 (by decide) ?_
  refine x_iadd d_law_609 ?_
  rw [show nI i + (1 : Int32) = nI (i + 1) from nI_add i 1]
  refine x_sld (e0 := i + 1) (by omega) hL d_law_610 ?_
  refine x_cvi (k := 41) (as := [.int (xs (i + 1))]) (c_X4_when l E μ1 g hM1 hI (xs (i + 1))) v_X4_when w_X4_when q878 o_M rfl ⟨Nat.le_of_ble_eq_true rfl, Nat.le_of_ble_eq_true rfl⟩ rfl (Nat.le_of_ble_eq_true rfl) d_law_611 ?_
  rintro z2 μ2 ⟨rfl, hM2, k2⟩
  rw [hR] at hM2 ⊢
  have hI2 : Inv R.2 := by rw [← hR]; exact I_when hI (xs (i + 1))
  exact x_icmp_eq 1555 d_law_614 (by decide) (fun _ => kk R.2 μ2 (hX1.keep k2) hM2 hI2) (fun c => absurd rfl c)
set_option maxHeartbeats 1000000 in
theorem L_falls (l : Launch) (E : x_E) {b L i : Nat} {xs : Nat → Int32} (hL : L ≤ 3072) (hi : i + 6 ≤ L) {g : x_SG} {μ : x_Mem} (hX : XS g μ) (hM : MS g μ) (hI : Inv g) (kk : ∀ (g' : x_SG) (μ' : x_Mem), XS g' μ' → MS g' μ' → Inv g' → x_G l E m_law (x_vL E b L xs) μ' 1555 [(3, .int (nI i)), (2, .ref (E.1 + 41)), (1, .ref (E.1 + 0)), (0, .ref b)] []) : x_G l E m_law (x_vL E b L xs) μ 619 [(3, .int (nI i)), (2, .ref (E.1 + 41)), (1, .ref (E.1 + 0)), (0, .ref b)] [] := by
  refine x_aload_n 2 d_law_619 rfl rfl ?_
  refine x_cvi (k := 0) (as := []) (c_X3_falls l E μ g hX hI) v_X3_falls w_X3_falls q327 o_X rfl ⟨Nat.le_of_ble_eq_true rfl, Nat.le_of_ble_eq_true rfl⟩ rfl (Nat.le_of_ble_eq_true rfl) d_law_620 ?_
  rintro z1 μ1 ⟨rfl, hX1, k1⟩
  have hM1 := hM.keep k1
  generalize hR : F_falls g = R at hX1 ⊢
  refine x_aload_n 1 d_law_623 rfl rfl ?_
  refine x_cvi (k := 41) (as := []) (c_X4_falls l E μ1 g hM1 hI) v_X4_falls w_X4_falls q886 o_M rfl ⟨Nat.le_of_ble_eq_true rfl, Nat.le_of_ble_eq_true rfl⟩ rfl (Nat.le_of_ble_eq_true rfl) d_law_624 ?_
  rintro z2 μ2 ⟨rfl, hM2, k2⟩
  rw [hR] at hM2 ⊢
  have hI2 : Inv R.2 := by rw [← hR]; exact I_falls hI
  exact x_icmp_eq 1555 d_law_627 (by decide) (fun _ => kk R.2 μ2 (hX1.keep k2) hM2 hI2) (fun c => absurd rfl c)
set_option maxHeartbeats 1000000 in
theorem L_settles (l : Launch) (E : x_E) {b L i : Nat} {xs : Nat → Int32} (hL : L ≤ 3072) (hi : i + 6 ≤ L) {g : x_SG} {μ : x_Mem} (hX : XS g μ) (hM : MS g μ) (hI : Inv g) (kk : ∀ (g' : x_SG) (μ' : x_Mem), XS g' μ' → MS g' μ' → Inv g' → x_G l E m_law (x_vL E b L xs) μ' 1555 [(3, .int (nI i)), (2, .ref (E.1 + 41)), (1, .ref (E.1 + 0)), (0, .ref b)] []) : x_G l E m_law (x_vL E b L xs) μ 632 [(3, .int (nI i)), (2, .ref (E.1 + 41)), (1, .ref (E.1 + 0)), (0, .ref b)] [] := by
  refine x_aload_n 2 d_law_632 rfl rfl ?_
  refine x_cvi (k := 0) (as := []) (c_X3_settles l E μ g hX hI) v_X3_settles w_X3_settles q331 o_X rfl ⟨Nat.le_of_ble_eq_true rfl, Nat.le_of_ble_eq_true rfl⟩ rfl (Nat.le_of_ble_eq_true rfl) d_law_633 ?_
  rintro z1 μ1 ⟨rfl, hX1, k1⟩
  have hM1 := hM.keep k1
  generalize hR : F_settles g = R at hX1 ⊢
  refine x_aload_n 1 d_law_636 rfl rfl ?_
  refine x_cvi (k := 41) (as := []) (c_X4_settles l E μ1 g hM1 hI) v_X4_settles w_X4_settles q890 o_M rfl ⟨Nat.le_of_ble_eq_true rfl, Nat.le_of_ble_eq_true rfl⟩ rfl (Nat.le_of_ble_eq_true rfl) d_law_637 ?_
  rintro z2 μ2 ⟨rfl, hM2, k2⟩
  rw [hR] at hM2 ⊢
  have hI2 : Inv R.2 := by rw [← hR]; exact I_settles hI
  exact x_icmp_eq 1555 d_law_640 (by decide) (fun _ => kk R.2 μ2 (hX1.keep k2) hM2 hI2) (fun c => absurd rfl c)
set_option maxHeartbeats 1000000 in
theorem L_there (l : Launch) (E : x_E) {b L i : Nat} {xs : Nat → Int32} (hL : L ≤ 3072) (hi : i + 6 ≤ L) {g : x_SG} {μ : x_Mem} (hX : XS g μ) (hM : MS g μ) (hI : Inv g) (kk : ∀ (g' : x_SG) (μ' : x_Mem), XS g' μ' → MS g' μ' → Inv g' → x_G l E m_law (x_vL E b L xs) μ' 1555 [(3, .int (nI i)), (2, .ref (E.1 + 41)), (1, .ref (E.1 + 0)), (0, .ref b)] []) : x_G l E m_law (x_vL E b L xs) μ 645 [(3, .int (nI i)), (2, .ref (E.1 + 41)), (1, .ref (E.1 + 0)), (0, .ref b)] [] := by
  refine x_aload_n 2 d_law_645 rfl rfl ?_
  refine x_aload_n 3 d_law_646 rfl rfl ?_
  refine x_iload_n 0 d_law_647 rfl rfl ?_
  refine x_iconst (x := 1) d_law_648 (by decide) ?_
  refine x_iadd d_law_649 ?_
  rw [show nI i + (1 : Int32) = nI (i + 1) from nI_add i 1]
  refine x_sld (e0 := i + 1) (by omega) hL d_law_650 ?_
  refine x_cvi (k := 0) (as := [.int (xs (i + 1))]) (c_X3_there l E μ g hX hI (xs (i + 1))) v_X3_there w_X3_there q335 o_X rfl ⟨Nat.le_of_ble_eq_true rfl, Nat.le_of_ble_eq_true rfl⟩ rfl (Nat.le_of_ble_eq_true rfl) d_law_651 ?_
  rintro z1 μ1 ⟨rfl, hX1, k1⟩
  have hM1 := hM.keep k1
  generalize hR : F_there g (xs (i + 1)) = R at hX1 ⊢
  refine x_aload_n 1 d_law_654 rfl rfl ?_
  refine x_aload_n 3 d_law_655 rfl rfl ?_
  refine x_iload_n 0 d_law_656 rfl rfl ?_
  refine x_iconst (x := 1) d_law_657 (by decide) ?_
  refine x_iadd d_law_658 ?_
  rw [show nI i + (1 : Int32) = nI (i + 1) from nI_add i 1]
  refine x_sld (e0 := i + 1) (by omega) hL d_law_659 ?_
  refine x_cvi (k := 41) (as := [.int (xs (i + 1))]) (c_X4_there l E μ1 g hM1 hI (xs (i + 1))) v_X4_there w_X4_there q898 o_M rfl ⟨Nat.le_of_ble_eq_true rfl, Nat.le_of_ble_eq_true rfl⟩ rfl (Nat.le_of_ble_eq_true rfl) d_law_660 ?_
  rintro z2 μ2 ⟨rfl, hM2, k2⟩
  rw [hR] at hM2 ⊢
  have hI2 : Inv R.2 := by rw [← hR]; exact I_there hI (xs (i + 1))
  exact x_icmp_eq 1555 d_law_663 (by decide) (fun _ => kk R.2 μ2 (hX1.keep k2) hM2 hI2) (fun c => absurd rfl c)
set_option maxHeartbeats 1000000 in
theorem L_kindFor (l : Launch) (E : x_E) {b L i : Nat} {xs : Nat → Int32} (hL : L ≤ 3072) (hi : i + 6 ≤ L) {g : x_SG} {μ : x_Mem} (hX : XS g μ) (hM : MS g μ) (hI : Inv g) (kk : ∀ (g' : x_SG) (μ' : x_Mem), XS g' μ' → MS g' μ' → Inv g' → x_G l E m_law (x_vL E b L xs) μ' 1555 [(3, .int (nI i)), (2, .ref (E.1 + 41)), (1, .ref (E.1 + 0)), (0, .ref b)] []) : x_G l E m_law (x_vL E b L xs) μ 668 [(3, .int (nI i)), (2, .ref (E.1 + 41)), (1, .ref (E.1 + 0)), (0, .ref b)] [] := by
  refine x_aload_n 2 d_law_668 rfl rfl ?_
  refine x_aload_n 3 d_law_669 rfl rfl ?_
  refine x_iload_n 0 d_law_670 rfl rfl ?_
  refine x_iconst (x := 1) d_law_671 (by decide) ?_
  refine x_iadd d_law_672 ?_
  rw [show nI i + (1 : Int32) = nI (i + 1) from nI_add i 1]
  refine x_sld (e0 := i + 1) (by omega) hL d_law_673 ?_
  refine x_aload_n 3 d_law_674 rfl rfl ?_
  refine x_iload_n 0 d_law_675 rfl rfl ?_
  refine x_iconst (x := 2) d_law_676 (by decide) ?_
  refine x_iadd d_law_677 ?_
  rw [show nI i + (2 : Int32) = nI (i + 2) from nI_add i 2]
  refine x_sld (e0 := i + 2) (by omega) hL d_law_678 ?_
  refine x_cvi (k := 0) (as := [.int (xs (i + 1)), .int (xs (i + 2))]) (c_X3_kindFor l E μ g hX hI (xs (i + 1)) (xs (i + 2))) v_X3_kindFor w_X3_kindFor q339 o_X rfl ⟨Nat.le_of_ble_eq_true rfl, Nat.le_of_ble_eq_true rfl⟩ rfl (Nat.le_of_ble_eq_true rfl) d_law_679 ?_
  rintro z1 μ1 ⟨rfl, hX1, k1⟩
  have hM1 := hM.keep k1
  generalize hR : F_kindFor g (xs (i + 1)) (xs (i + 2)) = R at hX1 ⊢
  refine x_aload_n 1 d_law_682 rfl rfl ?_
  refine x_aload_n 3 d_law_683 rfl rfl ?_
  refine x_iload_n 0 d_law_684 rfl rfl ?_
  refine x_iconst (x := 1) d_law_685 (by decide) ?_
  refine x_iadd d_law_686 ?_
  rw [show nI i + (1 : Int32) = nI (i + 1) from nI_add i 1]
  refine x_sld (e0 := i + 1) (by omega) hL d_law_687 ?_
  refine x_aload_n 3 d_law_688 rfl rfl ?_
  refine x_iload_n 0 d_law_689 rfl rfl ?_
  refine x_iconst (x := 2) d_law_690 (by decide) ?_
  refine x_iadd d_law_691 ?_
  rw [show nI i + (2 : Int32) = nI (i + 2) from nI_add i 2]
  refine x_sld (e0 := i + 2) (by omega) hL d_law_692 ?_
  refine x_cvi (k := 41) (as := [.int (xs (i + 1)), .int (xs (i + 2))]) (c_X4_kindFor l E μ1 g hM1 hI (xs (i + 1)) (xs (i + 2))) v_X4_kindFor w_X4_kindFor q902 o_M rfl ⟨Nat.le_of_ble_eq_true rfl, Nat.le_of_ble_eq_true rfl⟩ rfl (Nat.le_of_ble_eq_true rfl) d_law_693 ?_
  rintro z2 μ2 ⟨rfl, hM2, k2⟩
  rw [hR] at hM2 ⊢
  have hI2 : Inv R.2 := by rw [← hR]; exact I_kindFor hI (xs (i + 1)) (xs (i + 2))
  exact x_icmp_eq 1555 d_law_696 (by decide) (fun _ => kk R.2 μ2 (hX1.keep k2) hM2 hI2) (fun c => absurd rfl c)
set_option maxHeartbeats 1000000 in
theorem L_with (l : Launch) (E : x_E) {b L i : Nat} {xs : Nat → Int32} (hL : L ≤ 3072) (hi : i + 6 ≤ L) {g : x_SG} {μ : x_Mem} (hX : XS g μ) (hM : MS g μ) (hI : Inv g) (kk : ∀ (g' : x_SG) (μ' : x_Mem), XS g' μ' → MS g' μ' → Inv g' → x_G l E m_law (x_vL E b L xs) μ' 1555 [(3, .int (nI i)), (2, .ref (E.1 + 41)), (1, .ref (E.1 + 0)), (0, .ref b)] []) : x_G l E m_law (x_vL E b L xs) μ 701 [(3, .int (nI i)), (2, .ref (E.1 + 41)), (1, .ref (E.1 + 0)), (0, .ref b)] [] := by
  refine x_aload_n 2 d_law_701 rfl rfl ?_
  refine x_aload_n 3 d_law_702 rfl rfl ?_
  refine x_iload_n 0 d_law_703 rfl rfl ?_
  refine x_iconst (x := 1) d_law_704 (by decide) ?_
  refine x_iadd d_law_705 ?_
  rw [show nI i + (1 : Int32) = nI (i + 1) from nI_add i 1]
  refine x_sld (e0 := i + 1) (by omega) hL d_law_706 ?_
  refine x_aload_n 3 d_law_707 rfl rfl ?_
  refine x_iload_n 0 d_law_708 rfl rfl ?_
  refine x_iconst (x := 2) d_law_709 (by decide) ?_
  refine x_iadd d_law_710 ?_
  rw [show nI i + (2 : Int32) = nI (i + 2) from nI_add i 2]
  refine x_sld (e0 := i + 2) (by omega) hL d_law_711 ?_
  refine x_cvi (k := 0) (as := [.int (xs (i + 1)), .int (xs (i + 2))]) (c_X3_with l E μ g hX hI (xs (i + 1)) (xs (i + 2))) v_X3_with w_X3_with q346 o_X rfl ⟨Nat.le_of_ble_eq_true rfl, Nat.le_of_ble_eq_true rfl⟩ rfl (Nat.le_of_ble_eq_true rfl) d_law_712 ?_
  rintro z1 μ1 ⟨rfl, hX1, k1⟩
  have hM1 := hM.keep k1
  generalize hR : F_with g (xs (i + 1)) (xs (i + 2)) = R at hX1 ⊢
  refine x_aload_n 1 d_law_715 rfl rfl ?_
  refine x_aload_n 3 d_law_716 rfl rfl ?_
  refine x_iload_n 0 d_law_717 rfl rfl ?_
  refine x_iconst (x := 1) d_law_718 (by decide) ?_
  refine x_iadd d_law_719 ?_
  rw [show nI i + (1 : Int32) = nI (i + 1) from nI_add i 1]
  refine x_sld (e0 := i + 1) (by omega) hL d_law_720 ?_
  refine x_aload_n 3 d_law_721 rfl rfl ?_
  refine x_iload_n 0 d_law_722 rfl rfl ?_
  refine x_iconst (x := 2) d_law_723 (by decide) ?_
  refine x_iadd d_law_724 ?_
  rw [show nI i + (2 : Int32) = nI (i + 2) from nI_add i 2]
  refine x_sld (e0 := i + 2) (by omega) hL d_law_725 ?_
  refine x_cvi (k := 41) (as := [.int (xs (i + 1)), .int (xs (i + 2))]) (c_X4_with l E μ1 g hM1 hI (xs (i + 1)) (xs (i + 2))) v_X4_with w_X4_with q910 o_M rfl ⟨Nat.le_of_ble_eq_true rfl, Nat.le_of_ble_eq_true rfl⟩ rfl (Nat.le_of_ble_eq_true rfl) d_law_726 ?_
  rintro z2 μ2 ⟨rfl, hM2, k2⟩
  rw [hR] at hM2 ⊢
  have hI2 : Inv R.2 := by rw [← hR]; exact I_with hI (xs (i + 1)) (xs (i + 2))
  exact x_icmp_eq 1555 d_law_729 (by decide) (fun _ => kk R.2 μ2 (hX1.keep k2) hM2 hI2) (fun c => absurd rfl c)
set_option maxHeartbeats 1000000 in
theorem L_fewest (l : Launch) (E : x_E) {b L i : Nat} {xs : Nat → Int32} (hL : L ≤ 3072) (hi : i + 6 ≤ L) {g : x_SG} {μ : x_Mem} (hX : XS g μ) (hM : MS g μ) (hI : Inv g) (kk : ∀ (g' : x_SG) (μ' : x_Mem), XS g' μ' → MS g' μ' → Inv g' → x_G l E m_law (x_vL E b L xs) μ' 1555 [(3, .int (nI i)), (2, .ref (E.1 + 41)), (1, .ref (E.1 + 0)), (0, .ref b)] []) : x_G l E m_law (x_vL E b L xs) μ 734 [(3, .int (nI i)), (2, .ref (E.1 + 41)), (1, .ref (E.1 + 0)), (0, .ref b)] [] := by
  refine x_aload_n 2 d_law_734 rfl rfl ?_
  refine x_aload_n 3 d_law_735 rfl rfl ?_
  refine x_iload_n 0 d_law_736 rfl rfl ?_
  refine x_iconst (x := 1) d_law_737 (by decide) ?_
  refine x_iadd d_law_738 ?_
  rw [show nI i + (1 : Int32) = nI (i + 1) from nI_add i 1]
  refine x_sld (e0 := i + 1) (by omega) hL d_law_739 ?_
  refine x_aload_n 3 d_law_740 rfl rfl ?_
  refine x_iload_n 0 d_law_741 rfl rfl ?_
  refine x_iconst (x := 2) d_law_742 (by decide) ?_
  refine x_iadd d_law_743 ?_
  rw [show nI i + (2 : Int32) = nI (i + 2) from nI_add i 2]
  refine x_sld (e0 := i + 2) (by omega) hL d_law_744 ?_
  refine x_cvi (k := 0) (as := [.int (xs (i + 1)), .int (xs (i + 2))]) (c_X3_fewest l E μ g hX hI (xs (i + 1)) (xs (i + 2))) v_X3_fewest w_X3_fewest q365 o_X rfl ⟨Nat.le_of_ble_eq_true rfl, Nat.le_of_ble_eq_true rfl⟩ rfl (Nat.le_of_ble_eq_true rfl) d_law_745 ?_
  rintro z1 μ1 ⟨rfl, hX1, k1⟩
  have hM1 := hM.keep k1
  generalize hR : F_fewest g (xs (i + 1)) (xs (i + 2)) = R at hX1 ⊢
  refine x_aload_n 1 d_law_748 rfl rfl ?_
  refine x_aload_n 3 d_law_749 rfl rfl ?_
  refine x_iload_n 0 d_law_750 rfl rfl ?_
  refine x_iconst (x := 1) d_law_751 (by decide) ?_
  refine x_iadd d_law_752 ?_
  rw [show nI i + (1 : Int32) = nI (i + 1) from nI_add i 1]
  refine x_sld (e0 := i + 1) (by omega) hL d_law_753 ?_
  refine x_aload_n 3 d_law_754 rfl rfl ?_
  refine x_iload_n 0 d_law_755 rfl rfl ?_
  refine x_iconst (x := 2) d_law_756 (by decide) ?_
  refine x_iadd d_law_757 ?_
  rw [show nI i + (2 : Int32) = nI (i + 2) from nI_add i 2]
  refine x_sld (e0 := i + 2) (by omega) hL d_law_758 ?_
  refine x_cvi (k := 41) (as := [.int (xs (i + 1)), .int (xs (i + 2))]) (c_X4_fewest l E μ1 g hM1 hI (xs (i + 1)) (xs (i + 2))) v_X4_fewest w_X4_fewest q918 o_M rfl ⟨Nat.le_of_ble_eq_true rfl, Nat.le_of_ble_eq_true rfl⟩ rfl (Nat.le_of_ble_eq_true rfl) d_law_759 ?_
  rintro z2 μ2 ⟨rfl, hM2, k2⟩
  rw [hR] at hM2 ⊢
  have hI2 : Inv R.2 := by rw [← hR]; exact I_fewest hI (xs (i + 1)) (xs (i + 2))
  exact x_icmp_eq 1555 d_law_762 (by decide) (fun _ => kk R.2 μ2 (hX1.keep k2) hM2 hI2) (fun c => absurd rfl c)
set_option maxHeartbeats 1000000 in
theorem L_farthest (l : Launch) (E : x_E) {b L i : Nat} {xs : Nat → Int32} (hL : L ≤ 3072) (hi : i + 6 ≤ L) {g : x_SG} {μ : x_Mem} (hX : XS g μ) (hM : MS g μ) (hI : Inv g) (kk : ∀ (g' : x_SG) (μ' : x_Mem), XS g' μ' → MS g' μ' → Inv g' → x_G l E m_law (x_vL E b L xs) μ' 1555 [(3, .int (nI i)), (2, .ref (E.1 + 41)), (1, .ref (E.1 + 0)), (0, .ref b)] []) : x_G l E m_law (x_vL E b L xs) μ 767 [(3, .int (nI i)), (2, .ref (E.1 + 41)), (1, .ref (E.1 + 0)), (0, .ref b)] [] := by
  refine x_aload_n 2 d_law_767 rfl rfl ?_
  refine x_aload_n 3 d_law_768 rfl rfl ?_
  refine x_iload_n 0 d_law_769 rfl rfl ?_
  refine x_iconst (x := 1) d_law_770 (by decide) ?_
  refine x_iadd d_law_771 ?_
  rw [show nI i + (1 : Int32) = nI (i + 1) from nI_add i 1]
  refine x_sld (e0 := i + 1) (by omega) hL d_law_772 ?_
  refine x_cvi (k := 0) (as := [.int (xs (i + 1))]) (c_X3_farthest l E μ g hX hI (xs (i + 1))) v_X3_farthest w_X3_farthest q375 o_X rfl ⟨Nat.le_of_ble_eq_true rfl, Nat.le_of_ble_eq_true rfl⟩ rfl (Nat.le_of_ble_eq_true rfl) d_law_773 ?_
  rintro z1 μ1 ⟨rfl, hX1, k1⟩
  have hM1 := hM.keep k1
  generalize hR : F_farthest g (xs (i + 1)) = R at hX1 ⊢
  refine x_aload_n 1 d_law_776 rfl rfl ?_
  refine x_aload_n 3 d_law_777 rfl rfl ?_
  refine x_iload_n 0 d_law_778 rfl rfl ?_
  refine x_iconst (x := 1) d_law_779 (by decide) ?_
  refine x_iadd d_law_780 ?_
  rw [show nI i + (1 : Int32) = nI (i + 1) from nI_add i 1]
  refine x_sld (e0 := i + 1) (by omega) hL d_law_781 ?_
  refine x_cvi (k := 41) (as := [.int (xs (i + 1))]) (c_X4_farthest l E μ1 g hM1 hI (xs (i + 1))) v_X4_farthest w_X4_farthest q929 o_M rfl ⟨Nat.le_of_ble_eq_true rfl, Nat.le_of_ble_eq_true rfl⟩ rfl (Nat.le_of_ble_eq_true rfl) d_law_782 ?_
  rintro z2 μ2 ⟨rfl, hM2, k2⟩
  rw [hR] at hM2 ⊢
  have hI2 : Inv R.2 := by rw [← hR]; exact I_farthest hI (xs (i + 1))
  exact x_icmp_eq 1555 d_law_785 (by decide) (fun _ => kk R.2 μ2 (hX1.keep k2) hM2 hI2) (fun c => absurd rfl c)
set_option maxHeartbeats 1000000 in
theorem L_without (l : Launch) (E : x_E) {b L i : Nat} {xs : Nat → Int32} (hL : L ≤ 3072) (hi : i + 6 ≤ L) {g : x_SG} {μ : x_Mem} (hX : XS g μ) (hM : MS g μ) (hI : Inv g) (kk : ∀ (g' : x_SG) (μ' : x_Mem), XS g' μ' → MS g' μ' → Inv g' → x_G l E m_law (x_vL E b L xs) μ' 1555 [(3, .int (nI i)), (2, .ref (E.1 + 41)), (1, .ref (E.1 + 0)), (0, .ref b)] []) : x_G l E m_law (x_vL E b L xs) μ 790 [(3, .int (nI i)), (2, .ref (E.1 + 41)), (1, .ref (E.1 + 0)), (0, .ref b)] [] := by
  refine x_aload_n 2 d_law_790 rfl rfl ?_
  refine x_aload_n 3 d_law_791 rfl rfl ?_
  refine x_iload_n 0 d_law_792 rfl rfl ?_
  refine x_iconst (x := 1) d_law_793 (by decide) ?_
  refine x_iadd d_law_794 ?_
  rw [show nI i + (1 : Int32) = nI (i + 1) from nI_add i 1]
  refine x_sld (e0 := i + 1) (by omega) hL d_law_795 ?_
  refine x_cvi (k := 0) (as := [.int (xs (i + 1))]) (c_X3_without l E μ g hX hI (xs (i + 1))) v_X3_without w_X3_without q379 o_X rfl ⟨Nat.le_of_ble_eq_true rfl, Nat.le_of_ble_eq_true rfl⟩ rfl (Nat.le_of_ble_eq_true rfl) d_law_796 ?_
  rintro z1 μ1 ⟨rfl, hX1, k1⟩
  have hM1 := hM.keep k1
  generalize hR : F_without g (xs (i + 1)) = R at hX1 ⊢
  refine x_aload_n 1 d_law_799 rfl rfl ?_
  refine x_aload_n 3 d_law_800 rfl rfl ?_
  refine x_iload_n 0 d_law_801 rfl rfl ?_
  refine x_iconst (x := 1) d_law_802 (by decide) ?_
  refine x_iadd d_law_803 ?_
  rw [show nI i + (1 : Int32) = nI (i + 1) from nI_add i 1]
  refine x_sld (e0 := i + 1) (by omega) hL d_law_804 ?_
  refine x_cvi (k := 41) (as := [.int (xs (i + 1))]) (c_X4_without l E μ1 g hM1 hI (xs (i + 1))) v_X4_without w_X4_without q933 o_M rfl ⟨Nat.le_of_ble_eq_true rfl, Nat.le_of_ble_eq_true rfl⟩ rfl (Nat.le_of_ble_eq_true rfl) d_law_805 ?_
  rintro z2 μ2 ⟨rfl, hM2, k2⟩
  rw [hR] at hM2 ⊢
  have hI2 : Inv R.2 := by rw [← hR]; exact I_without hI (xs (i + 1))
  exact x_icmp_eq 1555 d_law_808 (by decide) (fun _ => kk R.2 μ2 (hX1.keep k2) hM2 hI2) (fun c => absurd rfl c)
set_option maxHeartbeats 1000000 in
theorem L_persuade (l : Launch) (E : x_E) {b L i : Nat} {xs : Nat → Int32} (hL : L ≤ 3072) (hi : i + 6 ≤ L) {g : x_SG} {μ : x_Mem} (hX : XS g μ) (hM : MS g μ) (hI : Inv g) (kk : ∀ (g' : x_SG) (μ' : x_Mem), XS g' μ' → MS g' μ' → Inv g' → x_G l E m_law (x_vL E b L xs) μ' 1555 [(3, .int (nI i)), (2, .ref (E.1 + 41)), (1, .ref (E.1 + 0)), (0, .ref b)] []) : x_G l E m_law (x_vL E b L xs) μ 813 [(3, .int (nI i)), (2, .ref (E.1 + 41)), (1, .ref (E.1 + 0)), (0, .ref b)] [] := by
  refine x_aload_n 2 d_law_813 rfl rfl ?_
  refine x_aload_n 3 d_law_814 rfl rfl ?_
  refine x_iload_n 0 d_law_815 rfl rfl ?_
  refine x_iconst (x := 1) d_law_816 (by decide) ?_
  refine x_iadd d_law_817 ?_
  rw [show nI i + (1 : Int32) = nI (i + 1) from nI_add i 1]
  refine x_sld (e0 := i + 1) (by omega) hL d_law_818 ?_
  refine x_aload_n 3 d_law_819 rfl rfl ?_
  refine x_iload_n 0 d_law_820 rfl rfl ?_
  refine x_iconst (x := 2) d_law_821 (by decide) ?_
  refine x_iadd d_law_822 ?_
  rw [show nI i + (2 : Int32) = nI (i + 2) from nI_add i 2]
  refine x_sld (e0 := i + 2) (by omega) hL d_law_823 ?_
  refine x_aload_n 3 d_law_824 rfl rfl ?_
  refine x_iload_n 0 d_law_825 rfl rfl ?_
  refine x_iconst (x := 3) d_law_826 (by decide) ?_
  refine x_iadd d_law_827 ?_
  rw [show nI i + (3 : Int32) = nI (i + 3) from nI_add i 3]
  refine x_sld (e0 := i + 3) (by omega) hL d_law_828 ?_
  refine x_cvi (k := 0) (as := [.int (xs (i + 1)), .int (xs (i + 2)), .int (xs (i + 3))]) (c_X3_persuade l E μ g hX hI (xs (i + 1)) (xs (i + 2)) (xs (i + 3))) v_X3_persuade w_X3_persuade q383 o_X rfl ⟨Nat.le_of_ble_eq_true rfl, Nat.le_of_ble_eq_true rfl⟩ rfl (Nat.le_of_ble_eq_true rfl) d_law_829 ?_
  rintro z1 μ1 ⟨rfl, hX1, k1⟩
  have hM1 := hM.keep k1
  generalize hR : F_persuade g (xs (i + 1)) (xs (i + 2)) (xs (i + 3)) = R at hX1 ⊢
  refine x_aload_n 1 d_law_832 rfl rfl ?_
  refine x_aload_n 3 d_law_833 rfl rfl ?_
  refine x_iload_n 0 d_law_834 rfl rfl ?_
  refine x_iconst (x := 1) d_law_835 (by decide) ?_
  refine x_iadd d_law_836 ?_
  rw [show nI i + (1 : Int32) = nI (i + 1) from nI_add i 1]
  refine x_sld (e0 := i + 1) (by omega) hL d_law_837 ?_
  refine x_aload_n 3 d_law_838 rfl rfl ?_
  refine x_iload_n 0 d_law_839 rfl rfl ?_
  refine x_iconst (x := 2) d_law_840 (by decide) ?_
  refine x_iadd d_law_841 ?_
  rw [show nI i + (2 : Int32) = nI (i + 2) from nI_add i 2]
  refine x_sld (e0 := i + 2) (by omega) hL d_law_842 ?_
  refine x_aload_n 3 d_law_843 rfl rfl ?_
  refine x_iload_n 0 d_law_844 rfl rfl ?_
  refine x_iconst (x := 3) d_law_845 (by decide) ?_
  refine x_iadd d_law_846 ?_
  rw [show nI i + (3 : Int32) = nI (i + 3) from nI_add i 3]
  refine x_sld (e0 := i + 3) (by omega) hL d_law_847 ?_
  refine x_cvi (k := 41) (as := [.int (xs (i + 1)), .int (xs (i + 2)), .int (xs (i + 3))]) (c_X4_persuade l E μ1 g hM1 hI (xs (i + 1)) (xs (i + 2)) (xs (i + 3))) v_X4_persuade w_X4_persuade q937 o_M rfl ⟨Nat.le_of_ble_eq_true rfl, Nat.le_of_ble_eq_true rfl⟩ rfl (Nat.le_of_ble_eq_true rfl) d_law_848 ?_
  rintro z2 μ2 ⟨rfl, hM2, k2⟩
  rw [hR] at hM2 ⊢
  have hI2 : Inv R.2 := by rw [← hR]; exact I_persuade hI (xs (i + 1)) (xs (i + 2)) (xs (i + 3))
  exact x_icmp_eq 1555 d_law_851 (by decide) (fun _ => kk R.2 μ2 (hX1.keep k2) hM2 hI2) (fun c => absurd rfl c)
set_option maxHeartbeats 1000000 in
theorem L_bears (l : Launch) (E : x_E) {b L i : Nat} {xs : Nat → Int32} (hL : L ≤ 3072) (hi : i + 6 ≤ L) {g : x_SG} {μ : x_Mem} (hX : XS g μ) (hM : MS g μ) (hI : Inv g) (kk : ∀ (g' : x_SG) (μ' : x_Mem), XS g' μ' → MS g' μ' → Inv g' → x_G l E m_law (x_vL E b L xs) μ' 1555 [(3, .int (nI i)), (2, .ref (E.1 + 41)), (1, .ref (E.1 + 0)), (0, .ref b)] []) : x_G l E m_law (x_vL E b L xs) μ 856 [(3, .int (nI i)), (2, .ref (E.1 + 41)), (1, .ref (E.1 + 0)), (0, .ref b)] [] := by
  refine x_aload_n 2 d_law_856 rfl rfl ?_
  refine x_aload_n 3 d_law_857 rfl rfl ?_
  refine x_iload_n 0 d_law_858 rfl rfl ?_
  refine x_iconst (x := 1) d_law_859 (by decide) ?_
  refine x_iadd d_law_860 ?_
  rw [show nI i + (1 : Int32) = nI (i + 1) from nI_add i 1]
  refine x_sld (e0 := i + 1) (by omega) hL d_law_861 ?_
  refine x_aload_n 3 d_law_862 rfl rfl ?_
  refine x_iload_n 0 d_law_863 rfl rfl ?_
  refine x_iconst (x := 2) d_law_864 (by decide) ?_
  refine x_iadd d_law_865 ?_
  rw [show nI i + (2 : Int32) = nI (i + 2) from nI_add i 2]
  refine x_sld (e0 := i + 2) (by omega) hL d_law_866 ?_
  refine x_cvi (k := 0) (as := [.int (xs (i + 1)), .int (xs (i + 2))]) (c_X3_bears l E μ g hX hI (xs (i + 1)) (xs (i + 2))) v_X3_bears w_X3_bears q391 o_X rfl ⟨Nat.le_of_ble_eq_true rfl, Nat.le_of_ble_eq_true rfl⟩ rfl (Nat.le_of_ble_eq_true rfl) d_law_867 ?_
  rintro z1 μ1 ⟨rfl, hX1, k1⟩
  have hM1 := hM.keep k1
  generalize hR : F_bears g (xs (i + 1)) (xs (i + 2)) = R at hX1 ⊢
  refine x_aload_n 1 d_law_870 rfl rfl ?_
  refine x_aload_n 3 d_law_871 rfl rfl ?_
  refine x_iload_n 0 d_law_872 rfl rfl ?_
  refine x_iconst (x := 1) d_law_873 (by decide) ?_
  refine x_iadd d_law_874 ?_
  rw [show nI i + (1 : Int32) = nI (i + 1) from nI_add i 1]
  refine x_sld (e0 := i + 1) (by omega) hL d_law_875 ?_
  refine x_aload_n 3 d_law_876 rfl rfl ?_
  refine x_iload_n 0 d_law_877 rfl rfl ?_
  refine x_iconst (x := 2) d_law_878 (by decide) ?_
  refine x_iadd d_law_879 ?_
  rw [show nI i + (2 : Int32) = nI (i + 2) from nI_add i 2]
  refine x_sld (e0 := i + 2) (by omega) hL d_law_880 ?_
  refine x_cvi (k := 41) (as := [.int (xs (i + 1)), .int (xs (i + 2))]) (c_X4_bears l E μ1 g hM1 hI (xs (i + 1)) (xs (i + 2))) v_X4_bears w_X4_bears q941 o_M rfl ⟨Nat.le_of_ble_eq_true rfl, Nat.le_of_ble_eq_true rfl⟩ rfl (Nat.le_of_ble_eq_true rfl) d_law_881 ?_
  rintro z2 μ2 ⟨rfl, hM2, k2⟩
  rw [hR] at hM2 ⊢
  have hI2 : Inv R.2 := by rw [← hR]; exact I_bears hI (xs (i + 1)) (xs (i + 2))
  exact x_icmp_eq 1555 d_law_884 (by decide) (fun _ => kk R.2 μ2 (hX1.keep k2) hM2 hI2) (fun c => absurd rfl c)
set_option maxHeartbeats 1000000 in
theorem L_seat (l : Launch) (E : x_E) {b L i : Nat} {xs : Nat → Int32} (hL : L ≤ 3072) (hi : i + 6 ≤ L) {g : x_SG} {μ : x_Mem} (hX : XS g μ) (hM : MS g μ) (hI : Inv g) (kk : ∀ (g' : x_SG) (μ' : x_Mem), XS g' μ' → MS g' μ' → Inv g' → x_G l E m_law (x_vL E b L xs) μ' 1555 [(3, .int (nI i)), (2, .ref (E.1 + 41)), (1, .ref (E.1 + 0)), (0, .ref b)] []) : x_G l E m_law (x_vL E b L xs) μ 889 [(3, .int (nI i)), (2, .ref (E.1 + 41)), (1, .ref (E.1 + 0)), (0, .ref b)] [] := by
  refine x_aload_n 2 d_law_889 rfl rfl ?_
  refine x_aload_n 3 d_law_890 rfl rfl ?_
  refine x_iload_n 0 d_law_891 rfl rfl ?_
  refine x_iconst (x := 1) d_law_892 (by decide) ?_
  refine x_iadd d_law_893 ?_
  rw [show nI i + (1 : Int32) = nI (i + 1) from nI_add i 1]
  refine x_sld (e0 := i + 1) (by omega) hL d_law_894 ?_
  refine x_aload_n 3 d_law_895 rfl rfl ?_
  refine x_iload_n 0 d_law_896 rfl rfl ?_
  refine x_iconst (x := 2) d_law_897 (by decide) ?_
  refine x_iadd d_law_898 ?_
  rw [show nI i + (2 : Int32) = nI (i + 2) from nI_add i 2]
  refine x_sld (e0 := i + 2) (by omega) hL d_law_899 ?_
  refine x_cvi (k := 0) (as := [.int (xs (i + 1)), .int (xs (i + 2))]) (c_X3_seat l E μ g hX hI (xs (i + 1)) (xs (i + 2))) v_X3_seat w_X3_seat q402 o_X rfl ⟨Nat.le_of_ble_eq_true rfl, Nat.le_of_ble_eq_true rfl⟩ rfl (Nat.le_of_ble_eq_true rfl) d_law_900 ?_
  rintro z1 μ1 ⟨rfl, hX1, k1⟩
  have hM1 := hM.keep k1
  generalize hR : F_seat g (xs (i + 1)) (xs (i + 2)) = R at hX1 ⊢
  refine x_aload_n 1 d_law_903 rfl rfl ?_
  refine x_aload_n 3 d_law_904 rfl rfl ?_
  refine x_iload_n 0 d_law_905 rfl rfl ?_
  refine x_iconst (x := 1) d_law_906 (by decide) ?_
  refine x_iadd d_law_907 ?_
  rw [show nI i + (1 : Int32) = nI (i + 1) from nI_add i 1]
  refine x_sld (e0 := i + 1) (by omega) hL d_law_908 ?_
  refine x_aload_n 3 d_law_909 rfl rfl ?_
  refine x_iload_n 0 d_law_910 rfl rfl ?_
  refine x_iconst (x := 2) d_law_911 (by decide) ?_
  refine x_iadd d_law_912 ?_
  rw [show nI i + (2 : Int32) = nI (i + 2) from nI_add i 2]
  refine x_sld (e0 := i + 2) (by omega) hL d_law_913 ?_
  refine x_cvi (k := 41) (as := [.int (xs (i + 1)), .int (xs (i + 2))]) (c_X4_seat l E μ1 g hM1 hI (xs (i + 1)) (xs (i + 2))) v_X4_seat w_X4_seat q945 o_M rfl ⟨Nat.le_of_ble_eq_true rfl, Nat.le_of_ble_eq_true rfl⟩ rfl (Nat.le_of_ble_eq_true rfl) d_law_914 ?_
  rintro z2 μ2 ⟨rfl, hM2, k2⟩
  rw [hR] at hM2 ⊢
  have hI2 : Inv R.2 := by rw [← hR]; exact I_seat hI (xs (i + 1)) (xs (i + 2))
  exact x_icmp_eq 1555 d_law_917 (by decide) (fun _ => kk R.2 μ2 (hX1.keep k2) hM2 hI2) (fun c => absurd rfl c)
set_option maxHeartbeats 1000000 in
theorem L_kinds (l : Launch) (E : x_E) {b L i : Nat} {xs : Nat → Int32} (hL : L ≤ 3072) (hi : i + 6 ≤ L) {g : x_SG} {μ : x_Mem} (hX : XS g μ) (hM : MS g μ) (hI : Inv g) (kk : ∀ (g' : x_SG) (μ' : x_Mem), XS g' μ' → MS g' μ' → Inv g' → x_G l E m_law (x_vL E b L xs) μ' 1555 [(3, .int (nI i)), (2, .ref (E.1 + 41)), (1, .ref (E.1 + 0)), (0, .ref b)] []) : x_G l E m_law (x_vL E b L xs) μ 922 [(3, .int (nI i)), (2, .ref (E.1 + 41)), (1, .ref (E.1 + 0)), (0, .ref b)] [] := by
  refine x_aload_n 2 d_law_922 rfl rfl ?_
  refine x_aload_n 3 d_law_923 rfl rfl ?_
  refine x_iload_n 0 d_law_924 rfl rfl ?_
  refine x_iconst (x := 1) d_law_925 (by decide) ?_
  refine x_iadd d_law_926 ?_
  rw [show nI i + (1 : Int32) = nI (i + 1) from nI_add i 1]
  refine x_sld (e0 := i + 1) (by omega) hL d_law_927 ?_
  refine x_aload_n 3 d_law_928 rfl rfl ?_
  refine x_iload_n 0 d_law_929 rfl rfl ?_
  refine x_iconst (x := 2) d_law_930 (by decide) ?_
  refine x_iadd d_law_931 ?_
  rw [show nI i + (2 : Int32) = nI (i + 2) from nI_add i 2]
  refine x_sld (e0 := i + 2) (by omega) hL d_law_932 ?_
  refine x_cvi (k := 0) (as := [.int (xs (i + 1)), .int (xs (i + 2))]) (c_X3_kinds l E μ g hX hI (xs (i + 1)) (xs (i + 2))) v_X3_kinds w_X3_kinds q406 o_X rfl ⟨Nat.le_of_ble_eq_true rfl, Nat.le_of_ble_eq_true rfl⟩ rfl (Nat.le_of_ble_eq_true rfl) d_law_933 ?_
  rintro z1 μ1 ⟨rfl, hX1, k1⟩
  have hM1 := hM.keep k1
  generalize hR : F_kinds g (xs (i + 1)) (xs (i + 2)) = R at hX1 ⊢
  refine x_aload_n 1 d_law_936 rfl rfl ?_
  refine x_aload_n 3 d_law_937 rfl rfl ?_
  refine x_iload_n 0 d_law_938 rfl rfl ?_
  refine x_iconst (x := 1) d_law_939 (by decide) ?_
  refine x_iadd d_law_940 ?_
  rw [show nI i + (1 : Int32) = nI (i + 1) from nI_add i 1]
  refine x_sld (e0 := i + 1) (by omega) hL d_law_941 ?_
  refine x_aload_n 3 d_law_942 rfl rfl ?_
  refine x_iload_n 0 d_law_943 rfl rfl ?_
  refine x_iconst (x := 2) d_law_944 (by decide) ?_
  refine x_iadd d_law_945 ?_
  rw [show nI i + (2 : Int32) = nI (i + 2) from nI_add i 2]
  refine x_sld (e0 := i + 2) (by omega) hL d_law_946 ?_
  refine x_cvi (k := 41) (as := [.int (xs (i + 1)), .int (xs (i + 2))]) (c_X4_kinds l E μ1 g hM1 hI (xs (i + 1)) (xs (i + 2))) v_X4_kinds w_X4_kinds q949 o_M rfl ⟨Nat.le_of_ble_eq_true rfl, Nat.le_of_ble_eq_true rfl⟩ rfl (Nat.le_of_ble_eq_true rfl) d_law_947 ?_
  rintro z2 μ2 ⟨rfl, hM2, k2⟩
  rw [hR] at hM2 ⊢
  have hI2 : Inv R.2 := by rw [← hR]; exact I_kinds hI (xs (i + 1)) (xs (i + 2))
  exact x_icmp_eq 1555 d_law_950 (by decide) (fun _ => kk R.2 μ2 (hX1.keep k2) hM2 hI2) (fun c => absurd rfl c)
set_option maxHeartbeats 1000000 in
theorem L_beliefs (l : Launch) (E : x_E) {b L i : Nat} {xs : Nat → Int32} (hL : L ≤ 3072) (hi : i + 6 ≤ L) {g : x_SG} {μ : x_Mem} (hX : XS g μ) (hM : MS g μ) (hI : Inv g) (kk : ∀ (g' : x_SG) (μ' : x_Mem), XS g' μ' → MS g' μ' → Inv g' → x_G l E m_law (x_vL E b L xs) μ' 1555 [(3, .int (nI i)), (2, .ref (E.1 + 41)), (1, .ref (E.1 + 0)), (0, .ref b)] []) : x_G l E m_law (x_vL E b L xs) μ 955 [(3, .int (nI i)), (2, .ref (E.1 + 41)), (1, .ref (E.1 + 0)), (0, .ref b)] [] := by
  refine x_aload_n 2 d_law_955 rfl rfl ?_
  refine x_aload_n 3 d_law_956 rfl rfl ?_
  refine x_iload_n 0 d_law_957 rfl rfl ?_
  refine x_iconst (x := 1) d_law_958 (by decide) ?_
  refine x_iadd d_law_959 ?_
  rw [show nI i + (1 : Int32) = nI (i + 1) from nI_add i 1]
  refine x_sld (e0 := i + 1) (by omega) hL d_law_960 ?_
  refine x_aload_n 3 d_law_961 rfl rfl ?_
  refine x_iload_n 0 d_law_962 rfl rfl ?_
  refine x_iconst (x := 2) d_law_963 (by decide) ?_
  refine x_iadd d_law_964 ?_
  rw [show nI i + (2 : Int32) = nI (i + 2) from nI_add i 2]
  refine x_sld (e0 := i + 2) (by omega) hL d_law_965 ?_
  refine x_cvi (k := 0) (as := [.int (xs (i + 1)), .int (xs (i + 2))]) (c_X3_beliefs l E μ g hX hI (xs (i + 1)) (xs (i + 2))) v_X3_beliefs w_X3_beliefs q418 o_X rfl ⟨Nat.le_of_ble_eq_true rfl, Nat.le_of_ble_eq_true rfl⟩ rfl (Nat.le_of_ble_eq_true rfl) d_law_966 ?_
  rintro z1 μ1 ⟨rfl, hX1, k1⟩
  have hM1 := hM.keep k1
  generalize hR : F_beliefs g (xs (i + 1)) (xs (i + 2)) = R at hX1 ⊢
  refine x_aload_n 1 d_law_969 rfl rfl ?_
  refine x_aload_n 3 d_law_970 rfl rfl ?_
  refine x_iload_n 0 d_law_971 rfl rfl ?_
  refine x_iconst (x := 1) d_law_972 (by decide) ?_
  refine x_iadd d_law_973 ?_
  rw [show nI i + (1 : Int32) = nI (i + 1) from nI_add i 1]
  refine x_sld (e0 := i + 1) (by omega) hL d_law_974 ?_
  refine x_aload_n 3 d_law_975 rfl rfl ?_
  refine x_iload_n 0 d_law_976 rfl rfl ?_
  refine x_iconst (x := 2) d_law_977 (by decide) ?_
  refine x_iadd d_law_978 ?_
  rw [show nI i + (2 : Int32) = nI (i + 2) from nI_add i 2]
  refine x_sld (e0 := i + 2) (by omega) hL d_law_979 ?_
  refine x_cvi (k := 41) (as := [.int (xs (i + 1)), .int (xs (i + 2))]) (c_X4_beliefs l E μ1 g hM1 hI (xs (i + 1)) (xs (i + 2))) v_X4_beliefs w_X4_beliefs q969 o_M rfl ⟨Nat.le_of_ble_eq_true rfl, Nat.le_of_ble_eq_true rfl⟩ rfl (Nat.le_of_ble_eq_true rfl) d_law_980 ?_
  rintro z2 μ2 ⟨rfl, hM2, k2⟩
  rw [hR] at hM2 ⊢
  have hI2 : Inv R.2 := by rw [← hR]; exact I_beliefs hI (xs (i + 1)) (xs (i + 2))
  exact x_icmp_eq 1555 d_law_983 (by decide) (fun _ => kk R.2 μ2 (hX1.keep k2) hM2 hI2) (fun c => absurd rfl c)
set_option maxHeartbeats 1000000 in
theorem L_least (l : Launch) (E : x_E) {b L i : Nat} {xs : Nat → Int32} (hL : L ≤ 3072) (hi : i + 6 ≤ L) {g : x_SG} {μ : x_Mem} (hX : XS g μ) (hM : MS g μ) (hI : Inv g) (kk : ∀ (g' : x_SG) (μ' : x_Mem), XS g' μ' → MS g' μ' → Inv g' → x_G l E m_law (x_vL E b L xs) μ' 1555 [(3, .int (nI i)), (2, .ref (E.1 + 41)), (1, .ref (E.1 + 0)), (0, .ref b)] []) : x_G l E m_law (x_vL E b L xs) μ 988 [(3, .int (nI i)), (2, .ref (E.1 + 41)), (1, .ref (E.1 + 0)), (0, .ref b)] [] := by
  refine x_aload_n 2 d_law_988 rfl rfl ?_
  refine x_aload_n 3 d_law_989 rfl rfl ?_
  refine x_iload_n 0 d_law_990 rfl rfl ?_
  refine x_iconst (x := 1) d_law_991 (by decide) ?_
  refine x_iadd d_law_992 ?_
  rw [show nI i + (1 : Int32) = nI (i + 1) from nI_add i 1]
  refine x_sld (e0 := i + 1) (by omega) hL d_law_993 ?_
  refine x_aload_n 3 d_law_994 rfl rfl ?_
  refine x_iload_n 0 d_law_995 rfl rfl ?_
  refine x_iconst (x := 2) d_law_996 (by decide) ?_
  refine x_iadd d_law_997 ?_
  rw [show nI i + (2 : Int32) = nI (i + 2) from nI_add i 2]
  refine x_sld (e0 := i + 2) (by omega) hL d_law_998 ?_
  refine x_cvi (k := 0) (as := [.int (xs (i + 1)), .int (xs (i + 2))]) (c_X3_least l E μ g hX hI (xs (i + 1)) (xs (i + 2))) v_X3_least w_X3_least q422 o_X rfl ⟨Nat.le_of_ble_eq_true rfl, Nat.le_of_ble_eq_true rfl⟩ rfl (Nat.le_of_ble_eq_true rfl) d_law_999 ?_
  rintro z1 μ1 ⟨rfl, hX1, k1⟩
  have hM1 := hM.keep k1
  generalize hR : F_least g (xs (i + 1)) (xs (i + 2)) = R at hX1 ⊢
  refine x_aload_n 1 d_law_1002 rfl rfl ?_
  refine x_aload_n 3 d_law_1003 rfl rfl ?_
  refine x_iload_n 0 d_law_1004 rfl rfl ?_
  refine x_iconst (x := 1) d_law_1005 (by decide) ?_
  refine x_iadd d_law_1006 ?_
  rw [show nI i + (1 : Int32) = nI (i + 1) from nI_add i 1]
  refine x_sld (e0 := i + 1) (by omega) hL d_law_1007 ?_
  refine x_aload_n 3 d_law_1008 rfl rfl ?_
  refine x_iload_n 0 d_law_1009 rfl rfl ?_
  refine x_iconst (x := 2) d_law_1010 (by decide) ?_
  refine x_iadd d_law_1011 ?_
  rw [show nI i + (2 : Int32) = nI (i + 2) from nI_add i 2]
  refine x_sld (e0 := i + 2) (by omega) hL d_law_1012 ?_
  refine x_cvi (k := 41) (as := [.int (xs (i + 1)), .int (xs (i + 2))]) (c_X4_least l E μ1 g hM1 hI (xs (i + 1)) (xs (i + 2))) v_X4_least w_X4_least q973 o_M rfl ⟨Nat.le_of_ble_eq_true rfl, Nat.le_of_ble_eq_true rfl⟩ rfl (Nat.le_of_ble_eq_true rfl) d_law_1013 ?_
  rintro z2 μ2 ⟨rfl, hM2, k2⟩
  rw [hR] at hM2 ⊢
  have hI2 : Inv R.2 := by rw [← hR]; exact I_least hI (xs (i + 1)) (xs (i + 2))
  exact x_icmp_eq 1555 d_law_1016 (by decide) (fun _ => kk R.2 μ2 (hX1.keep k2) hM2 hI2) (fun c => absurd rfl c)
set_option maxHeartbeats 1000000 in
theorem L_worth (l : Launch) (E : x_E) {b L i : Nat} {xs : Nat → Int32} (hL : L ≤ 3072) (hi : i + 6 ≤ L) {g : x_SG} {μ : x_Mem} (hX : XS g μ) (hM : MS g μ) (hI : Inv g) (kk : ∀ (g' : x_SG) (μ' : x_Mem), XS g' μ' → MS g' μ' → Inv g' → x_G l E m_law (x_vL E b L xs) μ' 1555 [(3, .int (nI i)), (2, .ref (E.1 + 41)), (1, .ref (E.1 + 0)), (0, .ref b)] []) : x_G l E m_law (x_vL E b L xs) μ 1021 [(3, .int (nI i)), (2, .ref (E.1 + 41)), (1, .ref (E.1 + 0)), (0, .ref b)] [] := by
  refine x_aload_n 2 d_law_1021 rfl rfl ?_
  refine x_cvi (k := 0) (as := []) (c_X3_worth l E μ g hX hI) v_X3_worth w_X3_worth q426 o_X rfl ⟨Nat.le_of_ble_eq_true rfl, Nat.le_of_ble_eq_true rfl⟩ rfl (Nat.le_of_ble_eq_true rfl) d_law_1022 ?_
  rintro z1 μ1 ⟨rfl, hX1, k1⟩
  have hM1 := hM.keep k1
  generalize hR : F_worth g = R at hX1 ⊢
  refine x_aload_n 1 d_law_1025 rfl rfl ?_
  refine x_cvi (k := 41) (as := []) (c_X4_worth l E μ1 g hM1 hI) v_X4_worth w_X4_worth q977 o_M rfl ⟨Nat.le_of_ble_eq_true rfl, Nat.le_of_ble_eq_true rfl⟩ rfl (Nat.le_of_ble_eq_true rfl) d_law_1026 ?_
  rintro z2 μ2 ⟨rfl, hM2, k2⟩
  rw [hR] at hM2 ⊢
  have hI2 : Inv R.2 := by rw [← hR]; exact I_worth hI
  exact x_icmp_eq 1555 d_law_1029 (by decide) (fun _ => kk R.2 μ2 (hX1.keep k2) hM2 hI2) (fun c => absurd rfl c)
set_option maxHeartbeats 1000000 in
theorem L_hangs (l : Launch) (E : x_E) {b L i : Nat} {xs : Nat → Int32} (hL : L ≤ 3072) (hi : i + 6 ≤ L) {g : x_SG} {μ : x_Mem} (hX : XS g μ) (hM : MS g μ) (hI : Inv g) (kk : ∀ (g' : x_SG) (μ' : x_Mem), XS g' μ' → MS g' μ' → Inv g' → x_G l E m_law (x_vL E b L xs) μ' 1555 [(3, .int (nI i)), (2, .ref (E.1 + 41)), (1, .ref (E.1 + 0)), (0, .ref b)] []) : x_G l E m_law (x_vL E b L xs) μ 1034 [(3, .int (nI i)), (2, .ref (E.1 + 41)), (1, .ref (E.1 + 0)), (0, .ref b)] [] := by
  refine x_aload_n 2 d_law_1034 rfl rfl ?_
  refine x_aload_n 3 d_law_1035 rfl rfl ?_
  refine x_iload_n 0 d_law_1036 rfl rfl ?_
  refine x_iconst (x := 1) d_law_1037 (by decide) ?_
  refine x_iadd d_law_1038 ?_
  rw [show nI i + (1 : Int32) = nI (i + 1) from nI_add i 1]
  refine x_sld (e0 := i + 1) (by omega) hL d_law_1039 ?_
  refine x_cvi (k := 0) (as := [.int (xs (i + 1))]) (c_X3_hangs l E μ g hX hI (xs (i + 1))) v_X3_hangs w_X3_hangs q430 o_X rfl ⟨Nat.le_of_ble_eq_true rfl, Nat.le_of_ble_eq_true rfl⟩ rfl (Nat.le_of_ble_eq_true rfl) d_law_1040 ?_
  rintro z1 μ1 ⟨rfl, hX1, k1⟩
  have hM1 := hM.keep k1
  generalize hR : F_hangs g (xs (i + 1)) = R at hX1 ⊢
  refine x_aload_n 1 d_law_1043 rfl rfl ?_
  refine x_aload_n 3 d_law_1044 rfl rfl ?_
  refine x_iload_n 0 d_law_1045 rfl rfl ?_
  refine x_iconst (x := 1) d_law_1046 (by decide) ?_
  refine x_iadd d_law_1047 ?_
  rw [show nI i + (1 : Int32) = nI (i + 1) from nI_add i 1]
  refine x_sld (e0 := i + 1) (by omega) hL d_law_1048 ?_
  refine x_cvi (k := 41) (as := [.int (xs (i + 1))]) (c_X4_hangs l E μ1 g hM1 hI (xs (i + 1))) v_X4_hangs w_X4_hangs q981 o_M rfl ⟨Nat.le_of_ble_eq_true rfl, Nat.le_of_ble_eq_true rfl⟩ rfl (Nat.le_of_ble_eq_true rfl) d_law_1049 ?_
  rintro z2 μ2 ⟨rfl, hM2, k2⟩
  rw [hR] at hM2 ⊢
  have hI2 : Inv R.2 := by rw [← hR]; exact I_hangs hI (xs (i + 1))
  exact x_icmp_eq 1555 d_law_1052 (by decide) (fun _ => kk R.2 μ2 (hX1.keep k2) hM2 hI2) (fun c => absurd rfl c)
set_option maxHeartbeats 1000000 in
theorem L_run (l : Launch) (E : x_E) {b L i : Nat} {xs : Nat → Int32} (hL : L ≤ 3072) (hi : i + 6 ≤ L) {g : x_SG} {μ : x_Mem} (hX : XS g μ) (hM : MS g μ) (hI : Inv g) (kk : ∀ (g' : x_SG) (μ' : x_Mem), XS g' μ' → MS g' μ' → Inv g' → x_G l E m_law (x_vL E b L xs) μ' 1555 [(3, .int (nI i)), (2, .ref (E.1 + 41)), (1, .ref (E.1 + 0)), (0, .ref b)] []) : x_G l E m_law (x_vL E b L xs) μ 1057 [(3, .int (nI i)), (2, .ref (E.1 + 41)), (1, .ref (E.1 + 0)), (0, .ref b)] [] := by
  refine x_aload_n 2 d_law_1057 rfl rfl ?_
  refine x_cvi (k := 0) (as := []) (c_X3_run l E μ g hX hI) v_X3_run w_X3_run q435 o_X rfl ⟨Nat.le_of_ble_eq_true rfl, Nat.le_of_ble_eq_true rfl⟩ rfl (Nat.le_of_ble_eq_true rfl) d_law_1058 ?_
  rintro z1 μ1 ⟨rfl, hX1, k1⟩
  have hM1 := hM.keep k1
  generalize hR : F_run g = R at hX1 ⊢
  refine x_aload_n 1 d_law_1061 rfl rfl ?_
  refine x_cvi (k := 41) (as := []) (c_X4_run l E μ1 g hM1 hI) v_X4_run w_X4_run q985 o_M rfl ⟨Nat.le_of_ble_eq_true rfl, Nat.le_of_ble_eq_true rfl⟩ rfl (Nat.le_of_ble_eq_true rfl) d_law_1062 ?_
  rintro z2 μ2 ⟨rfl, hM2, k2⟩
  rw [hR] at hM2 ⊢
  have hI2 : Inv R.2 := by rw [← hR]; exact I_run hI
  exact x_icmp_eq 1555 d_law_1065 (by decide) (fun _ => kk R.2 μ2 (hX1.keep k2) hM2 hI2) (fun c => absurd rfl c)
set_option maxHeartbeats 1000000 in
theorem L_gold (l : Launch) (E : x_E) {b L i : Nat} {xs : Nat → Int32} (hL : L ≤ 3072) (hi : i + 6 ≤ L) {g : x_SG} {μ : x_Mem} (hX : XS g μ) (hM : MS g μ) (hI : Inv g) (kk : ∀ (g' : x_SG) (μ' : x_Mem), XS g' μ' → MS g' μ' → Inv g' → x_G l E m_law (x_vL E b L xs) μ' 1555 [(3, .int (nI i)), (2, .ref (E.1 + 41)), (1, .ref (E.1 + 0)), (0, .ref b)] []) : x_G l E m_law (x_vL E b L xs) μ 1070 [(3, .int (nI i)), (2, .ref (E.1 + 41)), (1, .ref (E.1 + 0)), (0, .ref b)] [] := by
  refine x_aload_n 2 d_law_1070 rfl rfl ?_
  refine x_aload_n 3 d_law_1071 rfl rfl ?_
  refine x_iload_n 0 d_law_1072 rfl rfl ?_
  refine x_iconst (x := 1) d_law_1073 (by decide) ?_
  refine x_iadd d_law_1074 ?_
  rw [show nI i + (1 : Int32) = nI (i + 1) from nI_add i 1]
  refine x_sld (e0 := i + 1) (by omega) hL d_law_1075 ?_
  refine x_cvi (k := 0) (as := [.int (xs (i + 1))]) (c_X3_gold l E μ g hX hI (xs (i + 1))) v_X3_gold w_X3_gold q448 o_X rfl ⟨Nat.le_of_ble_eq_true rfl, Nat.le_of_ble_eq_true rfl⟩ rfl (Nat.le_of_ble_eq_true rfl) d_law_1076 ?_
  rintro z1 μ1 ⟨rfl, hX1, k1⟩
  have hM1 := hM.keep k1
  generalize hR : F_gold g (xs (i + 1)) = R at hX1 ⊢
  refine x_aload_n 1 d_law_1079 rfl rfl ?_
  refine x_aload_n 3 d_law_1080 rfl rfl ?_
  refine x_iload_n 0 d_law_1081 rfl rfl ?_
  refine x_iconst (x := 1) d_law_1082 (by decide) ?_
  refine x_iadd d_law_1083 ?_
  rw [show nI i + (1 : Int32) = nI (i + 1) from nI_add i 1]
  refine x_sld (e0 := i + 1) (by omega) hL d_law_1084 ?_
  refine x_cvi (k := 41) (as := [.int (xs (i + 1))]) (c_X4_gold l E μ1 g hM1 hI (xs (i + 1))) v_X4_gold w_X4_gold q993 o_M rfl ⟨Nat.le_of_ble_eq_true rfl, Nat.le_of_ble_eq_true rfl⟩ rfl (Nat.le_of_ble_eq_true rfl) d_law_1085 ?_
  rintro z2 μ2 ⟨rfl, hM2, k2⟩
  rw [hR] at hM2 ⊢
  have hI2 : Inv R.2 := by rw [← hR]; exact I_gold hI (xs (i + 1))
  exact x_icmp_eq 1555 d_law_1088 (by decide) (fun _ => kk R.2 μ2 (hX1.keep k2) hM2 hI2) (fun c => absurd rfl c)
set_option maxHeartbeats 1000000 in
theorem L_odds (l : Launch) (E : x_E) {b L i : Nat} {xs : Nat → Int32} (hL : L ≤ 3072) (hi : i + 6 ≤ L) {g : x_SG} {μ : x_Mem} (hX : XS g μ) (hM : MS g μ) (hI : Inv g) (kk : ∀ (g' : x_SG) (μ' : x_Mem), XS g' μ' → MS g' μ' → Inv g' → x_G l E m_law (x_vL E b L xs) μ' 1555 [(3, .int (nI i)), (2, .ref (E.1 + 41)), (1, .ref (E.1 + 0)), (0, .ref b)] []) : x_G l E m_law (x_vL E b L xs) μ 1093 [(3, .int (nI i)), (2, .ref (E.1 + 41)), (1, .ref (E.1 + 0)), (0, .ref b)] [] := by
  refine x_aload_n 2 d_law_1093 rfl rfl ?_
  refine x_aload_n 3 d_law_1094 rfl rfl ?_
  refine x_iload_n 0 d_law_1095 rfl rfl ?_
  refine x_iconst (x := 1) d_law_1096 (by decide) ?_
  refine x_iadd d_law_1097 ?_
  rw [show nI i + (1 : Int32) = nI (i + 1) from nI_add i 1]
  refine x_sld (e0 := i + 1) (by omega) hL d_law_1098 ?_
  refine x_aload_n 3 d_law_1099 rfl rfl ?_
  refine x_iload_n 0 d_law_1100 rfl rfl ?_
  refine x_iconst (x := 2) d_law_1101 (by decide) ?_
  refine x_iadd d_law_1102 ?_
  rw [show nI i + (2 : Int32) = nI (i + 2) from nI_add i 2]
  refine x_sld (e0 := i + 2) (by omega) hL d_law_1103 ?_
  refine x_cvl (k := 0) (as := [.int (xs (i + 1)), .int (xs (i + 2))]) (c_X3_odds l E μ g hX hI (xs (i + 1)) (xs (i + 2))) v_X3_odds w_X3_odds q457 o_X rfl ⟨Nat.le_of_ble_eq_true rfl, Nat.le_of_ble_eq_true rfl⟩ rfl (Nat.le_of_ble_eq_true rfl) d_law_1104 ?_
  rintro z1 μ1 ⟨rfl, hX1, k1⟩
  have hM1 := hM.keep k1
  generalize hR : F_odds g (xs (i + 1)) (xs (i + 2)) = R at hX1 ⊢
  refine x_aload_n 1 d_law_1107 rfl rfl ?_
  refine x_aload_n 3 d_law_1108 rfl rfl ?_
  refine x_iload_n 0 d_law_1109 rfl rfl ?_
  refine x_iconst (x := 1) d_law_1110 (by decide) ?_
  refine x_iadd d_law_1111 ?_
  rw [show nI i + (1 : Int32) = nI (i + 1) from nI_add i 1]
  refine x_sld (e0 := i + 1) (by omega) hL d_law_1112 ?_
  refine x_aload_n 3 d_law_1113 rfl rfl ?_
  refine x_iload_n 0 d_law_1114 rfl rfl ?_
  refine x_iconst (x := 2) d_law_1115 (by decide) ?_
  refine x_iadd d_law_1116 ?_
  rw [show nI i + (2 : Int32) = nI (i + 2) from nI_add i 2]
  refine x_sld (e0 := i + 2) (by omega) hL d_law_1117 ?_
  refine x_cvl (k := 41) (as := [.int (xs (i + 1)), .int (xs (i + 2))]) (c_X4_odds l E μ1 g hM1 hI (xs (i + 1)) (xs (i + 2))) v_X4_odds w_X4_odds q1002 o_M rfl ⟨Nat.le_of_ble_eq_true rfl, Nat.le_of_ble_eq_true rfl⟩ rfl (Nat.le_of_ble_eq_true rfl) d_law_1118 ?_
  rintro z2 μ2 ⟨rfl, hM2, k2⟩
  rw [hR] at hM2 ⊢
  have hI2 : Inv R.2 := by rw [← hR]; exact I_odds hI (xs (i + 1)) (xs (i + 2))
  refine x_lcmp d_law_1121 ?_
  rw [lcmp_0]
  exact x_if_eq 1555 d_law_1122 (by decide) (fun _ => kk R.2 μ2 (hX1.keep k2) hM2 hI2) (fun c => absurd rfl c)
set_option maxHeartbeats 1000000 in
theorem L_seed (l : Launch) (E : x_E) {b L i : Nat} {xs : Nat → Int32} (hL : L ≤ 3072) (hi : i + 6 ≤ L) {g : x_SG} {μ : x_Mem} (hX : XS g μ) (hM : MS g μ) (hI : Inv g) (kk : ∀ (g' : x_SG) (μ' : x_Mem), XS g' μ' → MS g' μ' → Inv g' → x_G l E m_law (x_vL E b L xs) μ' 1555 [(3, .int (nI i)), (2, .ref (E.1 + 41)), (1, .ref (E.1 + 0)), (0, .ref b)] []) : x_G l E m_law (x_vL E b L xs) μ 1127 [(3, .int (nI i)), (2, .ref (E.1 + 41)), (1, .ref (E.1 + 0)), (0, .ref b)] [] := by
  refine x_aload_n 2 d_law_1127 rfl rfl ?_
  refine x_aload_n 3 d_law_1128 rfl rfl ?_
  refine x_iload_n 0 d_law_1129 rfl rfl ?_
  refine x_iconst (x := 1) d_law_1130 (by decide) ?_
  refine x_iadd d_law_1131 ?_
  rw [show nI i + (1 : Int32) = nI (i + 1) from nI_add i 1]
  refine x_sld (e0 := i + 1) (by omega) hL d_law_1132 ?_
  refine x_cvi (k := 0) (as := [.int (xs (i + 1))]) (c_X3_seed l E μ g hX hI (xs (i + 1))) v_X3_seed w_X3_seed q463 o_X rfl ⟨Nat.le_of_ble_eq_true rfl, Nat.le_of_ble_eq_true rfl⟩ rfl (Nat.le_of_ble_eq_true rfl) d_law_1133 ?_
  rintro z1 μ1 ⟨rfl, hX1, k1⟩
  have hM1 := hM.keep k1
  generalize hR : F_seed g (xs (i + 1)) = R at hX1 ⊢
  refine x_aload_n 1 d_law_1136 rfl rfl ?_
  refine x_aload_n 3 d_law_1137 rfl rfl ?_
  refine x_iload_n 0 d_law_1138 rfl rfl ?_
  refine x_iconst (x := 1) d_law_1139 (by decide) ?_
  refine x_iadd d_law_1140 ?_
  rw [show nI i + (1 : Int32) = nI (i + 1) from nI_add i 1]
  refine x_sld (e0 := i + 1) (by omega) hL d_law_1141 ?_
  refine x_cvi (k := 41) (as := [.int (xs (i + 1))]) (c_X4_seed l E μ1 g hM1 hI (xs (i + 1))) v_X4_seed w_X4_seed q1008 o_M rfl ⟨Nat.le_of_ble_eq_true rfl, Nat.le_of_ble_eq_true rfl⟩ rfl (Nat.le_of_ble_eq_true rfl) d_law_1142 ?_
  rintro z2 μ2 ⟨rfl, hM2, k2⟩
  rw [hR] at hM2 ⊢
  have hI2 : Inv R.2 := by rw [← hR]; exact I_seed hI (xs (i + 1))
  exact x_icmp_eq 1555 d_law_1145 (by decide) (fun _ => kk R.2 μ2 (hX1.keep k2) hM2 hI2) (fun c => absurd rfl c)
set_option maxHeartbeats 1000000 in
theorem L_feed (l : Launch) (E : x_E) {b L i : Nat} {xs : Nat → Int32} (hL : L ≤ 3072) (hi : i + 6 ≤ L) {g : x_SG} {μ : x_Mem} (hX : XS g μ) (hM : MS g μ) (hI : Inv g) (kk : ∀ (g' : x_SG) (μ' : x_Mem), XS g' μ' → MS g' μ' → Inv g' → x_G l E m_law (x_vL E b L xs) μ' 1555 [(3, .int (nI i)), (2, .ref (E.1 + 41)), (1, .ref (E.1 + 0)), (0, .ref b)] []) : x_G l E m_law (x_vL E b L xs) μ 1150 [(3, .int (nI i)), (2, .ref (E.1 + 41)), (1, .ref (E.1 + 0)), (0, .ref b)] [] := by
  refine x_aload_n 2 d_law_1150 rfl rfl ?_
  refine x_aload_n 3 d_law_1151 rfl rfl ?_
  refine x_iload_n 0 d_law_1152 rfl rfl ?_
  refine x_iconst (x := 1) d_law_1153 (by decide) ?_
  refine x_iadd d_law_1154 ?_
  rw [show nI i + (1 : Int32) = nI (i + 1) from nI_add i 1]
  refine x_sld (e0 := i + 1) (by omega) hL d_law_1155 ?_
  refine x_aload_n 3 d_law_1156 rfl rfl ?_
  refine x_iload_n 0 d_law_1157 rfl rfl ?_
  refine x_iconst (x := 2) d_law_1158 (by decide) ?_
  refine x_iadd d_law_1159 ?_
  rw [show nI i + (2 : Int32) = nI (i + 2) from nI_add i 2]
  refine x_sld (e0 := i + 2) (by omega) hL d_law_1160 ?_
  refine x_cvi (k := 0) (as := [.int (xs (i + 1)), .int (xs (i + 2))]) (c_X3_feed l E μ g hX hI (xs (i + 1)) (xs (i + 2))) v_X3_feed w_X3_feed q467 o_X rfl ⟨Nat.le_of_ble_eq_true rfl, Nat.le_of_ble_eq_true rfl⟩ rfl (Nat.le_of_ble_eq_true rfl) d_law_1161 ?_
  rintro z1 μ1 ⟨rfl, hX1, k1⟩
  have hM1 := hM.keep k1
  generalize hR : F_feed g (xs (i + 1)) (xs (i + 2)) = R at hX1 ⊢
  refine x_aload_n 1 d_law_1164 rfl rfl ?_
  refine x_aload_n 3 d_law_1165 rfl rfl ?_
  refine x_iload_n 0 d_law_1166 rfl rfl ?_
  refine x_iconst (x := 1) d_law_1167 (by decide) ?_
  refine x_iadd d_law_1168 ?_
  rw [show nI i + (1 : Int32) = nI (i + 1) from nI_add i 1]
  refine x_sld (e0 := i + 1) (by omega) hL d_law_1169 ?_
  refine x_aload_n 3 d_law_1170 rfl rfl ?_
  refine x_iload_n 0 d_law_1171 rfl rfl ?_
  refine x_iconst (x := 2) d_law_1172 (by decide) ?_
  refine x_iadd d_law_1173 ?_
  rw [show nI i + (2 : Int32) = nI (i + 2) from nI_add i 2]
  refine x_sld (e0 := i + 2) (by omega) hL d_law_1174 ?_
  refine x_cvi (k := 41) (as := [.int (xs (i + 1)), .int (xs (i + 2))]) (c_X4_feed l E μ1 g hM1 hI (xs (i + 1)) (xs (i + 2))) v_X4_feed w_X4_feed q1012 o_M rfl ⟨Nat.le_of_ble_eq_true rfl, Nat.le_of_ble_eq_true rfl⟩ rfl (Nat.le_of_ble_eq_true rfl) d_law_1175 ?_
  rintro z2 μ2 ⟨rfl, hM2, k2⟩
  rw [hR] at hM2 ⊢
  have hI2 : Inv R.2 := by rw [← hR]; exact I_feed hI (xs (i + 1)) (xs (i + 2))
  exact x_icmp_eq 1555 d_law_1178 (by decide) (fun _ => kk R.2 μ2 (hX1.keep k2) hM2 hI2) (fun c => absurd rfl c)
set_option maxHeartbeats 1000000 in
theorem L_wipe (l : Launch) (E : x_E) {b L i : Nat} {xs : Nat → Int32} (hL : L ≤ 3072) (hi : i + 6 ≤ L) {g : x_SG} {μ : x_Mem} (hX : XS g μ) (hM : MS g μ) (hI : Inv g) (kk : ∀ (g' : x_SG) (μ' : x_Mem), XS g' μ' → MS g' μ' → Inv g' → x_G l E m_law (x_vL E b L xs) μ' 1555 [(3, .int (nI i)), (2, .ref (E.1 + 41)), (1, .ref (E.1 + 0)), (0, .ref b)] []) : x_G l E m_law (x_vL E b L xs) μ 1183 [(3, .int (nI i)), (2, .ref (E.1 + 41)), (1, .ref (E.1 + 0)), (0, .ref b)] [] := by
  refine x_aload_n 2 d_law_1183 rfl rfl ?_
  refine x_cvi (k := 0) (as := []) (c_X3_wipe l E μ g hX hI) v_X3_wipe w_X3_wipe q475 o_X rfl ⟨Nat.le_of_ble_eq_true rfl, Nat.le_of_ble_eq_true rfl⟩ rfl (Nat.le_of_ble_eq_true rfl) d_law_1184 ?_
  rintro z1 μ1 ⟨rfl, hX1, k1⟩
  have hM1 := hM.keep k1
  generalize hR : F_wipe g = R at hX1 ⊢
  refine x_aload_n 1 d_law_1187 rfl rfl ?_
  refine x_cvi (k := 41) (as := []) (c_X4_wipe l E μ1 g hM1 hI) v_X4_wipe w_X4_wipe q1016 o_M rfl ⟨Nat.le_of_ble_eq_true rfl, Nat.le_of_ble_eq_true rfl⟩ rfl (Nat.le_of_ble_eq_true rfl) d_law_1188 ?_
  rintro z2 μ2 ⟨rfl, hM2, k2⟩
  rw [hR] at hM2 ⊢
  have hI2 : Inv R.2 := by rw [← hR]; exact I_wipe hI
  exact x_icmp_eq 1555 d_law_1191 (by decide) (fun _ => kk R.2 μ2 (hX1.keep k2) hM2 hI2) (fun c => absurd rfl c)
set_option maxHeartbeats 1000000 in
theorem L_text (l : Launch) (E : x_E) {b L i : Nat} {xs : Nat → Int32} (hL : L ≤ 3072) (hi : i + 6 ≤ L) {g : x_SG} {μ : x_Mem} (hX : XS g μ) (hM : MS g μ) (hI : Inv g) (kk : ∀ (g' : x_SG) (μ' : x_Mem), XS g' μ' → MS g' μ' → Inv g' → x_G l E m_law (x_vL E b L xs) μ' 1555 [(3, .int (nI i)), (2, .ref (E.1 + 41)), (1, .ref (E.1 + 0)), (0, .ref b)] []) : x_G l E m_law (x_vL E b L xs) μ 1196 [(3, .int (nI i)), (2, .ref (E.1 + 41)), (1, .ref (E.1 + 0)), (0, .ref b)] [] := by
  refine x_aload_n 2 d_law_1196 rfl rfl ?_
  refine x_cvi (k := 0) (as := []) (c_X3_text l E μ g hX hI) v_X3_text w_X3_text q479 o_X rfl ⟨Nat.le_of_ble_eq_true rfl, Nat.le_of_ble_eq_true rfl⟩ rfl (Nat.le_of_ble_eq_true rfl) d_law_1197 ?_
  rintro z1 μ1 ⟨rfl, hX1, k1⟩
  have hM1 := hM.keep k1
  generalize hR : F_text g = R at hX1 ⊢
  refine x_aload_n 1 d_law_1200 rfl rfl ?_
  refine x_cvi (k := 41) (as := []) (c_X4_text l E μ1 g hM1 hI) v_X4_text w_X4_text q1020 o_M rfl ⟨Nat.le_of_ble_eq_true rfl, Nat.le_of_ble_eq_true rfl⟩ rfl (Nat.le_of_ble_eq_true rfl) d_law_1201 ?_
  rintro z2 μ2 ⟨rfl, hM2, k2⟩
  rw [hR] at hM2 ⊢
  have hI2 : Inv R.2 := by rw [← hR]; exact I_text hI
  exact x_icmp_eq 1555 d_law_1204 (by decide) (fun _ => kk R.2 μ2 (hX1.keep k2) hM2 hI2) (fun c => absurd rfl c)
set_option maxHeartbeats 1000000 in
theorem L_hold (l : Launch) (E : x_E) {b L i : Nat} {xs : Nat → Int32} (hL : L ≤ 3072) (hi : i + 6 ≤ L) {g : x_SG} {μ : x_Mem} (hX : XS g μ) (hM : MS g μ) (hI : Inv g) (kk : ∀ (g' : x_SG) (μ' : x_Mem), XS g' μ' → MS g' μ' → Inv g' → x_G l E m_law (x_vL E b L xs) μ' 1555 [(3, .int (nI i)), (2, .ref (E.1 + 41)), (1, .ref (E.1 + 0)), (0, .ref b)] []) : x_G l E m_law (x_vL E b L xs) μ 1209 [(3, .int (nI i)), (2, .ref (E.1 + 41)), (1, .ref (E.1 + 0)), (0, .ref b)] [] := by
  refine x_aload_n 2 d_law_1209 rfl rfl ?_
  refine x_aload_n 3 d_law_1210 rfl rfl ?_
  refine x_iload_n 0 d_law_1211 rfl rfl ?_
  refine x_iconst (x := 1) d_law_1212 (by decide) ?_
  refine x_iadd d_law_1213 ?_
  rw [show nI i + (1 : Int32) = nI (i + 1) from nI_add i 1]
  refine x_sld (e0 := i + 1) (by omega) hL d_law_1214 ?_
  refine x_aload_n 3 d_law_1215 rfl rfl ?_
  refine x_iload_n 0 d_law_1216 rfl rfl ?_
  refine x_iconst (x := 2) d_law_1217 (by decide) ?_
  refine x_iadd d_law_1218 ?_
  rw [show nI i + (2 : Int32) = nI (i + 2) from nI_add i 2]
  refine x_sld (e0 := i + 2) (by omega) hL d_law_1219 ?_
  refine x_cvi (k := 0) (as := [.int (xs (i + 1)), .int (xs (i + 2))]) (c_X3_hold l E μ g hX hI (xs (i + 1)) (xs (i + 2))) v_X3_hold w_X3_hold q586 o_X rfl ⟨Nat.le_of_ble_eq_true rfl, Nat.le_of_ble_eq_true rfl⟩ rfl (Nat.le_of_ble_eq_true rfl) d_law_1220 ?_
  rintro z1 μ1 ⟨rfl, hX1, k1⟩
  have hM1 := hM.keep k1
  generalize hR : F_hold g (xs (i + 1)) (xs (i + 2)) = R at hX1 ⊢
  refine x_aload_n 1 d_law_1223 rfl rfl ?_
  refine x_aload_n 3 d_law_1224 rfl rfl ?_
  refine x_iload_n 0 d_law_1225 rfl rfl ?_
  refine x_iconst (x := 1) d_law_1226 (by decide) ?_
  refine x_iadd d_law_1227 ?_
  rw [show nI i + (1 : Int32) = nI (i + 1) from nI_add i 1]
  refine x_sld (e0 := i + 1) (by omega) hL d_law_1228 ?_
  refine x_aload_n 3 d_law_1229 rfl rfl ?_
  refine x_iload_n 0 d_law_1230 rfl rfl ?_
  refine x_iconst (x := 2) d_law_1231 (by decide) ?_
  refine x_iadd d_law_1232 ?_
  rw [show nI i + (2 : Int32) = nI (i + 2) from nI_add i 2]
  refine x_sld (e0 := i + 2) (by omega) hL d_law_1233 ?_
  refine x_cvi (k := 41) (as := [.int (xs (i + 1)), .int (xs (i + 2))]) (c_X4_hold l E μ1 g hM1 hI (xs (i + 1)) (xs (i + 2))) v_X4_hold w_X4_hold q1066 o_M rfl ⟨Nat.le_of_ble_eq_true rfl, Nat.le_of_ble_eq_true rfl⟩ rfl (Nat.le_of_ble_eq_true rfl) d_law_1234 ?_
  rintro z2 μ2 ⟨rfl, hM2, k2⟩
  rw [hR] at hM2 ⊢
  have hI2 : Inv R.2 := by rw [← hR]; exact I_hold hI (xs (i + 1)) (xs (i + 2))
  exact x_icmp_eq 1555 d_law_1237 (by decide) (fun _ => kk R.2 μ2 (hX1.keep k2) hM2 hI2) (fun c => absurd rfl c)
set_option maxHeartbeats 1000000 in
theorem L_as (l : Launch) (E : x_E) {b L i : Nat} {xs : Nat → Int32} (hL : L ≤ 3072) (hi : i + 6 ≤ L) {g : x_SG} {μ : x_Mem} (hX : XS g μ) (hM : MS g μ) (hI : Inv g) (kk : ∀ (g' : x_SG) (μ' : x_Mem), XS g' μ' → MS g' μ' → Inv g' → x_G l E m_law (x_vL E b L xs) μ' 1555 [(3, .int (nI i)), (2, .ref (E.1 + 41)), (1, .ref (E.1 + 0)), (0, .ref b)] []) : x_G l E m_law (x_vL E b L xs) μ 1242 [(3, .int (nI i)), (2, .ref (E.1 + 41)), (1, .ref (E.1 + 0)), (0, .ref b)] [] := by
  refine x_aload_n 2 d_law_1242 rfl rfl ?_
  refine x_aload_n 3 d_law_1243 rfl rfl ?_
  refine x_iload_n 0 d_law_1244 rfl rfl ?_
  refine x_iconst (x := 1) d_law_1245 (by decide) ?_
  refine x_iadd d_law_1246 ?_
  rw [show nI i + (1 : Int32) = nI (i + 1) from nI_add i 1]
  refine x_sld (e0 := i + 1) (by omega) hL d_law_1247 ?_
  refine x_aload_n 3 d_law_1248 rfl rfl ?_
  refine x_iload_n 0 d_law_1249 rfl rfl ?_
  refine x_iconst (x := 2) d_law_1250 (by decide) ?_
  refine x_iadd d_law_1251 ?_
  rw [show nI i + (2 : Int32) = nI (i + 2) from nI_add i 2]
  refine x_sld (e0 := i + 2) (by omega) hL d_law_1252 ?_
  refine x_cvi (k := 0) (as := [.int (xs (i + 1)), .int (xs (i + 2))]) (c_X3_as l E μ g hX hI (xs (i + 1)) (xs (i + 2))) v_X3_as w_X3_as q593 o_X rfl ⟨Nat.le_of_ble_eq_true rfl, Nat.le_of_ble_eq_true rfl⟩ rfl (Nat.le_of_ble_eq_true rfl) d_law_1253 ?_
  rintro z1 μ1 ⟨rfl, hX1, k1⟩
  have hM1 := hM.keep k1
  generalize hR : F_as g (xs (i + 1)) (xs (i + 2)) = R at hX1 ⊢
  refine x_aload_n 1 d_law_1256 rfl rfl ?_
  refine x_aload_n 3 d_law_1257 rfl rfl ?_
  refine x_iload_n 0 d_law_1258 rfl rfl ?_
  refine x_iconst (x := 1) d_law_1259 (by decide) ?_
  refine x_iadd d_law_1260 ?_
  rw [show nI i + (1 : Int32) = nI (i + 1) from nI_add i 1]
  refine x_sld (e0 := i + 1) (by omega) hL d_law_1261 ?_
  refine x_aload_n 3 d_law_1262 rfl rfl ?_
  refine x_iload_n 0 d_law_1263 rfl rfl ?_
  refine x_iconst (x := 2) d_law_1264 (by decide) ?_
  refine x_iadd d_law_1265 ?_
  rw [show nI i + (2 : Int32) = nI (i + 2) from nI_add i 2]
  refine x_sld (e0 := i + 2) (by omega) hL d_law_1266 ?_
  refine x_cvi (k := 41) (as := [.int (xs (i + 1)), .int (xs (i + 2))]) (c_X4_as l E μ1 g hM1 hI (xs (i + 1)) (xs (i + 2))) v_X4_as w_X4_as q1070 o_M rfl ⟨Nat.le_of_ble_eq_true rfl, Nat.le_of_ble_eq_true rfl⟩ rfl (Nat.le_of_ble_eq_true rfl) d_law_1267 ?_
  rintro z2 μ2 ⟨rfl, hM2, k2⟩
  rw [hR] at hM2 ⊢
  have hI2 : Inv R.2 := by rw [← hR]; exact I_as hI (xs (i + 1)) (xs (i + 2))
  exact x_icmp_eq 1555 d_law_1270 (by decide) (fun _ => kk R.2 μ2 (hX1.keep k2) hM2 hI2) (fun c => absurd rfl c)
set_option maxHeartbeats 1000000 in
theorem L_sheet (l : Launch) (E : x_E) {b L i : Nat} {xs : Nat → Int32} (hL : L ≤ 3072) (hi : i + 6 ≤ L) {g : x_SG} {μ : x_Mem} (hX : XS g μ) (hM : MS g μ) (hI : Inv g) (kk : ∀ (g' : x_SG) (μ' : x_Mem), XS g' μ' → MS g' μ' → Inv g' → x_G l E m_law (x_vL E b L xs) μ' 1555 [(3, .int (nI i)), (2, .ref (E.1 + 41)), (1, .ref (E.1 + 0)), (0, .ref b)] []) : x_G l E m_law (x_vL E b L xs) μ 1275 [(3, .int (nI i)), (2, .ref (E.1 + 41)), (1, .ref (E.1 + 0)), (0, .ref b)] [] := by
  refine x_aload_n 2 d_law_1275 rfl rfl ?_
  refine x_aload_n 3 d_law_1276 rfl rfl ?_
  refine x_iload_n 0 d_law_1277 rfl rfl ?_
  refine x_iconst (x := 1) d_law_1278 (by decide) ?_
  refine x_iadd d_law_1279 ?_
  rw [show nI i + (1 : Int32) = nI (i + 1) from nI_add i 1]
  refine x_sld (e0 := i + 1) (by omega) hL d_law_1280 ?_
  refine x_aload_n 3 d_law_1281 rfl rfl ?_
  refine x_iload_n 0 d_law_1282 rfl rfl ?_
  refine x_iconst (x := 2) d_law_1283 (by decide) ?_
  refine x_iadd d_law_1284 ?_
  rw [show nI i + (2 : Int32) = nI (i + 2) from nI_add i 2]
  refine x_sld (e0 := i + 2) (by omega) hL d_law_1285 ?_
  refine x_aload_n 3 d_law_1286 rfl rfl ?_
  refine x_iload_n 0 d_law_1287 rfl rfl ?_
  refine x_iconst (x := 3) d_law_1288 (by decide) ?_
  refine x_iadd d_law_1289 ?_
  rw [show nI i + (3 : Int32) = nI (i + 3) from nI_add i 3]
  refine x_sld (e0 := i + 3) (by omega) hL d_law_1290 ?_
  refine x_cvi (k := 0) (as := [.int (xs (i + 1)), .int (xs (i + 2)), .int (xs (i + 3))]) (c_X3_sheet l E μ g hX hI (xs (i + 1)) (xs (i + 2)) (xs (i + 3))) v_X3_sheet w_X3_sheet q603 o_X rfl ⟨Nat.le_of_ble_eq_true rfl, Nat.le_of_ble_eq_true rfl⟩ rfl (Nat.le_of_ble_eq_true rfl) d_law_1291 ?_
  rintro z1 μ1 ⟨rfl, hX1, k1⟩
  have hM1 := hM.keep k1
  generalize hR : F_sheet g (xs (i + 1)) (xs (i + 2)) (xs (i + 3)) = R at hX1 ⊢
  refine x_aload_n 1 d_law_1294 rfl rfl ?_
  refine x_aload_n 3 d_law_1295 rfl rfl ?_
  refine x_iload_n 0 d_law_1296 rfl rfl ?_
  refine x_iconst (x := 1) d_law_1297 (by decide) ?_
  refine x_iadd d_law_1298 ?_
  rw [show nI i + (1 : Int32) = nI (i + 1) from nI_add i 1]
  refine x_sld (e0 := i + 1) (by omega) hL d_law_1299 ?_
  refine x_aload_n 3 d_law_1300 rfl rfl ?_
  refine x_iload_n 0 d_law_1301 rfl rfl ?_
  refine x_iconst (x := 2) d_law_1302 (by decide) ?_
  refine x_iadd d_law_1303 ?_
  rw [show nI i + (2 : Int32) = nI (i + 2) from nI_add i 2]
  refine x_sld (e0 := i + 2) (by omega) hL d_law_1304 ?_
  refine x_aload_n 3 d_law_1305 rfl rfl ?_
  refine x_iload_n 0 d_law_1306 rfl rfl ?_
  refine x_iconst (x := 3) d_law_1307 (by decide) ?_
  refine x_iadd d_law_1308 ?_
  rw [show nI i + (3 : Int32) = nI (i + 3) from nI_add i 3]
  refine x_sld (e0 := i + 3) (by omega) hL d_law_1309 ?_
  refine x_cvi (k := 41) (as := [.int (xs (i + 1)), .int (xs (i + 2)), .int (xs (i + 3))]) (c_X4_sheet l E μ1 g hM1 hI (xs (i + 1)) (xs (i + 2)) (xs (i + 3))) v_X4_sheet w_X4_sheet q1078 o_M rfl ⟨Nat.le_of_ble_eq_true rfl, Nat.le_of_ble_eq_true rfl⟩ rfl (Nat.le_of_ble_eq_true rfl) d_law_1310 ?_
  rintro z2 μ2 ⟨rfl, hM2, k2⟩
  rw [hR] at hM2 ⊢
  have hI2 : Inv R.2 := by rw [← hR]; exact I_sheet hI (xs (i + 1)) (xs (i + 2)) (xs (i + 3))
  exact x_icmp_eq 1555 d_law_1313 (by decide) (fun _ => kk R.2 μ2 (hX1.keep k2) hM2 hI2) (fun c => absurd rfl c)
set_option maxHeartbeats 1000000 in
theorem L_write (l : Launch) (E : x_E) {b L i : Nat} {xs : Nat → Int32} (hL : L ≤ 3072) (hi : i + 6 ≤ L) {g : x_SG} {μ : x_Mem} (hX : XS g μ) (hM : MS g μ) (hI : Inv g) (kk : ∀ (g' : x_SG) (μ' : x_Mem), XS g' μ' → MS g' μ' → Inv g' → x_G l E m_law (x_vL E b L xs) μ' 1555 [(3, .int (nI i)), (2, .ref (E.1 + 41)), (1, .ref (E.1 + 0)), (0, .ref b)] []) : x_G l E m_law (x_vL E b L xs) μ 1318 [(3, .int (nI i)), (2, .ref (E.1 + 41)), (1, .ref (E.1 + 0)), (0, .ref b)] [] := by
  refine x_aload_n 2 d_law_1318 rfl rfl ?_
  refine x_aload_n 3 d_law_1319 rfl rfl ?_
  refine x_iload_n 0 d_law_1320 rfl rfl ?_
  refine x_iconst (x := 1) d_law_1321 (by decide) ?_
  refine x_iadd d_law_1322 ?_
  rw [show nI i + (1 : Int32) = nI (i + 1) from nI_add i 1]
  refine x_sld (e0 := i + 1) (by omega) hL d_law_1323 ?_
  refine x_aload_n 3 d_law_1324 rfl rfl ?_
  refine x_iload_n 0 d_law_1325 rfl rfl ?_
  refine x_iconst (x := 2) d_law_1326 (by decide) ?_
  refine x_iadd d_law_1327 ?_
  rw [show nI i + (2 : Int32) = nI (i + 2) from nI_add i 2]
  refine x_sld (e0 := i + 2) (by omega) hL d_law_1328 ?_
  refine x_aload_n 3 d_law_1329 rfl rfl ?_
  refine x_iload_n 0 d_law_1330 rfl rfl ?_
  refine x_iconst (x := 3) d_law_1331 (by decide) ?_
  refine x_iadd d_law_1332 ?_
  rw [show nI i + (3 : Int32) = nI (i + 3) from nI_add i 3]
  refine x_sld (e0 := i + 3) (by omega) hL d_law_1333 ?_
  refine x_cvi (k := 0) (as := [.int (xs (i + 1)), .int (xs (i + 2)), .int (xs (i + 3))]) (c_X3_write l E μ g hX hI (xs (i + 1)) (xs (i + 2)) (xs (i + 3))) v_X3_write w_X3_write q613 o_X rfl ⟨Nat.le_of_ble_eq_true rfl, Nat.le_of_ble_eq_true rfl⟩ rfl (Nat.le_of_ble_eq_true rfl) d_law_1334 ?_
  rintro z1 μ1 ⟨rfl, hX1, k1⟩
  have hM1 := hM.keep k1
  generalize hR : F_write g (xs (i + 1)) (xs (i + 2)) (xs (i + 3)) = R at hX1 ⊢
  refine x_aload_n 1 d_law_1337 rfl rfl ?_
  refine x_aload_n 3 d_law_1338 rfl rfl ?_
  refine x_iload_n 0 d_law_1339 rfl rfl ?_
  refine x_iconst (x := 1) d_law_1340 (by decide) ?_
  refine x_iadd d_law_1341 ?_
  rw [show nI i + (1 : Int32) = nI (i + 1) from nI_add i 1]
  refine x_sld (e0 := i + 1) (by omega) hL d_law_1342 ?_
  refine x_aload_n 3 d_law_1343 rfl rfl ?_
  refine x_iload_n 0 d_law_1344 rfl rfl ?_
  refine x_iconst (x := 2) d_law_1345 (by decide) ?_
  refine x_iadd d_law_1346 ?_
  rw [show nI i + (2 : Int32) = nI (i + 2) from nI_add i 2]
  refine x_sld (e0 := i + 2) (by omega) hL d_law_1347 ?_
  refine x_aload_n 3 d_law_1348 rfl rfl ?_
  refine x_iload_n 0 d_law_1349 rfl rfl ?_
  refine x_iconst (x := 3) d_law_1350 (by decide) ?_
  refine x_iadd d_law_1351 ?_
  rw [show nI i + (3 : Int32) = nI (i + 3) from nI_add i 3]
  refine x_sld (e0 := i + 3) (by omega) hL d_law_1352 ?_
  refine x_cvi (k := 41) (as := [.int (xs (i + 1)), .int (xs (i + 2)), .int (xs (i + 3))]) (c_X4_write l E μ1 g hM1 hI (xs (i + 1)) (xs (i + 2)) (xs (i + 3))) v_X4_write w_X4_write q1083 o_M rfl ⟨Nat.le_of_ble_eq_true rfl, Nat.le_of_ble_eq_true rfl⟩ rfl (Nat.le_of_ble_eq_true rfl) d_law_1353 ?_
  rintro z2 μ2 ⟨rfl, hM2, k2⟩
  rw [hR] at hM2 ⊢
  have hI2 : Inv R.2 := by rw [← hR]; exact I_write hI (xs (i + 1)) (xs (i + 2)) (xs (i + 3))
  exact x_icmp_eq 1555 d_law_1356 (by decide) (fun _ => kk R.2 μ2 (hX1.keep k2) hM2 hI2) (fun c => absurd rfl c)
set_option maxHeartbeats 1000000 in
theorem L_copy (l : Launch) (E : x_E) {b L i : Nat} {xs : Nat → Int32} (hL : L ≤ 3072) (hi : i + 6 ≤ L) {g : x_SG} {μ : x_Mem} (hX : XS g μ) (hM : MS g μ) (hI : Inv g) (kk : ∀ (g' : x_SG) (μ' : x_Mem), XS g' μ' → MS g' μ' → Inv g' → x_G l E m_law (x_vL E b L xs) μ' 1555 [(3, .int (nI i)), (2, .ref (E.1 + 41)), (1, .ref (E.1 + 0)), (0, .ref b)] []) : x_G l E m_law (x_vL E b L xs) μ 1361 [(3, .int (nI i)), (2, .ref (E.1 + 41)), (1, .ref (E.1 + 0)), (0, .ref b)] [] := by
  refine x_aload_n 2 d_law_1361 rfl rfl ?_
  refine x_aload_n 3 d_law_1362 rfl rfl ?_
  refine x_iload_n 0 d_law_1363 rfl rfl ?_
  refine x_iconst (x := 1) d_law_1364 (by decide) ?_
  refine x_iadd d_law_1365 ?_
  rw [show nI i + (1 : Int32) = nI (i + 1) from nI_add i 1]
  refine x_sld (e0 := i + 1) (by omega) hL d_law_1366 ?_
  refine x_aload_n 3 d_law_1367 rfl rfl ?_
  refine x_iload_n 0 d_law_1368 rfl rfl ?_
  refine x_iconst (x := 2) d_law_1369 (by decide) ?_
  refine x_iadd d_law_1370 ?_
  rw [show nI i + (2 : Int32) = nI (i + 2) from nI_add i 2]
  refine x_sld (e0 := i + 2) (by omega) hL d_law_1371 ?_
  refine x_aload_n 3 d_law_1372 rfl rfl ?_
  refine x_iload_n 0 d_law_1373 rfl rfl ?_
  refine x_iconst (x := 3) d_law_1374 (by decide) ?_
  refine x_iadd d_law_1375 ?_
  rw [show nI i + (3 : Int32) = nI (i + 3) from nI_add i 3]
  refine x_sld (e0 := i + 3) (by omega) hL d_law_1376 ?_
  refine x_aload_n 3 d_law_1377 rfl rfl ?_
  refine x_iload_n 0 d_law_1378 rfl rfl ?_
  refine x_iconst (x := 4) d_law_1379 (by decide) ?_
  refine x_iadd d_law_1380 ?_
  rw [show nI i + (4 : Int32) = nI (i + 4) from nI_add i 4]
  refine x_sld (e0 := i + 4) (by omega) hL d_law_1381 ?_
  refine x_aload_n 3 d_law_1382 rfl rfl ?_
  refine x_iload_n 0 d_law_1383 rfl rfl ?_
  refine x_iconst (x := 5) d_law_1384 (by decide) ?_
  refine x_iadd d_law_1385 ?_
  rw [show nI i + (5 : Int32) = nI (i + 5) from nI_add i 5]
  refine x_sld (e0 := i + 5) (by omega) hL d_law_1386 ?_
  refine x_cvi (k := 0) (as := [.int (xs (i + 1)), .int (xs (i + 2)), .int (xs (i + 3)), .int (xs (i + 4)), .int (xs (i + 5))]) (c_X3_copy l E μ g hX hI (xs (i + 1)) (xs (i + 2)) (xs (i + 3)) (xs (i + 4)) (xs (i + 5))) v_X3_copy w_X3_copy q621 o_X rfl ⟨Nat.le_of_ble_eq_true rfl, Nat.le_of_ble_eq_true rfl⟩ rfl (Nat.le_of_ble_eq_true rfl) d_law_1387 ?_
  rintro z1 μ1 ⟨rfl, hX1, k1⟩
  have hM1 := hM.keep k1
  generalize hR : F_copy g (xs (i + 1)) (xs (i + 2)) (xs (i + 3)) (xs (i + 4)) (xs (i + 5)) = R at hX1 ⊢
  refine x_aload_n 1 d_law_1390 rfl rfl ?_
  refine x_aload_n 3 d_law_1391 rfl rfl ?_
  refine x_iload_n 0 d_law_1392 rfl rfl ?_
  refine x_iconst (x := 1) d_law_1393 (by decide) ?_
  refine x_iadd d_law_1394 ?_
  rw [show nI i + (1 : Int32) = nI (i + 1) from nI_add i 1]
  refine x_sld (e0 := i + 1) (by omega) hL d_law_1395 ?_
  refine x_aload_n 3 d_law_1396 rfl rfl ?_
  refine x_iload_n 0 d_law_1397 rfl rfl ?_
  refine x_iconst (x := 2) d_law_1398 (by decide) ?_
  refine x_iadd d_law_1399 ?_
  rw [show nI i + (2 : Int32) = nI (i + 2) from nI_add i 2]
  refine x_sld (e0 := i + 2) (by omega) hL d_law_1400 ?_
  refine x_aload_n 3 d_law_1401 rfl rfl ?_
  refine x_iload_n 0 d_law_1402 rfl rfl ?_
  refine x_iconst (x := 3) d_law_1403 (by decide) ?_
  refine x_iadd d_law_1404 ?_
  rw [show nI i + (3 : Int32) = nI (i + 3) from nI_add i 3]
  refine x_sld (e0 := i + 3) (by omega) hL d_law_1405 ?_
  refine x_aload_n 3 d_law_1406 rfl rfl ?_
  refine x_iload_n 0 d_law_1407 rfl rfl ?_
  refine x_iconst (x := 4) d_law_1408 (by decide) ?_
  refine x_iadd d_law_1409 ?_
  rw [show nI i + (4 : Int32) = nI (i + 4) from nI_add i 4]
  refine x_sld (e0 := i + 4) (by omega) hL d_law_1410 ?_
  refine x_aload_n 3 d_law_1411 rfl rfl ?_
  refine x_iload_n 0 d_law_1412 rfl rfl ?_
  refine x_iconst (x := 5) d_law_1413 (by decide) ?_
  refine x_iadd d_law_1414 ?_
  rw [show nI i + (5 : Int32) = nI (i + 5) from nI_add i 5]
  refine x_sld (e0 := i + 5) (by omega) hL d_law_1415 ?_
  refine x_cvi (k := 41) (as := [.int (xs (i + 1)), .int (xs (i + 2)), .int (xs (i + 3)), .int (xs (i + 4)), .int (xs (i + 5))]) (c_X4_copy l E μ1 g hM1 hI (xs (i + 1)) (xs (i + 2)) (xs (i + 3)) (xs (i + 4)) (xs (i + 5))) v_X4_copy w_X4_copy q1087 o_M rfl ⟨Nat.le_of_ble_eq_true rfl, Nat.le_of_ble_eq_true rfl⟩ rfl (Nat.le_of_ble_eq_true rfl) d_law_1416 ?_
  rintro z2 μ2 ⟨rfl, hM2, k2⟩
  rw [hR] at hM2 ⊢
  have hI2 : Inv R.2 := by rw [← hR]; exact I_copy hI (xs (i + 1)) (xs (i + 2)) (xs (i + 3)) (xs (i + 4)) (xs (i + 5))
  exact x_icmp_eq 1555 d_law_1419 (by decide) (fun _ => kk R.2 μ2 (hX1.keep k2) hM2 hI2) (fun c => absurd rfl c)
set_option maxHeartbeats 1000000 in
theorem L_load (l : Launch) (E : x_E) {b L i : Nat} {xs : Nat → Int32} (hL : L ≤ 3072) (hi : i + 6 ≤ L) {g : x_SG} {μ : x_Mem} (hX : XS g μ) (hM : MS g μ) (hI : Inv g) (kk : ∀ (g' : x_SG) (μ' : x_Mem), XS g' μ' → MS g' μ' → Inv g' → x_G l E m_law (x_vL E b L xs) μ' 1555 [(3, .int (nI i)), (2, .ref (E.1 + 41)), (1, .ref (E.1 + 0)), (0, .ref b)] []) : x_G l E m_law (x_vL E b L xs) μ 1424 [(3, .int (nI i)), (2, .ref (E.1 + 41)), (1, .ref (E.1 + 0)), (0, .ref b)] [] := by
  refine x_aload_n 2 d_law_1424 rfl rfl ?_
  refine x_aload_n 3 d_law_1425 rfl rfl ?_
  refine x_iload_n 0 d_law_1426 rfl rfl ?_
  refine x_iconst (x := 1) d_law_1427 (by decide) ?_
  refine x_iadd d_law_1428 ?_
  rw [show nI i + (1 : Int32) = nI (i + 1) from nI_add i 1]
  refine x_sld (e0 := i + 1) (by omega) hL d_law_1429 ?_
  refine x_cvi (k := 0) (as := [.int (xs (i + 1))]) (c_X3_load l E μ g hX hI (xs (i + 1))) v_X3_load w_X3_load q630 o_X rfl ⟨Nat.le_of_ble_eq_true rfl, Nat.le_of_ble_eq_true rfl⟩ rfl (Nat.le_of_ble_eq_true rfl) d_law_1430 ?_
  rintro z1 μ1 ⟨rfl, hX1, k1⟩
  have hM1 := hM.keep k1
  generalize hR : F_load g (xs (i + 1)) = R at hX1 ⊢
  refine x_aload_n 1 d_law_1433 rfl rfl ?_
  refine x_aload_n 3 d_law_1434 rfl rfl ?_
  refine x_iload_n 0 d_law_1435 rfl rfl ?_
  refine x_iconst (x := 1) d_law_1436 (by decide) ?_
  refine x_iadd d_law_1437 ?_
  rw [show nI i + (1 : Int32) = nI (i + 1) from nI_add i 1]
  refine x_sld (e0 := i + 1) (by omega) hL d_law_1438 ?_
  refine x_cvi (k := 41) (as := [.int (xs (i + 1))]) (c_X4_load l E μ1 g hM1 hI (xs (i + 1))) v_X4_load w_X4_load q1095 o_M rfl ⟨Nat.le_of_ble_eq_true rfl, Nat.le_of_ble_eq_true rfl⟩ rfl (Nat.le_of_ble_eq_true rfl) d_law_1439 ?_
  rintro z2 μ2 ⟨rfl, hM2, k2⟩
  rw [hR] at hM2 ⊢
  have hI2 : Inv R.2 := by rw [← hR]; exact I_load hI (xs (i + 1))
  exact x_icmp_eq 1555 d_law_1442 (by decide) (fun _ => kk R.2 μ2 (hX1.keep k2) hM2 hI2) (fun c => absurd rfl c)
set_option maxHeartbeats 1000000 in
theorem L_judge (l : Launch) (E : x_E) {b L i : Nat} {xs : Nat → Int32} (hL : L ≤ 3072) (hi : i + 6 ≤ L) {g : x_SG} {μ : x_Mem} (hX : XS g μ) (hM : MS g μ) (hI : Inv g) (kk : ∀ (g' : x_SG) (μ' : x_Mem), XS g' μ' → MS g' μ' → Inv g' → x_G l E m_law (x_vL E b L xs) μ' 1555 [(3, .int (nI i)), (2, .ref (E.1 + 41)), (1, .ref (E.1 + 0)), (0, .ref b)] []) : x_G l E m_law (x_vL E b L xs) μ 1447 [(3, .int (nI i)), (2, .ref (E.1 + 41)), (1, .ref (E.1 + 0)), (0, .ref b)] [] := by
  refine x_aload_n 2 d_law_1447 rfl rfl ?_
  refine x_aload_n 3 d_law_1448 rfl rfl ?_
  refine x_iload_n 0 d_law_1449 rfl rfl ?_
  refine x_iconst (x := 1) d_law_1450 (by decide) ?_
  refine x_iadd d_law_1451 ?_
  rw [show nI i + (1 : Int32) = nI (i + 1) from nI_add i 1]
  refine x_sld (e0 := i + 1) (by omega) hL d_law_1452 ?_
  refine x_cvi (k := 0) (as := [.int (xs (i + 1))]) (c_X3_judge l E μ g hX hI (xs (i + 1))) v_X3_judge w_X3_judge q634 o_X rfl ⟨Nat.le_of_ble_eq_true rfl, Nat.le_of_ble_eq_true rfl⟩ rfl (Nat.le_of_ble_eq_true rfl) d_law_1453 ?_
  rintro z1 μ1 ⟨rfl, hX1, k1⟩
  have hM1 := hM.keep k1
  generalize hR : F_judge g (xs (i + 1)) = R at hX1 ⊢
  refine x_aload_n 1 d_law_1456 rfl rfl ?_
  refine x_aload_n 3 d_law_1457 rfl rfl ?_
  refine x_iload_n 0 d_law_1458 rfl rfl ?_
  refine x_iconst (x := 1) d_law_1459 (by decide) ?_
  refine x_iadd d_law_1460 ?_
  rw [show nI i + (1 : Int32) = nI (i + 1) from nI_add i 1]
  refine x_sld (e0 := i + 1) (by omega) hL d_law_1461 ?_
  refine x_cvi (k := 41) (as := [.int (xs (i + 1))]) (c_X4_judge l E μ1 g hM1 hI (xs (i + 1))) v_X4_judge w_X4_judge q1099 o_M rfl ⟨Nat.le_of_ble_eq_true rfl, Nat.le_of_ble_eq_true rfl⟩ rfl (Nat.le_of_ble_eq_true rfl) d_law_1462 ?_
  rintro z2 μ2 ⟨rfl, hM2, k2⟩
  rw [hR] at hM2 ⊢
  have hI2 : Inv R.2 := by rw [← hR]; exact I_judge hI (xs (i + 1))
  exact x_icmp_eq 1555 d_law_1465 (by decide) (fun _ => kk R.2 μ2 (hX1.keep k2) hM2 hI2) (fun c => absurd rfl c)
set_option maxHeartbeats 1000000 in
theorem L_image (l : Launch) (E : x_E) {b L i : Nat} {xs : Nat → Int32} (hL : L ≤ 3072) (hi : i + 6 ≤ L) {g : x_SG} {μ : x_Mem} (hX : XS g μ) (hM : MS g μ) (hI : Inv g) (kk : ∀ (g' : x_SG) (μ' : x_Mem), XS g' μ' → MS g' μ' → Inv g' → x_G l E m_law (x_vL E b L xs) μ' 1555 [(3, .int (nI i)), (2, .ref (E.1 + 41)), (1, .ref (E.1 + 0)), (0, .ref b)] []) : x_G l E m_law (x_vL E b L xs) μ 1470 [(3, .int (nI i)), (2, .ref (E.1 + 41)), (1, .ref (E.1 + 0)), (0, .ref b)] [] := by
  refine x_aload_n 2 d_law_1470 rfl rfl ?_
  refine x_cvi (k := 0) (as := []) (c_X3_image l E μ g hX hI) v_X3_image w_X3_image q638 o_X rfl ⟨Nat.le_of_ble_eq_true rfl, Nat.le_of_ble_eq_true rfl⟩ rfl (Nat.le_of_ble_eq_true rfl) d_law_1471 ?_
  rintro z1 μ1 ⟨rfl, hX1, k1⟩
  have hM1 := hM.keep k1
  generalize hR : F_image g = R at hX1 ⊢
  refine x_aload_n 1 d_law_1474 rfl rfl ?_
  refine x_cvi (k := 41) (as := []) (c_X4_image l E μ1 g hM1 hI) v_X4_image w_X4_image q1103 o_M rfl ⟨Nat.le_of_ble_eq_true rfl, Nat.le_of_ble_eq_true rfl⟩ rfl (Nat.le_of_ble_eq_true rfl) d_law_1475 ?_
  rintro z2 μ2 ⟨rfl, hM2, k2⟩
  rw [hR] at hM2 ⊢
  have hI2 : Inv R.2 := by rw [← hR]; exact I_image hI
  exact x_icmp_eq 1555 d_law_1478 (by decide) (fun _ => kk R.2 μ2 (hX1.keep k2) hM2 hI2) (fun c => absurd rfl c)
set_option maxHeartbeats 1000000 in
theorem L_undo (l : Launch) (E : x_E) {b L i : Nat} {xs : Nat → Int32} (hL : L ≤ 3072) (hi : i + 6 ≤ L) {g : x_SG} {μ : x_Mem} (hX : XS g μ) (hM : MS g μ) (hI : Inv g) (kk : ∀ (g' : x_SG) (μ' : x_Mem), XS g' μ' → MS g' μ' → Inv g' → x_G l E m_law (x_vL E b L xs) μ' 1555 [(3, .int (nI i)), (2, .ref (E.1 + 41)), (1, .ref (E.1 + 0)), (0, .ref b)] []) : x_G l E m_law (x_vL E b L xs) μ 1483 [(3, .int (nI i)), (2, .ref (E.1 + 41)), (1, .ref (E.1 + 0)), (0, .ref b)] [] := by
  refine x_aload_n 2 d_law_1483 rfl rfl ?_
  refine x_cvi (k := 0) (as := []) (c_X3_undo l E μ g hX hI) v_X3_undo w_X3_undo q642 o_X rfl ⟨Nat.le_of_ble_eq_true rfl, Nat.le_of_ble_eq_true rfl⟩ rfl (Nat.le_of_ble_eq_true rfl) d_law_1484 ?_
  rintro z1 μ1 ⟨rfl, hX1, k1⟩
  have hM1 := hM.keep k1
  generalize hR : F_undo g = R at hX1 ⊢
  refine x_aload_n 1 d_law_1487 rfl rfl ?_
  refine x_cvi (k := 41) (as := []) (c_X4_undo l E μ1 g hM1 hI) v_X4_undo w_X4_undo q1107 o_M rfl ⟨Nat.le_of_ble_eq_true rfl, Nat.le_of_ble_eq_true rfl⟩ rfl (Nat.le_of_ble_eq_true rfl) d_law_1488 ?_
  rintro z2 μ2 ⟨rfl, hM2, k2⟩
  rw [hR] at hM2 ⊢
  have hI2 : Inv R.2 := by rw [← hR]; exact I_undo hI
  exact x_icmp_eq 1555 d_law_1491 (by decide) (fun _ => kk R.2 μ2 (hX1.keep k2) hM2 hI2) (fun c => absurd rfl c)
set_option maxHeartbeats 1000000 in
theorem L_tear (l : Launch) (E : x_E) {b L i : Nat} {xs : Nat → Int32} (hL : L ≤ 3072) (hi : i + 6 ≤ L) {g : x_SG} {μ : x_Mem} (hX : XS g μ) (hM : MS g μ) (hI : Inv g) (kk : ∀ (g' : x_SG) (μ' : x_Mem), XS g' μ' → MS g' μ' → Inv g' → x_G l E m_law (x_vL E b L xs) μ' 1555 [(3, .int (nI i)), (2, .ref (E.1 + 41)), (1, .ref (E.1 + 0)), (0, .ref b)] []) : x_G l E m_law (x_vL E b L xs) μ 1496 [(3, .int (nI i)), (2, .ref (E.1 + 41)), (1, .ref (E.1 + 0)), (0, .ref b)] [] := by
  refine x_aload_n 2 d_law_1496 rfl rfl ?_
  refine x_cvi (k := 0) (as := []) (c_X3_tear l E μ g hX hI) v_X3_tear w_X3_tear q646 o_X rfl ⟨Nat.le_of_ble_eq_true rfl, Nat.le_of_ble_eq_true rfl⟩ rfl (Nat.le_of_ble_eq_true rfl) d_law_1497 ?_
  rintro z1 μ1 ⟨rfl, hX1, k1⟩
  have hM1 := hM.keep k1
  generalize hR : F_tear g = R at hX1 ⊢
  refine x_aload_n 1 d_law_1500 rfl rfl ?_
  refine x_cvi (k := 41) (as := []) (c_X4_tear l E μ1 g hM1 hI) v_X4_tear w_X4_tear q1111 o_M rfl ⟨Nat.le_of_ble_eq_true rfl, Nat.le_of_ble_eq_true rfl⟩ rfl (Nat.le_of_ble_eq_true rfl) d_law_1501 ?_
  rintro z2 μ2 ⟨rfl, hM2, k2⟩
  rw [hR] at hM2 ⊢
  have hI2 : Inv R.2 := by rw [← hR]; exact I_tear hI
  exact x_icmp_eq 1555 d_law_1504 (by decide) (fun _ => kk R.2 μ2 (hX1.keep k2) hM2 hI2) (fun c => absurd rfl c)
set_option maxHeartbeats 1000000 in
theorem L_count (l : Launch) (E : x_E) {b L i : Nat} {xs : Nat → Int32} (hL : L ≤ 3072) (hi : i + 6 ≤ L) {g : x_SG} {μ : x_Mem} (hX : XS g μ) (hM : MS g μ) (hI : Inv g) (kk : ∀ (g' : x_SG) (μ' : x_Mem), XS g' μ' → MS g' μ' → Inv g' → x_G l E m_law (x_vL E b L xs) μ' 1555 [(3, .int (nI i)), (2, .ref (E.1 + 41)), (1, .ref (E.1 + 0)), (0, .ref b)] []) : x_G l E m_law (x_vL E b L xs) μ 1509 [(3, .int (nI i)), (2, .ref (E.1 + 41)), (1, .ref (E.1 + 0)), (0, .ref b)] [] := by
  refine x_aload_n 2 d_law_1509 rfl rfl ?_
  refine x_aload_n 3 d_law_1510 rfl rfl ?_
  refine x_iload_n 0 d_law_1511 rfl rfl ?_
  refine x_iconst (x := 1) d_law_1512 (by decide) ?_
  refine x_iadd d_law_1513 ?_
  rw [show nI i + (1 : Int32) = nI (i + 1) from nI_add i 1]
  refine x_sld (e0 := i + 1) (by omega) hL d_law_1514 ?_
  refine x_cvi (k := 0) (as := [.int (xs (i + 1))]) (c_X3_count l E μ g hX hI (xs (i + 1))) v_X3_count w_X3_count q650 o_X rfl ⟨Nat.le_of_ble_eq_true rfl, Nat.le_of_ble_eq_true rfl⟩ rfl (Nat.le_of_ble_eq_true rfl) d_law_1515 ?_
  rintro z1 μ1 ⟨rfl, hX1, k1⟩
  have hM1 := hM.keep k1
  generalize hR : F_count g (xs (i + 1)) = R at hX1 ⊢
  refine x_aload_n 1 d_law_1518 rfl rfl ?_
  refine x_aload_n 3 d_law_1519 rfl rfl ?_
  refine x_iload_n 0 d_law_1520 rfl rfl ?_
  refine x_iconst (x := 1) d_law_1521 (by decide) ?_
  refine x_iadd d_law_1522 ?_
  rw [show nI i + (1 : Int32) = nI (i + 1) from nI_add i 1]
  refine x_sld (e0 := i + 1) (by omega) hL d_law_1523 ?_
  refine x_cvi (k := 41) (as := [.int (xs (i + 1))]) (c_X4_count l E μ1 g hM1 hI (xs (i + 1))) v_X4_count w_X4_count q1115 o_M rfl ⟨Nat.le_of_ble_eq_true rfl, Nat.le_of_ble_eq_true rfl⟩ rfl (Nat.le_of_ble_eq_true rfl) d_law_1524 ?_
  rintro z2 μ2 ⟨rfl, hM2, k2⟩
  rw [hR] at hM2 ⊢
  have hI2 : Inv R.2 := by rw [← hR]; exact I_count hI (xs (i + 1))
  exact x_icmp_eq 1555 d_law_1527 (by decide) (fun _ => kk R.2 μ2 (hX1.keep k2) hM2 hI2) (fun c => absurd rfl c)
set_option maxHeartbeats 1000000 in
theorem L_status (l : Launch) (E : x_E) {b L i : Nat} {xs : Nat → Int32} (hL : L ≤ 3072) (hi : i + 6 ≤ L) {g : x_SG} {μ : x_Mem} (hX : XS g μ) (hM : MS g μ) (hI : Inv g) (kk : ∀ (g' : x_SG) (μ' : x_Mem), XS g' μ' → MS g' μ' → Inv g' → x_G l E m_law (x_vL E b L xs) μ' 1555 [(3, .int (nI i)), (2, .ref (E.1 + 41)), (1, .ref (E.1 + 0)), (0, .ref b)] []) : x_G l E m_law (x_vL E b L xs) μ 1532 [(3, .int (nI i)), (2, .ref (E.1 + 41)), (1, .ref (E.1 + 0)), (0, .ref b)] [] := by
  refine x_aload_n 2 d_law_1532 rfl rfl ?_
  refine x_aload_n 3 d_law_1533 rfl rfl ?_
  refine x_iload_n 0 d_law_1534 rfl rfl ?_
  refine x_iconst (x := 1) d_law_1535 (by decide) ?_
  refine x_iadd d_law_1536 ?_
  rw [show nI i + (1 : Int32) = nI (i + 1) from nI_add i 1]
  refine x_sld (e0 := i + 1) (by omega) hL d_law_1537 ?_
  refine x_cvi (k := 0) (as := [.int (xs (i + 1))]) (c_X3_status l E μ g hX hI (xs (i + 1))) v_X3_status w_X3_status q658 o_X rfl ⟨Nat.le_of_ble_eq_true rfl, Nat.le_of_ble_eq_true rfl⟩ rfl (Nat.le_of_ble_eq_true rfl) d_law_1538 ?_
  rintro z1 μ1 ⟨rfl, hX1, k1⟩
  have hM1 := hM.keep k1
  generalize hR : F_status g (xs (i + 1)) = R at hX1 ⊢
  refine x_aload_n 1 d_law_1541 rfl rfl ?_
  refine x_aload_n 3 d_law_1542 rfl rfl ?_
  refine x_iload_n 0 d_law_1543 rfl rfl ?_
  refine x_iconst (x := 1) d_law_1544 (by decide) ?_
  refine x_iadd d_law_1545 ?_
  rw [show nI i + (1 : Int32) = nI (i + 1) from nI_add i 1]
  refine x_sld (e0 := i + 1) (by omega) hL d_law_1546 ?_
  refine x_cvi (k := 41) (as := [.int (xs (i + 1))]) (c_X4_status l E μ1 g hM1 hI (xs (i + 1))) v_X4_status w_X4_status q1123 o_M rfl ⟨Nat.le_of_ble_eq_true rfl, Nat.le_of_ble_eq_true rfl⟩ rfl (Nat.le_of_ble_eq_true rfl) d_law_1547 ?_
  rintro z2 μ2 ⟨rfl, hM2, k2⟩
  rw [hR] at hM2 ⊢
  have hI2 : Inv R.2 := by rw [← hR]; exact I_status hI (xs (i + 1))
  exact x_icmp_eq 1555 d_law_1550 (by decide) (fun _ => kk R.2 μ2 (hX1.keep k2) hM2 hI2) (fun c => absurd rfl c)
theorem law_end {l : Launch} {E : x_E} {b L : Nat} {xs : Nat → Int32} {μ : x_Mem} {lv : List (Nat × Value)} {pc nx : Nat} (hd : x_dec m_law pc .ireturn 1 nx) : x_G l E m_law (x_vL E b L xs) μ pc lv [.int 1] := by
  intro p e s m args below meth c H ls locs F hP hl hS
  obtain ⟨hx, hb, hr, hlo, hml, hown, hts, hK, hZ, hc1, hc2, hE, rfl, hX, hbl⟩ := id F
  refine va_forget (fun q hq => by rw [← hE]; exact hS.2.2 q hq) ?_
  refine W.widen (k := 600000) (n := 7302250) (by show 52 ≤ 600000; omega) (by show 1327 ≤ 7302250; omega) ?_
  exact lw_ret hx hb (by rw [hr]; rfl) hlo hd.1
set_option maxHeartbeats 4000000 in
theorem law_loop (l : Launch) (E : x_E) {b L : Nat} {xs : Nat → Int32} (hL : L ≤ 3072) : ∀ i, i ≤ L → ∀ (g : x_SG) (μ : x_Mem), XS g μ → MS g μ → Inv g → x_G l E m_law (x_vL E b L xs) μ 18 [(3, .int (nI i)), (2, .ref (E.1 + 41)), (1, .ref (E.1 + 0)), (0, .ref b)] [] := by
  refine x_down _ L (fun i hiL ih => ?_)
  intro g μ hX hM hI
  refine x_iload_n 0 d_law_18 rfl rfl ?_
  refine x_aload_n 3 d_law_19 rfl rfl ?_
  refine x_sln2 d_law_20 ?_
  refine x_bipush (x := 6) d_law_21 (by decide) ?_
  refine x_isub d_law_23 ?_
  refine x_icmp_gt 1561 d_law_24 (by decide) (fun c => ?_) (fun c => ?_)
  · refine x_iconst (x := 1) d_law_1561 (by decide) ?_
    exact law_end d_law_1562
  have hi := law_gt hL hiL c
  have kk : ∀ (g' : x_SG) (μ' : x_Mem), XS g' μ' → MS g' μ' → Inv g' → x_G l E m_law (x_vL E b L xs) μ' 1555 [(3, .int (nI i)), (2, .ref (E.1 + 41)), (1, .ref (E.1 + 0)), (0, .ref b)] [] := by
    intro g' μ' h1 h2 h3
    refine x_iinc [(3, .int (nI (i + 6))), (2, .ref (E.1 + 41)), (1, .ref (E.1 + 0)), (0, .ref b)] 0 d_law_1555 rfl (nI_add i 6) (by decide) rfl ?_
    refine x_goto 18 d_law_1558 (by decide) ?_
    exact ih (i + 6) (by omega) hi g' μ' h1 h2 h3
  refine x_aload_n 3 d_law_27 rfl rfl ?_
  refine x_iload_n 0 d_law_28 rfl rfl ?_
  refine x_sld (e0 := i) (by omega) hL d_law_29 ?_
  refine x_bipush (x := 63) d_law_30 (by decide) ?_
  refine x_iand d_law_32 ?_
  obtain ⟨n, hn, e⟩ := mask63 (xs i)
  rw [e]
  by_cases hn48 : 48 ≤ n
  · exact x_tswOut 1555 d_law_33 (Or.inr (by rw [nI_toInt (by omega)]; omega)) (by decide) (kk g μ hX hM hI)
  rcases Nat.eq_or_lt_of_le (show n ≤ 47 by omega) with hq | hq
  · subst hq; exact x_tswIn 1532 (off := 1499) d_law_33 (by decide) (by decide) (by decide +kernel) (by decide) (L_status l E hL hi hX hM hI kk)
  rcases Nat.eq_or_lt_of_le (show n ≤ 46 by omega) with hq | hq
  · subst hq; exact x_tswIn 1509 (off := 1476) d_law_33 (by decide) (by decide) (by decide +kernel) (by decide) (L_count l E hL hi hX hM hI kk)
  rcases Nat.eq_or_lt_of_le (show n ≤ 45 by omega) with hq | hq
  · subst hq; exact x_tswIn 1496 (off := 1463) d_law_33 (by decide) (by decide) (by decide +kernel) (by decide) (L_tear l E hL hi hX hM hI kk)
  rcases Nat.eq_or_lt_of_le (show n ≤ 44 by omega) with hq | hq
  · subst hq; exact x_tswIn 1483 (off := 1450) d_law_33 (by decide) (by decide) (by decide +kernel) (by decide) (L_undo l E hL hi hX hM hI kk)
  rcases Nat.eq_or_lt_of_le (show n ≤ 43 by omega) with hq | hq
  · subst hq; exact x_tswIn 1470 (off := 1437) d_law_33 (by decide) (by decide) (by decide +kernel) (by decide) (L_image l E hL hi hX hM hI kk)
  rcases Nat.eq_or_lt_of_le (show n ≤ 42 by omega) with hq | hq
  · subst hq; exact x_tswIn 1447 (off := 1414) d_law_33 (by decide) (by decide) (by decide +kernel) (by decide) (L_judge l E hL hi hX hM hI kk)
  rcases Nat.eq_or_lt_of_le (show n ≤ 41 by omega) with hq | hq
  · subst hq; exact x_tswIn 1424 (off := 1391) d_law_33 (by decide) (by decide) (by decide +kernel) (by decide) (L_load l E hL hi hX hM hI kk)
  rcases Nat.eq_or_lt_of_le (show n ≤ 40 by omega) with hq | hq
  · subst hq; exact x_tswIn 1361 (off := 1328) d_law_33 (by decide) (by decide) (by decide +kernel) (by decide) (L_copy l E hL hi hX hM hI kk)
  rcases Nat.eq_or_lt_of_le (show n ≤ 39 by omega) with hq | hq
  · subst hq; exact x_tswIn 1318 (off := 1285) d_law_33 (by decide) (by decide) (by decide +kernel) (by decide) (L_write l E hL hi hX hM hI kk)
  rcases Nat.eq_or_lt_of_le (show n ≤ 38 by omega) with hq | hq
  · subst hq; exact x_tswIn 1275 (off := 1242) d_law_33 (by decide) (by decide) (by decide +kernel) (by decide) (L_sheet l E hL hi hX hM hI kk)
  rcases Nat.eq_or_lt_of_le (show n ≤ 37 by omega) with hq | hq
  · subst hq; exact x_tswIn 1242 (off := 1209) d_law_33 (by decide) (by decide) (by decide +kernel) (by decide) (L_as l E hL hi hX hM hI kk)
  rcases Nat.eq_or_lt_of_le (show n ≤ 36 by omega) with hq | hq
  · subst hq; exact x_tswIn 1209 (off := 1176) d_law_33 (by decide) (by decide) (by decide +kernel) (by decide) (L_hold l E hL hi hX hM hI kk)
  rcases Nat.eq_or_lt_of_le (show n ≤ 35 by omega) with hq | hq
  · subst hq; exact x_tswIn 1196 (off := 1163) d_law_33 (by decide) (by decide) (by decide +kernel) (by decide) (L_text l E hL hi hX hM hI kk)
  rcases Nat.eq_or_lt_of_le (show n ≤ 34 by omega) with hq | hq
  · subst hq; exact x_tswIn 1183 (off := 1150) d_law_33 (by decide) (by decide) (by decide +kernel) (by decide) (L_wipe l E hL hi hX hM hI kk)
  rcases Nat.eq_or_lt_of_le (show n ≤ 33 by omega) with hq | hq
  · subst hq; exact x_tswIn 1150 (off := 1117) d_law_33 (by decide) (by decide) (by decide +kernel) (by decide) (L_feed l E hL hi hX hM hI kk)
  rcases Nat.eq_or_lt_of_le (show n ≤ 32 by omega) with hq | hq
  · subst hq; exact x_tswIn 1127 (off := 1094) d_law_33 (by decide) (by decide) (by decide +kernel) (by decide) (L_seed l E hL hi hX hM hI kk)
  rcases Nat.eq_or_lt_of_le (show n ≤ 31 by omega) with hq | hq
  · subst hq; exact x_tswIn 1093 (off := 1060) d_law_33 (by decide) (by decide) (by decide +kernel) (by decide) (L_odds l E hL hi hX hM hI kk)
  rcases Nat.eq_or_lt_of_le (show n ≤ 30 by omega) with hq | hq
  · subst hq; exact x_tswIn 1070 (off := 1037) d_law_33 (by decide) (by decide) (by decide +kernel) (by decide) (L_gold l E hL hi hX hM hI kk)
  rcases Nat.eq_or_lt_of_le (show n ≤ 29 by omega) with hq | hq
  · subst hq; exact x_tswIn 1057 (off := 1024) d_law_33 (by decide) (by decide) (by decide +kernel) (by decide) (L_run l E hL hi hX hM hI kk)
  rcases Nat.eq_or_lt_of_le (show n ≤ 28 by omega) with hq | hq
  · subst hq; exact x_tswIn 1034 (off := 1001) d_law_33 (by decide) (by decide) (by decide +kernel) (by decide) (L_hangs l E hL hi hX hM hI kk)
  rcases Nat.eq_or_lt_of_le (show n ≤ 27 by omega) with hq | hq
  · subst hq; exact x_tswIn 1021 (off := 988) d_law_33 (by decide) (by decide) (by decide +kernel) (by decide) (L_worth l E hL hi hX hM hI kk)
  rcases Nat.eq_or_lt_of_le (show n ≤ 26 by omega) with hq | hq
  · subst hq; exact x_tswIn 988 (off := 955) d_law_33 (by decide) (by decide) (by decide +kernel) (by decide) (L_least l E hL hi hX hM hI kk)
  rcases Nat.eq_or_lt_of_le (show n ≤ 25 by omega) with hq | hq
  · subst hq; exact x_tswIn 955 (off := 922) d_law_33 (by decide) (by decide) (by decide +kernel) (by decide) (L_beliefs l E hL hi hX hM hI kk)
  rcases Nat.eq_or_lt_of_le (show n ≤ 24 by omega) with hq | hq
  · subst hq; exact x_tswIn 922 (off := 889) d_law_33 (by decide) (by decide) (by decide +kernel) (by decide) (L_kinds l E hL hi hX hM hI kk)
  rcases Nat.eq_or_lt_of_le (show n ≤ 23 by omega) with hq | hq
  · subst hq; exact x_tswIn 889 (off := 856) d_law_33 (by decide) (by decide) (by decide +kernel) (by decide) (L_seat l E hL hi hX hM hI kk)
  rcases Nat.eq_or_lt_of_le (show n ≤ 22 by omega) with hq | hq
  · subst hq; exact x_tswIn 856 (off := 823) d_law_33 (by decide) (by decide) (by decide +kernel) (by decide) (L_bears l E hL hi hX hM hI kk)
  rcases Nat.eq_or_lt_of_le (show n ≤ 21 by omega) with hq | hq
  · subst hq; exact x_tswIn 813 (off := 780) d_law_33 (by decide) (by decide) (by decide +kernel) (by decide) (L_persuade l E hL hi hX hM hI kk)
  rcases Nat.eq_or_lt_of_le (show n ≤ 20 by omega) with hq | hq
  · subst hq; exact x_tswIn 790 (off := 757) d_law_33 (by decide) (by decide) (by decide +kernel) (by decide) (L_without l E hL hi hX hM hI kk)
  rcases Nat.eq_or_lt_of_le (show n ≤ 19 by omega) with hq | hq
  · subst hq; exact x_tswIn 767 (off := 734) d_law_33 (by decide) (by decide) (by decide +kernel) (by decide) (L_farthest l E hL hi hX hM hI kk)
  rcases Nat.eq_or_lt_of_le (show n ≤ 18 by omega) with hq | hq
  · subst hq; exact x_tswIn 734 (off := 701) d_law_33 (by decide) (by decide) (by decide +kernel) (by decide) (L_fewest l E hL hi hX hM hI kk)
  rcases Nat.eq_or_lt_of_le (show n ≤ 17 by omega) with hq | hq
  · subst hq; exact x_tswIn 701 (off := 668) d_law_33 (by decide) (by decide) (by decide +kernel) (by decide) (L_with l E hL hi hX hM hI kk)
  rcases Nat.eq_or_lt_of_le (show n ≤ 16 by omega) with hq | hq
  · subst hq; exact x_tswIn 668 (off := 635) d_law_33 (by decide) (by decide) (by decide +kernel) (by decide) (L_kindFor l E hL hi hX hM hI kk)
  rcases Nat.eq_or_lt_of_le (show n ≤ 15 by omega) with hq | hq
  · subst hq; exact x_tswIn 645 (off := 612) d_law_33 (by decide) (by decide) (by decide +kernel) (by decide) (L_there l E hL hi hX hM hI kk)
  rcases Nat.eq_or_lt_of_le (show n ≤ 14 by omega) with hq | hq
  · subst hq; exact x_tswIn 632 (off := 599) d_law_33 (by decide) (by decide) (by decide +kernel) (by decide) (L_settles l E hL hi hX hM hI kk)
  rcases Nat.eq_or_lt_of_le (show n ≤ 13 by omega) with hq | hq
  · subst hq; exact x_tswIn 619 (off := 586) d_law_33 (by decide) (by decide) (by decide +kernel) (by decide) (L_falls l E hL hi hX hM hI kk)
  rcases Nat.eq_or_lt_of_le (show n ≤ 12 by omega) with hq | hq
  · subst hq; exact x_tswIn 596 (off := 563) d_law_33 (by decide) (by decide) (by decide +kernel) (by decide) (L_when l E hL hi hX hM hI kk)
  rcases Nat.eq_or_lt_of_le (show n ≤ 11 by omega) with hq | hq
  · subst hq; exact x_tswIn 563 (off := 530) d_law_33 (by decide) (by decide) (by decide +kernel) (by decide) (L_believes l E hL hi hX hM hI kk)
  rcases Nat.eq_or_lt_of_le (show n ≤ 10 by omega) with hq | hq
  · subst hq; exact x_tswIn 540 (off := 507) d_law_33 (by decide) (by decide) (by decide +kernel) (by decide) (L_ahead l E hL hi hX hM hI kk)
  rcases Nat.eq_or_lt_of_le (show n ≤ 9 by omega) with hq | hq
  · subst hq; exact x_tswIn 517 (off := 484) d_law_33 (by decide) (by decide) (by decide +kernel) (by decide) (L_now l E hL hi hX hM hI kk)
  rcases Nat.eq_or_lt_of_le (show n ≤ 8 by omega) with hq | hq
  · subst hq; exact x_tswIn 494 (off := 461) d_law_33 (by decide) (by decide) (by decide +kernel) (by decide) (L_go l E hL hi hX hM hI kk)
  rcases Nat.eq_or_lt_of_le (show n ≤ 7 by omega) with hq | hq
  · subst hq; exact x_tswIn 471 (off := 438) d_law_33 (by decide) (by decide) (by decide +kernel) (by decide) (L_leave l E hL hi hX hM hI kk)
  rcases Nat.eq_or_lt_of_le (show n ≤ 6 by omega) with hq | hq
  · subst hq; exact x_tswIn 448 (off := 415) d_law_33 (by decide) (by decide) (by decide +kernel) (by decide) (L_board l E hL hi hX hM hI kk)
  rcases Nat.eq_or_lt_of_le (show n ≤ 5 by omega) with hq | hq
  · subst hq; exact x_tswIn 415 (off := 382) d_law_33 (by decide) (by decide) (by decide +kernel) (by decide) (L_set l E hL hi hX hM hI kk)
  rcases Nat.eq_or_lt_of_le (show n ≤ 4 by omega) with hq | hq
  · subst hq; exact x_tswIn 372 (off := 339) d_law_33 (by decide) (by decide) (by decide +kernel) (by decide) (L_change l E hL hi hX hM hI kk)
  rcases Nat.eq_or_lt_of_le (show n ≤ 3 by omega) with hq | hq
  · subst hq; exact x_tswIn 339 (off := 306) d_law_33 (by decide) (by decide) (by decide +kernel) (by decide) (L_of l E hL hi hX hM hI kk)
  rcases Nat.eq_or_lt_of_le (show n ≤ 2 by omega) with hq | hq
  · subst hq; exact x_tswIn 306 (off := 273) d_law_33 (by decide) (by decide) (by decide +kernel) (by decide) (L_person l E hL hi hX hM hI kk)
  rcases Nat.eq_or_lt_of_le (show n ≤ 1 by omega) with hq | hq
  · subst hq; exact x_tswIn 273 (off := 240) d_law_33 (by decide) (by decide) (by decide +kernel) (by decide) (L_stretch l E hL hi hX hM hI kk)
  obtain rfl : n = 0 := by omega
  exact x_tswIn 240 (off := 207) d_law_33 (by decide) (by decide) (by decide +kernel) (by decide) (L_need l E hL hi hX hM hI kk)
set_option maxHeartbeats 1000000 in
theorem law_made (l : Launch) (E : x_E) (ω : x_Om) {b L : Nat} {xs : Nat → Int32} (hL : L ≤ 3072) : x_N l E m_law (x_vL E b L xs) false ω 0 0 0 0 [(0, .ref b)] [] := by
  refine n_new (ci := 3) (r := (RX3, TX3, 8)) (d := dvX) tyX3 tyX3_ok x_c3 rfl q14 q15 q1 dvX_ok (Nat.le_of_ble_eq_true rfl) (Nat.le_of_ble_eq_true rfl) d_law_0 (fun ω1 e1 => ?_)
  refine n_dup d_law_3 rfl ?_
  refine n_ini (mc := 40) (ms := 767) (n_X3_init_0 l E ω1) v_X3_init rfl rfl q17 q16 ⟨Nat.le_of_ble_eq_true rfl, Nat.le_of_ble_eq_true rfl⟩ (Nat.le_of_ble_eq_true rfl) (Nat.le_of_ble_eq_true rfl) (Nat.le_of_ble_eq_true rfl) d_law_4 ?_
  rintro ω2 _ ⟨rfl, f2, g2⟩
  refine n_astore_n [(1, .ref (E.1 + 0)), (0, .ref b)] d_law_7 rfl (Nat.le_of_ble_eq_true rfl) rfl ?_
  refine n_new (ci := 4) (r := (RX4, TX4, 17)) (d := dvM) tyX4 tyX4_ok x_c4 rfl q662 q663 q6 dvM_ok (Nat.le_of_ble_eq_true rfl) (Nat.le_of_ble_eq_true rfl) d_law_8 (fun ω3 e3 => ?_)
  refine n_dup d_law_11 rfl ?_
  refine n_ini (mc := 10) (ms := 535) (n_X4_init_41 l E ω3 (by rw [e3, upW_s])) v_X4_init rfl rfl q665 q664 ⟨Nat.le_of_ble_eq_true rfl, Nat.le_of_ble_eq_true rfl⟩ (Nat.le_of_ble_eq_true rfl) (Nat.le_of_ble_eq_true rfl) (Nat.le_of_ble_eq_true rfl) d_law_12 ?_
  rintro ω4 _ ⟨rfl, f4, g4⟩
  refine n_astore_n [(2, .ref (E.1 + 41)), (1, .ref (E.1 + 0)), (0, .ref b)] d_law_15 rfl (Nat.le_of_ble_eq_true rfl) rfl ?_
  refine n_iconst (x := 0) d_law_16 (by decide) ?_
  refine n_istore_n [(3, .int 0), (2, .ref (E.1 + 41)), (1, .ref (E.1 + 0)), (0, .ref b)] d_law_17 rfl (Nat.le_of_ble_eq_true rfl) rfl ?_
  refine x_made (fun c hc => ?_) (law_loop l E hL 0 (Nat.zero_le L) g0 x_ini XS_0 MS_0 Inv_0)
  by_cases h : 41 ≤ c
  · exact f4 c h hc
  · intro j hj
    rw [g4 c (by omega), e3, upW_ne (by omega)]
    exact f2 c (Nat.zero_le c) (by omega) j hj
