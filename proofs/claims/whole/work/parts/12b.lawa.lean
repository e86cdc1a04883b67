/-! the law: decode rows, by program (wip/whole/genlaw.py) -/
theorem dL_law_0 : decode mL_law.2.1 0 = .ok (.new 7, 3) := by decide +kernel
theorem dL_law_3 : decode mL_law.2.1 3 = .ok (.dup, 1) := by decide +kernel
theorem dL_law_4 : decode mL_law.2.1 4 = .ok (.invokespecial 9, 3) := by decide +kernel
theorem dL_law_7 : decode mL_law.2.1 7 = .ok (.astore_n 1, 1) := by decide +kernel
theorem dL_law_8 : decode mL_law.2.1 8 = .ok (.new 10, 3) := by decide +kernel
theorem dL_law_11 : decode mL_law.2.1 11 = .ok (.dup, 1) := by decide +kernel
theorem dL_law_12 : decode mL_law.2.1 12 = .ok (.invokespecial 12, 3) := by decide +kernel
theorem dL_law_15 : decode mL_law.2.1 15 = .ok (.astore_n 2, 1) := by decide +kernel
theorem dL_law_16 : decode mL_law.2.1 16 = .ok (.iconst 0, 1) := by decide +kernel
theorem dL_law_17 : decode mL_law.2.1 17 = .ok (.istore_n 3, 1) := by decide +kernel
theorem dL_law_18 : decode mL_law.2.1 18 = .ok (.iload_n 3, 1) := by decide +kernel
theorem dL_law_19 : decode mL_law.2.1 19 = .ok (.aload_n 0, 1) := by decide +kernel
theorem dL_law_20 : decode mL_law.2.1 20 = .ok (.arraylength, 1) := by decide +kernel
theorem dL_law_21 : decode mL_law.2.1 21 = .ok (.bipush 6, 2) := by decide +kernel
theorem dL_law_23 : decode mL_law.2.1 23 = .ok (.isub, 1) := by decide +kernel
theorem dL_law_24 : decode mL_law.2.1 24 = .ok (.if_icmp .gt 1714, 3) := by decide +kernel
theorem dL_law_27 : decode mL_law.2.1 27 = .ok (.aload_n 0, 1) := by decide +kernel
theorem dL_law_28 : decode mL_law.2.1 28 = .ok (.iload_n 3, 1) := by decide +kernel
theorem dL_law_29 : decode mL_law.2.1 29 = .ok (.iaload, 1) := by decide +kernel
theorem dL_law_30 : decode mL_law.2.1 30 = .ok (.bipush 63, 2) := by decide +kernel
theorem dL_law_32 : decode mL_law.2.1 32 = .ok (.iand, 1) := by decide +kernel
theorem dL_law_33 : decode mL_law.2.1 33 = .ok (.tableswitch 1699 0 41 #[183, 246, 269, 282, 305, 338, 381, 414, 427, 450, 473, 506, 529, 588, 647, 690, 733, 776, 829, 872, 925, 988, 1031, 1084, 1107, 1130, 1173, 1216, 1239, 1272, 1321, 1344, 1377, 1400, 1423, 1482, 1525, 1574, 1607, 1630, 1653, 1676], 183) := by decide +kernel
theorem dL_law_216 : decode mL_law.2.1 216 = .ok (.aload_n 1, 1) := by decide +kernel
theorem dL_law_217 : decode mL_law.2.1 217 = .ok (.aload_n 0, 1) := by decide +kernel
theorem dL_law_218 : decode mL_law.2.1 218 = .ok (.iload_n 3, 1) := by decide +kernel
theorem dL_law_219 : decode mL_law.2.1 219 = .ok (.iconst 1, 1) := by decide +kernel
theorem dL_law_220 : decode mL_law.2.1 220 = .ok (.iadd, 1) := by decide +kernel
theorem dL_law_221 : decode mL_law.2.1 221 = .ok (.iaload, 1) := by decide +kernel
theorem dL_law_222 : decode mL_law.2.1 222 = .ok (.aload_n 0, 1) := by decide +kernel
theorem dL_law_223 : decode mL_law.2.1 223 = .ok (.iload_n 3, 1) := by decide +kernel
theorem dL_law_224 : decode mL_law.2.1 224 = .ok (.iconst 2, 1) := by decide +kernel
theorem dL_law_225 : decode mL_law.2.1 225 = .ok (.iadd, 1) := by decide +kernel
theorem dL_law_226 : decode mL_law.2.1 226 = .ok (.iaload, 1) := by decide +kernel
theorem dL_law_227 : decode mL_law.2.1 227 = .ok (.aload_n 0, 1) := by decide +kernel
theorem dL_law_228 : decode mL_law.2.1 228 = .ok (.iload_n 3, 1) := by decide +kernel
theorem dL_law_229 : decode mL_law.2.1 229 = .ok (.iconst 3, 1) := by decide +kernel
theorem dL_law_230 : decode mL_law.2.1 230 = .ok (.iadd, 1) := by decide +kernel
theorem dL_law_231 : decode mL_law.2.1 231 = .ok (.iaload, 1) := by decide +kernel
theorem dL_law_232 : decode mL_law.2.1 232 = .ok (.aload_n 0, 1) := by decide +kernel
theorem dL_law_233 : decode mL_law.2.1 233 = .ok (.iload_n 3, 1) := by decide +kernel
theorem dL_law_234 : decode mL_law.2.1 234 = .ok (.iconst 4, 1) := by decide +kernel
theorem dL_law_235 : decode mL_law.2.1 235 = .ok (.iadd, 1) := by decide +kernel
theorem dL_law_236 : decode mL_law.2.1 236 = .ok (.iaload, 1) := by decide +kernel
theorem dL_law_237 : decode mL_law.2.1 237 = .ok (.aload_n 0, 1) := by decide +kernel
theorem dL_law_238 : decode mL_law.2.1 238 = .ok (.iload_n 3, 1) := by decide +kernel
theorem dL_law_239 : decode mL_law.2.1 239 = .ok (.iconst 5, 1) := by decide +kernel
theorem dL_law_240 : decode mL_law.2.1 240 = .ok (.iadd, 1) := by decide +kernel
theorem dL_law_241 : decode mL_law.2.1 241 = .ok (.iaload, 1) := by decide +kernel
theorem dL_law_242 : decode mL_law.2.1 242 = .ok (.invokevirtual 13, 3) := by decide +kernel
theorem dL_law_245 : decode mL_law.2.1 245 = .ok (.aload_n 2, 1) := by decide +kernel
theorem dL_law_246 : decode mL_law.2.1 246 = .ok (.aload_n 0, 1) := by decide +kernel
theorem dL_law_247 : decode mL_law.2.1 247 = .ok (.iload_n 3, 1) := by decide +kernel
theorem dL_law_248 : decode mL_law.2.1 248 = .ok (.iconst 1, 1) := by decide +kernel
theorem dL_law_249 : decode mL_law.2.1 249 = .ok (.iadd, 1) := by decide +kernel
theorem dL_law_250 : decode mL_law.2.1 250 = .ok (.iaload, 1) := by decide +kernel
theorem dL_law_251 : decode mL_law.2.1 251 = .ok (.aload_n 0, 1) := by decide +kernel
theorem dL_law_252 : decode mL_law.2.1 252 = .ok (.iload_n 3, 1) := by decide +kernel
theorem dL_law_253 : decode mL_law.2.1 253 = .ok (.iconst 2, 1) := by decide +kernel
theorem dL_law_254 : decode mL_law.2.1 254 = .ok (.iadd, 1) := by decide +kernel
theorem dL_law_255 : decode mL_law.2.1 255 = .ok (.iaload, 1) := by decide +kernel
theorem dL_law_256 : decode mL_law.2.1 256 = .ok (.aload_n 0, 1) := by decide +kernel
theorem dL_law_257 : decode mL_law.2.1 257 = .ok (.iload_n 3, 1) := by decide +kernel
theorem dL_law_258 : decode mL_law.2.1 258 = .ok (.iconst 3, 1) := by decide +kernel
theorem dL_law_259 : decode mL_law.2.1 259 = .ok (.iadd, 1) := by decide +kernel
theorem dL_law_260 : decode mL_law.2.1 260 = .ok (.iaload, 1) := by decide +kernel
theorem dL_law_261 : decode mL_law.2.1 261 = .ok (.aload_n 0, 1) := by decide +kernel
theorem dL_law_262 : decode mL_law.2.1 262 = .ok (.iload_n 3, 1) := by decide +kernel
theorem dL_law_263 : decode mL_law.2.1 263 = .ok (.iconst 4, 1) := by decide +kernel
theorem dL_law_264 : decode mL_law.2.1 264 = .ok (.iadd, 1) := by decide +kernel
theorem dL_law_265 : decode mL_law.2.1 265 = .ok (.iaload, 1) := by decide +kernel
theorem dL_law_266 : decode mL_law.2.1 266 = .ok (.aload_n 0, 1) := by decide +kernel
theorem dL_law_267 : decode mL_law.2.1 267 = .ok (.iload_n 3, 1) := by decide +kernel
theorem dL_law_268 : decode mL_law.2.1 268 = .ok (.iconst 5, 1) := by decide +kernel
theorem dL_law_269 : decode mL_law.2.1 269 = .ok (.iadd, 1) := by decide +kernel
theorem dL_law_270 : decode mL_law.2.1 270 = .ok (.iaload, 1) := by decide +kernel
theorem dL_law_271 : decode mL_law.2.1 271 = .ok (.invokevirtual 17, 3) := by decide +kernel
theorem dL_law_274 : decode mL_law.2.1 274 = .ok (.if_icmp .eq 1458, 3) := by decide +kernel
theorem dL_law_277 : decode mL_law.2.1 277 = .ok (.iconst 0, 1) := by decide +kernel
theorem dL_law_278 : decode mL_law.2.1 278 = .ok (.ireturn, 1) := by decide +kernel
theorem dL_law_279 : decode mL_law.2.1 279 = .ok (.aload_n 1, 1) := by decide +kernel
theorem dL_law_280 : decode mL_law.2.1 280 = .ok (.aload_n 0, 1) := by decide +kernel
theorem dL_law_281 : decode mL_law.2.1 281 = .ok (.iload_n 3, 1) := by decide +kernel
theorem dL_law_282 : decode mL_law.2.1 282 = .ok (.iconst 1, 1) := by decide +kernel
theorem dL_law_283 : decode mL_law.2.1 283 = .ok (.iadd, 1) := by decide +kernel
theorem dL_law_284 : decode mL_law.2.1 284 = .ok (.iaload, 1) := by decide +kernel
theorem dL_law_285 : decode mL_law.2.1 285 = .ok (.invokevirtual 18, 3) := by decide +kernel
theorem dL_law_288 : decode mL_law.2.1 288 = .ok (.aload_n 2, 1) := by decide +kernel
theorem dL_law_289 : decode mL_law.2.1 289 = .ok (.aload_n 0, 1) := by decide +kernel
theorem dL_law_290 : decode mL_law.2.1 290 = .ok (.iload_n 3, 1) := by decide +kernel
theorem dL_law_291 : decode mL_law.2.1 291 = .ok (.iconst 1, 1) := by decide +kernel
theorem dL_law_292 : decode mL_law.2.1 292 = .ok (.iadd, 1) := by decide +kernel
theorem dL_law_293 : decode mL_law.2.1 293 = .ok (.iaload, 1) := by decide +kernel
theorem dL_law_294 : decode mL_law.2.1 294 = .ok (.invokevirtual 22, 3) := by decide +kernel
theorem dL_law_297 : decode mL_law.2.1 297 = .ok (.if_icmp .eq 1435, 3) := by decide +kernel
theorem dL_law_300 : decode mL_law.2.1 300 = .ok (.iconst 0, 1) := by decide +kernel
theorem dL_law_301 : decode mL_law.2.1 301 = .ok (.ireturn, 1) := by decide +kernel
theorem dL_law_302 : decode mL_law.2.1 302 = .ok (.aload_n 1, 1) := by decide +kernel
theorem dL_law_303 : decode mL_law.2.1 303 = .ok (.invokevirtual 23, 3) := by decide +kernel
theorem dL_law_306 : decode mL_law.2.1 306 = .ok (.aload_n 2, 1) := by decide +kernel
theorem dL_law_307 : decode mL_law.2.1 307 = .ok (.invokevirtual 27, 3) := by decide +kernel
theorem dL_law_310 : decode mL_law.2.1 310 = .ok (.if_icmp .eq 1422, 3) := by decide +kernel
theorem dL_law_313 : decode mL_law.2.1 313 = .ok (.iconst 0, 1) := by decide +kernel
theorem dL_law_314 : decode mL_law.2.1 314 = .ok (.ireturn, 1) := by decide +kernel
theorem dL_law_315 : decode mL_law.2.1 315 = .ok (.aload_n 1, 1) := by decide +kernel
theorem dL_law_316 : decode mL_law.2.1 316 = .ok (.aload_n 0, 1) := by decide +kernel
theorem dL_law_317 : decode mL_law.2.1 317 = .ok (.iload_n 3, 1) := by decide +kernel
theorem dL_law_318 : decode mL_law.2.1 318 = .ok (.iconst 1, 1) := by decide +kernel
theorem dL_law_319 : decode mL_law.2.1 319 = .ok (.iadd, 1) := by decide +kernel
theorem dL_law_320 : decode mL_law.2.1 320 = .ok (.iaload, 1) := by decide +kernel
theorem dL_law_321 : decode mL_law.2.1 321 = .ok (.invokevirtual 28, 3) := by decide +kernel
theorem dL_law_324 : decode mL_law.2.1 324 = .ok (.aload_n 2, 1) := by decide +kernel
theorem dL_law_325 : decode mL_law.2.1 325 = .ok (.aload_n 0, 1) := by decide +kernel
theorem dL_law_326 : decode mL_law.2.1 326 = .ok (.iload_n 3, 1) := by decide +kernel
theorem dL_law_327 : decode mL_law.2.1 327 = .ok (.iconst 1, 1) := by decide +kernel
theorem dL_law_328 : decode mL_law.2.1 328 = .ok (.iadd, 1) := by decide +kernel
theorem dL_law_329 : decode mL_law.2.1 329 = .ok (.iaload, 1) := by decide +kernel
theorem dL_law_330 : decode mL_law.2.1 330 = .ok (.invokevirtual 31, 3) := by decide +kernel
theorem dL_law_333 : decode mL_law.2.1 333 = .ok (.if_icmp .eq 1399, 3) := by decide +kernel
theorem dL_law_336 : decode mL_law.2.1 336 = .ok (.iconst 0, 1) := by decide +kernel
theorem dL_law_337 : decode mL_law.2.1 337 = .ok (.ireturn, 1) := by decide +kernel
theorem dL_law_338 : decode mL_law.2.1 338 = .ok (.aload_n 1, 1) := by decide +kernel
theorem dL_law_339 : decode mL_law.2.1 339 = .ok (.aload_n 0, 1) := by decide +kernel
theorem dL_law_340 : decode mL_law.2.1 340 = .ok (.iload_n 3, 1) := by decide +kernel
theorem dL_law_341 : decode mL_law.2.1 341 = .ok (.iconst 1, 1) := by decide +kernel
theorem dL_law_342 : decode mL_law.2.1 342 = .ok (.iadd, 1) := by decide +kernel
theorem dL_law_343 : decode mL_law.2.1 343 = .ok (.iaload, 1) := by decide +kernel
theorem dL_law_344 : decode mL_law.2.1 344 = .ok (.aload_n 0, 1) := by decide +kernel
theorem dL_law_345 : decode mL_law.2.1 345 = .ok (.iload_n 3, 1) := by decide +kernel
theorem dL_law_346 : decode mL_law.2.1 346 = .ok (.iconst 2, 1) := by decide +kernel
theorem dL_law_347 : decode mL_law.2.1 347 = .ok (.iadd, 1) := by decide +kernel
theorem dL_law_348 : decode mL_law.2.1 348 = .ok (.iaload, 1) := by decide +kernel
theorem dL_law_349 : decode mL_law.2.1 349 = .ok (.invokevirtual 32, 3) := by decide +kernel
theorem dL_law_352 : decode mL_law.2.1 352 = .ok (.aload_n 2, 1) := by decide +kernel
theorem dL_law_353 : decode mL_law.2.1 353 = .ok (.aload_n 0, 1) := by decide +kernel
theorem dL_law_354 : decode mL_law.2.1 354 = .ok (.iload_n 3, 1) := by decide +kernel
theorem dL_law_355 : decode mL_law.2.1 355 = .ok (.iconst 1, 1) := by decide +kernel
theorem dL_law_356 : decode mL_law.2.1 356 = .ok (.iadd, 1) := by decide +kernel
theorem dL_law_357 : decode mL_law.2.1 357 = .ok (.iaload, 1) := by decide +kernel
theorem dL_law_358 : decode mL_law.2.1 358 = .ok (.aload_n 0, 1) := by decide +kernel
theorem dL_law_359 : decode mL_law.2.1 359 = .ok (.iload_n 3, 1) := by decide +kernel
theorem dL_law_360 : decode mL_law.2.1 360 = .ok (.iconst 2, 1) := by decide +kernel
theorem dL_law_361 : decode mL_law.2.1 361 = .ok (.iadd, 1) := by decide +kernel
theorem dL_law_362 : decode mL_law.2.1 362 = .ok (.iaload, 1) := by decide +kernel
theorem dL_law_363 : decode mL_law.2.1 363 = .ok (.invokevirtual 36, 3) := by decide +kernel
theorem dL_law_366 : decode mL_law.2.1 366 = .ok (.if_icmp .eq 1366, 3) := by decide +kernel
theorem dL_law_369 : decode mL_law.2.1 369 = .ok (.iconst 0, 1) := by decide +kernel
theorem dL_law_370 : decode mL_law.2.1 370 = .ok (.ireturn, 1) := by decide +kernel
theorem dL_law_371 : decode mL_law.2.1 371 = .ok (.aload_n 1, 1) := by decide +kernel
theorem dL_law_372 : decode mL_law.2.1 372 = .ok (.aload_n 0, 1) := by decide +kernel
theorem dL_law_373 : decode mL_law.2.1 373 = .ok (.iload_n 3, 1) := by decide +kernel
theorem dL_law_374 : decode mL_law.2.1 374 = .ok (.iconst 1, 1) := by decide +kernel
theorem dL_law_375 : decode mL_law.2.1 375 = .ok (.iadd, 1) := by decide +kernel
theorem dL_law_376 : decode mL_law.2.1 376 = .ok (.iaload, 1) := by decide +kernel
theorem dL_law_377 : decode mL_law.2.1 377 = .ok (.aload_n 0, 1) := by decide +kernel
theorem dL_law_378 : decode mL_law.2.1 378 = .ok (.iload_n 3, 1) := by decide +kernel
theorem dL_law_379 : decode mL_law.2.1 379 = .ok (.iconst 2, 1) := by decide +kernel
theorem dL_law_380 : decode mL_law.2.1 380 = .ok (.iadd, 1) := by decide +kernel
theorem dL_law_381 : decode mL_law.2.1 381 = .ok (.iaload, 1) := by decide +kernel
theorem dL_law_382 : decode mL_law.2.1 382 = .ok (.aload_n 0, 1) := by decide +kernel
theorem dL_law_383 : decode mL_law.2.1 383 = .ok (.iload_n 3, 1) := by decide +kernel
theorem dL_law_384 : decode mL_law.2.1 384 = .ok (.iconst 3, 1) := by decide +kernel
theorem dL_law_385 : decode mL_law.2.1 385 = .ok (.iadd, 1) := by decide +kernel
theorem dL_law_386 : decode mL_law.2.1 386 = .ok (.iaload, 1) := by decide +kernel
theorem dL_law_387 : decode mL_law.2.1 387 = .ok (.invokevirtual 37, 3) := by decide +kernel
theorem dL_law_390 : decode mL_law.2.1 390 = .ok (.aload_n 2, 1) := by decide +kernel
theorem dL_law_391 : decode mL_law.2.1 391 = .ok (.aload_n 0, 1) := by decide +kernel
theorem dL_law_392 : decode mL_law.2.1 392 = .ok (.iload_n 3, 1) := by decide +kernel
theorem dL_law_393 : decode mL_law.2.1 393 = .ok (.iconst 1, 1) := by decide +kernel
theorem dL_law_394 : decode mL_law.2.1 394 = .ok (.iadd, 1) := by decide +kernel
theorem dL_law_395 : decode mL_law.2.1 395 = .ok (.iaload, 1) := by decide +kernel
theorem dL_law_396 : decode mL_law.2.1 396 = .ok (.aload_n 0, 1) := by decide +kernel
theorem dL_law_397 : decode mL_law.2.1 397 = .ok (.iload_n 3, 1) := by decide +kernel
theorem dL_law_398 : decode mL_law.2.1 398 = .ok (.iconst 2, 1) := by decide +kernel
theorem dL_law_399 : decode mL_law.2.1 399 = .ok (.iadd, 1) := by decide +kernel
theorem dL_law_400 : decode mL_law.2.1 400 = .ok (.iaload, 1) := by decide +kernel
theorem dL_law_401 : decode mL_law.2.1 401 = .ok (.aload_n 0, 1) := by decide +kernel
theorem dL_law_402 : decode mL_law.2.1 402 = .ok (.iload_n 3, 1) := by decide +kernel
theorem dL_law_403 : decode mL_law.2.1 403 = .ok (.iconst 3, 1) := by decide +kernel
theorem dL_law_404 : decode mL_law.2.1 404 = .ok (.iadd, 1) := by decide +kernel
theorem dL_law_405 : decode mL_law.2.1 405 = .ok (.iaload, 1) := by decide +kernel
theorem dL_law_406 : decode mL_law.2.1 406 = .ok (.invokevirtual 41, 3) := by decide +kernel
theorem dL_law_409 : decode mL_law.2.1 409 = .ok (.if_icmp .eq 1323, 3) := by decide +kernel
theorem dL_law_412 : decode mL_law.2.1 412 = .ok (.iconst 0, 1) := by decide +kernel
theorem dL_law_413 : decode mL_law.2.1 413 = .ok (.ireturn, 1) := by decide +kernel
theorem dL_law_414 : decode mL_law.2.1 414 = .ok (.aload_n 1, 1) := by decide +kernel
theorem dL_law_415 : decode mL_law.2.1 415 = .ok (.aload_n 0, 1) := by decide +kernel
theorem dL_law_416 : decode mL_law.2.1 416 = .ok (.iload_n 3, 1) := by decide +kernel
theorem dL_law_417 : decode mL_law.2.1 417 = .ok (.iconst 1, 1) := by decide +kernel
theorem dL_law_418 : decode mL_law.2.1 418 = .ok (.iadd, 1) := by decide +kernel
theorem dL_law_419 : decode mL_law.2.1 419 = .ok (.iaload, 1) := by decide +kernel
theorem dL_law_420 : decode mL_law.2.1 420 = .ok (.aload_n 0, 1) := by decide +kernel
theorem dL_law_421 : decode mL_law.2.1 421 = .ok (.iload_n 3, 1) := by decide +kernel
theorem dL_law_422 : decode mL_law.2.1 422 = .ok (.iconst 2, 1) := by decide +kernel
theorem dL_law_423 : decode mL_law.2.1 423 = .ok (.iadd, 1) := by decide +kernel
theorem dL_law_424 : decode mL_law.2.1 424 = .ok (.iaload, 1) := by decide +kernel
theorem dL_law_425 : decode mL_law.2.1 425 = .ok (.invokevirtual 42, 3) := by decide +kernel
theorem dL_law_428 : decode mL_law.2.1 428 = .ok (.aload_n 2, 1) := by decide +kernel
theorem dL_law_429 : decode mL_law.2.1 429 = .ok (.aload_n 0, 1) := by decide +kernel
theorem dL_law_430 : decode mL_law.2.1 430 = .ok (.iload_n 3, 1) := by decide +kernel
theorem dL_law_431 : decode mL_law.2.1 431 = .ok (.iconst 1, 1) := by decide +kernel
theorem dL_law_432 : decode mL_law.2.1 432 = .ok (.iadd, 1) := by decide +kernel
theorem dL_law_433 : decode mL_law.2.1 433 = .ok (.iaload, 1) := by decide +kernel
theorem dL_law_434 : decode mL_law.2.1 434 = .ok (.aload_n 0, 1) := by decide +kernel
theorem dL_law_435 : decode mL_law.2.1 435 = .ok (.iload_n 3, 1) := by decide +kernel
theorem dL_law_436 : decode mL_law.2.1 436 = .ok (.iconst 2, 1) := by decide +kernel
theorem dL_law_437 : decode mL_law.2.1 437 = .ok (.iadd, 1) := by decide +kernel
theorem dL_law_438 : decode mL_law.2.1 438 = .ok (.iaload, 1) := by decide +kernel
theorem dL_law_439 : decode mL_law.2.1 439 = .ok (.invokevirtual 45, 3) := by decide +kernel
theorem dL_law_442 : decode mL_law.2.1 442 = .ok (.if_icmp .eq 1290, 3) := by decide +kernel
theorem dL_law_445 : decode mL_law.2.1 445 = .ok (.iconst 0, 1) := by decide +kernel
theorem dL_law_446 : decode mL_law.2.1 446 = .ok (.ireturn, 1) := by decide +kernel
theorem dL_law_447 : decode mL_law.2.1 447 = .ok (.aload_n 1, 1) := by decide +kernel
theorem dL_law_448 : decode mL_law.2.1 448 = .ok (.invokevirtual 46, 3) := by decide +kernel
theorem dL_law_451 : decode mL_law.2.1 451 = .ok (.aload_n 2, 1) := by decide +kernel
theorem dL_law_452 : decode mL_law.2.1 452 = .ok (.invokevirtual 49, 3) := by decide +kernel
theorem dL_law_455 : decode mL_law.2.1 455 = .ok (.if_icmp .eq 1277, 3) := by decide +kernel
theorem dL_law_458 : decode mL_law.2.1 458 = .ok (.iconst 0, 1) := by decide +kernel
theorem dL_law_459 : decode mL_law.2.1 459 = .ok (.ireturn, 1) := by decide +kernel
theorem dL_law_460 : decode mL_law.2.1 460 = .ok (.aload_n 1, 1) := by decide +kernel
theorem dL_law_461 : decode mL_law.2.1 461 = .ok (.aload_n 0, 1) := by decide +kernel
theorem dL_law_462 : decode mL_law.2.1 462 = .ok (.iload_n 3, 1) := by decide +kernel
theorem dL_law_463 : decode mL_law.2.1 463 = .ok (.iconst 1, 1) := by decide +kernel
theorem dL_law_464 : decode mL_law.2.1 464 = .ok (.iadd, 1) := by decide +kernel
theorem dL_law_465 : decode mL_law.2.1 465 = .ok (.iaload, 1) := by decide +kernel
theorem dL_law_466 : decode mL_law.2.1 466 = .ok (.invokevirtual 50, 3) := by decide +kernel
theorem dL_law_469 : decode mL_law.2.1 469 = .ok (.aload_n 2, 1) := by decide +kernel
theorem dL_law_470 : decode mL_law.2.1 470 = .ok (.aload_n 0, 1) := by decide +kernel
theorem dL_law_471 : decode mL_law.2.1 471 = .ok (.iload_n 3, 1) := by decide +kernel
theorem dL_law_472 : decode mL_law.2.1 472 = .ok (.iconst 1, 1) := by decide +kernel
theorem dL_law_473 : decode mL_law.2.1 473 = .ok (.iadd, 1) := by decide +kernel
theorem dL_law_474 : decode mL_law.2.1 474 = .ok (.iaload, 1) := by decide +kernel
theorem dL_law_475 : decode mL_law.2.1 475 = .ok (.invokevirtual 54, 3) := by decide +kernel
theorem dL_law_478 : decode mL_law.2.1 478 = .ok (.if_icmp .eq 1254, 3) := by decide +kernel
theorem dL_law_481 : decode mL_law.2.1 481 = .ok (.iconst 0, 1) := by decide +kernel
theorem dL_law_482 : decode mL_law.2.1 482 = .ok (.ireturn, 1) := by decide +kernel
theorem dL_law_483 : decode mL_law.2.1 483 = .ok (.aload_n 1, 1) := by decide +kernel
theorem dL_law_484 : decode mL_law.2.1 484 = .ok (.aload_n 0, 1) := by decide +kernel
theorem dL_law_485 : decode mL_law.2.1 485 = .ok (.iload_n 3, 1) := by decide +kernel
theorem dL_law_486 : decode mL_law.2.1 486 = .ok (.iconst 1, 1) := by decide +kernel
theorem dL_law_487 : decode mL_law.2.1 487 = .ok (.iadd, 1) := by decide +kernel
theorem dL_law_488 : decode mL_law.2.1 488 = .ok (.iaload, 1) := by decide +kernel
theorem dL_law_489 : decode mL_law.2.1 489 = .ok (.invokevirtual 55, 3) := by decide +kernel
theorem dL_law_492 : decode mL_law.2.1 492 = .ok (.aload_n 2, 1) := by decide +kernel
theorem dL_law_493 : decode mL_law.2.1 493 = .ok (.aload_n 0, 1) := by decide +kernel
theorem dL_law_494 : decode mL_law.2.1 494 = .ok (.iload_n 3, 1) := by decide +kernel
theorem dL_law_495 : decode mL_law.2.1 495 = .ok (.iconst 1, 1) := by decide +kernel
theorem dL_law_496 : decode mL_law.2.1 496 = .ok (.iadd, 1) := by decide +kernel
theorem dL_law_497 : decode mL_law.2.1 497 = .ok (.iaload, 1) := by decide +kernel
theorem dL_law_498 : decode mL_law.2.1 498 = .ok (.invokevirtual 58, 3) := by decide +kernel
theorem dL_law_501 : decode mL_law.2.1 501 = .ok (.if_icmp .eq 1231, 3) := by decide +kernel
theorem dL_law_504 : decode mL_law.2.1 504 = .ok (.iconst 0, 1) := by decide +kernel
theorem dL_law_505 : decode mL_law.2.1 505 = .ok (.ireturn, 1) := by decide +kernel
theorem dL_law_506 : decode mL_law.2.1 506 = .ok (.aload_n 1, 1) := by decide +kernel
theorem dL_law_507 : decode mL_law.2.1 507 = .ok (.aload_n 0, 1) := by decide +kernel
theorem dL_law_508 : decode mL_law.2.1 508 = .ok (.iload_n 3, 1) := by decide +kernel
theorem dL_law_509 : decode mL_law.2.1 509 = .ok (.iconst 1, 1) := by decide +kernel
theorem dL_law_510 : decode mL_law.2.1 510 = .ok (.iadd, 1) := by decide +kernel
theorem dL_law_511 : decode mL_law.2.1 511 = .ok (.iaload, 1) := by decide +kernel
theorem dL_law_512 : decode mL_law.2.1 512 = .ok (.aload_n 0, 1) := by decide +kernel
theorem dL_law_513 : decode mL_law.2.1 513 = .ok (.iload_n 3, 1) := by decide +kernel
theorem dL_law_514 : decode mL_law.2.1 514 = .ok (.iconst 2, 1) := by decide +kernel
theorem dL_law_515 : decode mL_law.2.1 515 = .ok (.iadd, 1) := by decide +kernel
theorem dL_law_516 : decode mL_law.2.1 516 = .ok (.iaload, 1) := by decide +kernel
theorem dL_law_517 : decode mL_law.2.1 517 = .ok (.invokevirtual 59, 3) := by decide +kernel
theorem dL_law_520 : decode mL_law.2.1 520 = .ok (.aload_n 2, 1) := by decide +kernel
theorem dL_law_521 : decode mL_law.2.1 521 = .ok (.aload_n 0, 1) := by decide +kernel
theorem dL_law_522 : decode mL_law.2.1 522 = .ok (.iload_n 3, 1) := by decide +kernel
theorem dL_law_523 : decode mL_law.2.1 523 = .ok (.iconst 1, 1) := by decide +kernel
theorem dL_law_524 : decode mL_law.2.1 524 = .ok (.iadd, 1) := by decide +kernel
theorem dL_law_525 : decode mL_law.2.1 525 = .ok (.iaload, 1) := by decide +kernel
theorem dL_law_526 : decode mL_law.2.1 526 = .ok (.aload_n 0, 1) := by decide +kernel
theorem dL_law_527 : decode mL_law.2.1 527 = .ok (.iload_n 3, 1) := by decide +kernel
theorem dL_law_528 : decode mL_law.2.1 528 = .ok (.iconst 2, 1) := by decide +kernel
theorem dL_law_529 : decode mL_law.2.1 529 = .ok (.iadd, 1) := by decide +kernel
theorem dL_law_530 : decode mL_law.2.1 530 = .ok (.iaload, 1) := by decide +kernel
theorem dL_law_531 : decode mL_law.2.1 531 = .ok (.invokevirtual 62, 3) := by decide +kernel
theorem dL_law_534 : decode mL_law.2.1 534 = .ok (.if_icmp .eq 1198, 3) := by decide +kernel
theorem dL_law_537 : decode mL_law.2.1 537 = .ok (.iconst 0, 1) := by decide +kernel
theorem dL_law_538 : decode mL_law.2.1 538 = .ok (.ireturn, 1) := by decide +kernel
theorem dL_law_539 : decode mL_law.2.1 539 = .ok (.aload_n 1, 1) := by decide +kernel
theorem dL_law_540 : decode mL_law.2.1 540 = .ok (.aload_n 0, 1) := by decide +kernel
theorem dL_law_541 : decode mL_law.2.1 541 = .ok (.iload_n 3, 1) := by decide +kernel
theorem dL_law_542 : decode mL_law.2.1 542 = .ok (.iconst 1, 1) := by decide +kernel
theorem dL_law_543 : decode mL_law.2.1 543 = .ok (.iadd, 1) := by decide +kernel
theorem dL_law_544 : decode mL_law.2.1 544 = .ok (.iaload, 1) := by decide +kernel
theorem dL_law_545 : decode mL_law.2.1 545 = .ok (.invokevirtual 63, 3) := by decide +kernel
theorem dL_law_548 : decode mL_law.2.1 548 = .ok (.aload_n 2, 1) := by decide +kernel
theorem dL_law_549 : decode mL_law.2.1 549 = .ok (.aload_n 0, 1) := by decide +kernel
theorem dL_law_550 : decode mL_law.2.1 550 = .ok (.iload_n 3, 1) := by decide +kernel
theorem dL_law_551 : decode mL_law.2.1 551 = .ok (.iconst 1, 1) := by decide +kernel
theorem dL_law_552 : decode mL_law.2.1 552 = .ok (.iadd, 1) := by decide +kernel
theorem dL_law_553 : decode mL_law.2.1 553 = .ok (.iaload, 1) := by decide +kernel
theorem dL_law_554 : decode mL_law.2.1 554 = .ok (.invokevirtual 66, 3) := by decide +kernel
theorem dL_law_557 : decode mL_law.2.1 557 = .ok (.if_icmp .eq 1175, 3) := by decide +kernel
theorem dL_law_560 : decode mL_law.2.1 560 = .ok (.iconst 0, 1) := by decide +kernel
theorem dL_law_561 : decode mL_law.2.1 561 = .ok (.ireturn, 1) := by decide +kernel
theorem dL_law_562 : decode mL_law.2.1 562 = .ok (.aload_n 1, 1) := by decide +kernel
theorem dL_law_563 : decode mL_law.2.1 563 = .ok (.aload_n 0, 1) := by decide +kernel
theorem dL_law_564 : decode mL_law.2.1 564 = .ok (.iload_n 3, 1) := by decide +kernel
theorem dL_law_565 : decode mL_law.2.1 565 = .ok (.iconst 1, 1) := by decide +kernel
theorem dL_law_566 : decode mL_law.2.1 566 = .ok (.iadd, 1) := by decide +kernel
theorem dL_law_567 : decode mL_law.2.1 567 = .ok (.iaload, 1) := by decide +kernel
theorem dL_law_568 : decode mL_law.2.1 568 = .ok (.aload_n 0, 1) := by decide +kernel
theorem dL_law_569 : decode mL_law.2.1 569 = .ok (.iload_n 3, 1) := by decide +kernel
theorem dL_law_570 : decode mL_law.2.1 570 = .ok (.iconst 2, 1) := by decide +kernel
theorem dL_law_571 : decode mL_law.2.1 571 = .ok (.iadd, 1) := by decide +kernel
theorem dL_law_572 : decode mL_law.2.1 572 = .ok (.iaload, 1) := by decide +kernel
theorem dL_law_573 : decode mL_law.2.1 573 = .ok (.ifCond .eq 7, 3) := by decide +kernel
theorem dL_law_576 : decode mL_law.2.1 576 = .ok (.iconst 1, 1) := by decide +kernel
theorem dL_law_577 : decode mL_law.2.1 577 = .ok (.goto 4, 3) := by decide +kernel
theorem dL_law_580 : decode mL_law.2.1 580 = .ok (.iconst 0, 1) := by decide +kernel
theorem dL_law_581 : decode mL_law.2.1 581 = .ok (.aload_n 0, 1) := by decide +kernel
