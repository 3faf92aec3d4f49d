/-! ===== the law: decode rows, links, the script ===== -/
theorem dc_L_law_0 : decode mL_law.2.1 0 = .ok (.new 7, 3) := by decide +kernel
theorem dc_L_law_3 : decode mL_law.2.1 3 = .ok (.dup, 1) := by decide +kernel
theorem dc_L_law_4 : decode mL_law.2.1 4 = .ok (.invokespecial 9, 3) := by decide +kernel
theorem dc_L_law_7 : decode mL_law.2.1 7 = .ok (.astore_n 1, 1) := by decide +kernel
theorem dc_L_law_8 : decode mL_law.2.1 8 = .ok (.new 10, 3) := by decide +kernel
theorem dc_L_law_11 : decode mL_law.2.1 11 = .ok (.dup, 1) := by decide +kernel
theorem dc_L_law_12 : decode mL_law.2.1 12 = .ok (.invokespecial 12, 3) := by decide +kernel
theorem dc_L_law_15 : decode mL_law.2.1 15 = .ok (.astore_n 2, 1) := by decide +kernel
theorem dc_L_law_16 : decode mL_law.2.1 16 = .ok (.iconst 0, 1) := by decide +kernel
theorem dc_L_law_17 : decode mL_law.2.1 17 = .ok (.istore_n 3, 1) := by decide +kernel
theorem dc_L_law_18 : decode mL_law.2.1 18 = .ok (.iload_n 3, 1) := by decide +kernel
theorem dc_L_law_19 : decode mL_law.2.1 19 = .ok (.aload_n 0, 1) := by decide +kernel
theorem dc_L_law_20 : decode mL_law.2.1 20 = .ok (.arraylength, 1) := by decide +kernel
theorem dc_L_law_21 : decode mL_law.2.1 21 = .ok (.bipush 6, 2) := by decide +kernel
theorem dc_L_law_23 : decode mL_law.2.1 23 = .ok (.isub, 1) := by decide +kernel
theorem dc_L_law_24 : decode mL_law.2.1 24 = .ok (.if_icmp .gt 1375, 3) := by decide +kernel
theorem dc_L_law_27 : decode mL_law.2.1 27 = .ok (.aload_n 0, 1) := by decide +kernel
theorem dc_L_law_28 : decode mL_law.2.1 28 = .ok (.iload_n 3, 1) := by decide +kernel
theorem dc_L_law_29 : decode mL_law.2.1 29 = .ok (.iaload, 1) := by decide +kernel
theorem dc_L_law_30 : decode mL_law.2.1 30 = .ok (.bipush 63, 2) := by decide +kernel
theorem dc_L_law_32 : decode mL_law.2.1 32 = .ok (.iand, 1) := by decide +kernel
theorem dc_L_law_33 : decode mL_law.2.1 33 = .ok (.tableswitch 1360 0 41 #[183, 216, 239, 272, 305, 348, 371, 394, 417, 460, 493, 516, 549, 582, 595, 618, 641, 674, 707, 740, 773, 796, 819, 842, 875, 898, 932, 955, 988, 1001, 1014, 1047, 1080, 1123, 1166, 1229, 1252, 1275, 1288, 1301, 1314, 1337], 183) := by decide +kernel
theorem dc_L_law_216 : decode mL_law.2.1 216 = .ok (.aload_n 1, 1) := by decide +kernel
theorem dc_L_law_217 : decode mL_law.2.1 217 = .ok (.aload_n 0, 1) := by decide +kernel
theorem dc_L_law_218 : decode mL_law.2.1 218 = .ok (.iload_n 3, 1) := by decide +kernel
theorem dc_L_law_219 : decode mL_law.2.1 219 = .ok (.iconst 1, 1) := by decide +kernel
theorem dc_L_law_220 : decode mL_law.2.1 220 = .ok (.iadd, 1) := by decide +kernel
theorem dc_L_law_221 : decode mL_law.2.1 221 = .ok (.iaload, 1) := by decide +kernel
theorem dc_L_law_222 : decode mL_law.2.1 222 = .ok (.aload_n 0, 1) := by decide +kernel
theorem dc_L_law_223 : decode mL_law.2.1 223 = .ok (.iload_n 3, 1) := by decide +kernel
theorem dc_L_law_224 : decode mL_law.2.1 224 = .ok (.iconst 2, 1) := by decide +kernel
theorem dc_L_law_225 : decode mL_law.2.1 225 = .ok (.iadd, 1) := by decide +kernel
theorem dc_L_law_226 : decode mL_law.2.1 226 = .ok (.iaload, 1) := by decide +kernel
theorem dc_L_law_227 : decode mL_law.2.1 227 = .ok (.invokevirtual 13, 3) := by decide +kernel
theorem dc_L_law_230 : decode mL_law.2.1 230 = .ok (.aload_n 2, 1) := by decide +kernel
theorem dc_L_law_231 : decode mL_law.2.1 231 = .ok (.aload_n 0, 1) := by decide +kernel
theorem dc_L_law_232 : decode mL_law.2.1 232 = .ok (.iload_n 3, 1) := by decide +kernel
theorem dc_L_law_233 : decode mL_law.2.1 233 = .ok (.iconst 1, 1) := by decide +kernel
theorem dc_L_law_234 : decode mL_law.2.1 234 = .ok (.iadd, 1) := by decide +kernel
theorem dc_L_law_235 : decode mL_law.2.1 235 = .ok (.iaload, 1) := by decide +kernel
theorem dc_L_law_236 : decode mL_law.2.1 236 = .ok (.aload_n 0, 1) := by decide +kernel
theorem dc_L_law_237 : decode mL_law.2.1 237 = .ok (.iload_n 3, 1) := by decide +kernel
theorem dc_L_law_238 : decode mL_law.2.1 238 = .ok (.iconst 2, 1) := by decide +kernel
theorem dc_L_law_239 : decode mL_law.2.1 239 = .ok (.iadd, 1) := by decide +kernel
theorem dc_L_law_240 : decode mL_law.2.1 240 = .ok (.iaload, 1) := by decide +kernel
theorem dc_L_law_241 : decode mL_law.2.1 241 = .ok (.invokevirtual 17, 3) := by decide +kernel
theorem dc_L_law_244 : decode mL_law.2.1 244 = .ok (.if_icmp .eq 1149, 3) := by decide +kernel
theorem dc_L_law_247 : decode mL_law.2.1 247 = .ok (.iconst 0, 1) := by decide +kernel
theorem dc_L_law_248 : decode mL_law.2.1 248 = .ok (.ireturn, 1) := by decide +kernel
theorem dc_L_law_249 : decode mL_law.2.1 249 = .ok (.aload_n 1, 1) := by decide +kernel
theorem dc_L_law_250 : decode mL_law.2.1 250 = .ok (.aload_n 0, 1) := by decide +kernel
theorem dc_L_law_251 : decode mL_law.2.1 251 = .ok (.iload_n 3, 1) := by decide +kernel
theorem dc_L_law_252 : decode mL_law.2.1 252 = .ok (.iconst 1, 1) := by decide +kernel
theorem dc_L_law_253 : decode mL_law.2.1 253 = .ok (.iadd, 1) := by decide +kernel
theorem dc_L_law_254 : decode mL_law.2.1 254 = .ok (.iaload, 1) := by decide +kernel
theorem dc_L_law_255 : decode mL_law.2.1 255 = .ok (.invokevirtual 18, 3) := by decide +kernel
theorem dc_L_law_258 : decode mL_law.2.1 258 = .ok (.aload_n 2, 1) := by decide +kernel
theorem dc_L_law_259 : decode mL_law.2.1 259 = .ok (.aload_n 0, 1) := by decide +kernel
theorem dc_L_law_260 : decode mL_law.2.1 260 = .ok (.iload_n 3, 1) := by decide +kernel
theorem dc_L_law_261 : decode mL_law.2.1 261 = .ok (.iconst 1, 1) := by decide +kernel
theorem dc_L_law_262 : decode mL_law.2.1 262 = .ok (.iadd, 1) := by decide +kernel
theorem dc_L_law_263 : decode mL_law.2.1 263 = .ok (.iaload, 1) := by decide +kernel
theorem dc_L_law_264 : decode mL_law.2.1 264 = .ok (.invokevirtual 22, 3) := by decide +kernel
theorem dc_L_law_267 : decode mL_law.2.1 267 = .ok (.if_icmp .eq 1126, 3) := by decide +kernel
theorem dc_L_law_270 : decode mL_law.2.1 270 = .ok (.iconst 0, 1) := by decide +kernel
theorem dc_L_law_271 : decode mL_law.2.1 271 = .ok (.ireturn, 1) := by decide +kernel
theorem dc_L_law_272 : decode mL_law.2.1 272 = .ok (.aload_n 1, 1) := by decide +kernel
theorem dc_L_law_273 : decode mL_law.2.1 273 = .ok (.aload_n 0, 1) := by decide +kernel
theorem dc_L_law_274 : decode mL_law.2.1 274 = .ok (.iload_n 3, 1) := by decide +kernel
theorem dc_L_law_275 : decode mL_law.2.1 275 = .ok (.iconst 1, 1) := by decide +kernel
theorem dc_L_law_276 : decode mL_law.2.1 276 = .ok (.iadd, 1) := by decide +kernel
theorem dc_L_law_277 : decode mL_law.2.1 277 = .ok (.iaload, 1) := by decide +kernel
theorem dc_L_law_278 : decode mL_law.2.1 278 = .ok (.aload_n 0, 1) := by decide +kernel
theorem dc_L_law_279 : decode mL_law.2.1 279 = .ok (.iload_n 3, 1) := by decide +kernel
theorem dc_L_law_280 : decode mL_law.2.1 280 = .ok (.iconst 2, 1) := by decide +kernel
theorem dc_L_law_281 : decode mL_law.2.1 281 = .ok (.iadd, 1) := by decide +kernel
theorem dc_L_law_282 : decode mL_law.2.1 282 = .ok (.iaload, 1) := by decide +kernel
theorem dc_L_law_283 : decode mL_law.2.1 283 = .ok (.invokevirtual 23, 3) := by decide +kernel
theorem dc_L_law_286 : decode mL_law.2.1 286 = .ok (.aload_n 2, 1) := by decide +kernel
theorem dc_L_law_287 : decode mL_law.2.1 287 = .ok (.aload_n 0, 1) := by decide +kernel
theorem dc_L_law_288 : decode mL_law.2.1 288 = .ok (.iload_n 3, 1) := by decide +kernel
theorem dc_L_law_289 : decode mL_law.2.1 289 = .ok (.iconst 1, 1) := by decide +kernel
theorem dc_L_law_290 : decode mL_law.2.1 290 = .ok (.iadd, 1) := by decide +kernel
theorem dc_L_law_291 : decode mL_law.2.1 291 = .ok (.iaload, 1) := by decide +kernel
theorem dc_L_law_292 : decode mL_law.2.1 292 = .ok (.aload_n 0, 1) := by decide +kernel
theorem dc_L_law_293 : decode mL_law.2.1 293 = .ok (.iload_n 3, 1) := by decide +kernel
theorem dc_L_law_294 : decode mL_law.2.1 294 = .ok (.iconst 2, 1) := by decide +kernel
theorem dc_L_law_295 : decode mL_law.2.1 295 = .ok (.iadd, 1) := by decide +kernel
theorem dc_L_law_296 : decode mL_law.2.1 296 = .ok (.iaload, 1) := by decide +kernel
theorem dc_L_law_297 : decode mL_law.2.1 297 = .ok (.invokevirtual 26, 3) := by decide +kernel
theorem dc_L_law_300 : decode mL_law.2.1 300 = .ok (.if_icmp .eq 1093, 3) := by decide +kernel
theorem dc_L_law_303 : decode mL_law.2.1 303 = .ok (.iconst 0, 1) := by decide +kernel
theorem dc_L_law_304 : decode mL_law.2.1 304 = .ok (.ireturn, 1) := by decide +kernel
theorem dc_L_law_305 : decode mL_law.2.1 305 = .ok (.aload_n 1, 1) := by decide +kernel
theorem dc_L_law_306 : decode mL_law.2.1 306 = .ok (.aload_n 0, 1) := by decide +kernel
theorem dc_L_law_307 : decode mL_law.2.1 307 = .ok (.iload_n 3, 1) := by decide +kernel
theorem dc_L_law_308 : decode mL_law.2.1 308 = .ok (.iconst 1, 1) := by decide +kernel
theorem dc_L_law_309 : decode mL_law.2.1 309 = .ok (.iadd, 1) := by decide +kernel
theorem dc_L_law_310 : decode mL_law.2.1 310 = .ok (.iaload, 1) := by decide +kernel
theorem dc_L_law_311 : decode mL_law.2.1 311 = .ok (.aload_n 0, 1) := by decide +kernel
theorem dc_L_law_312 : decode mL_law.2.1 312 = .ok (.iload_n 3, 1) := by decide +kernel
theorem dc_L_law_313 : decode mL_law.2.1 313 = .ok (.iconst 2, 1) := by decide +kernel
theorem dc_L_law_314 : decode mL_law.2.1 314 = .ok (.iadd, 1) := by decide +kernel
theorem dc_L_law_315 : decode mL_law.2.1 315 = .ok (.iaload, 1) := by decide +kernel
theorem dc_L_law_316 : decode mL_law.2.1 316 = .ok (.invokevirtual 27, 3) := by decide +kernel
theorem dc_L_law_319 : decode mL_law.2.1 319 = .ok (.aload_n 2, 1) := by decide +kernel
theorem dc_L_law_320 : decode mL_law.2.1 320 = .ok (.aload_n 0, 1) := by decide +kernel
theorem dc_L_law_321 : decode mL_law.2.1 321 = .ok (.iload_n 3, 1) := by decide +kernel
theorem dc_L_law_322 : decode mL_law.2.1 322 = .ok (.iconst 1, 1) := by decide +kernel
theorem dc_L_law_323 : decode mL_law.2.1 323 = .ok (.iadd, 1) := by decide +kernel
theorem dc_L_law_324 : decode mL_law.2.1 324 = .ok (.iaload, 1) := by decide +kernel
theorem dc_L_law_325 : decode mL_law.2.1 325 = .ok (.aload_n 0, 1) := by decide +kernel
theorem dc_L_law_326 : decode mL_law.2.1 326 = .ok (.iload_n 3, 1) := by decide +kernel
theorem dc_L_law_327 : decode mL_law.2.1 327 = .ok (.iconst 2, 1) := by decide +kernel
theorem dc_L_law_328 : decode mL_law.2.1 328 = .ok (.iadd, 1) := by decide +kernel
theorem dc_L_law_329 : decode mL_law.2.1 329 = .ok (.iaload, 1) := by decide +kernel
theorem dc_L_law_330 : decode mL_law.2.1 330 = .ok (.invokevirtual 30, 3) := by decide +kernel
theorem dc_L_law_333 : decode mL_law.2.1 333 = .ok (.if_icmp .eq 1060, 3) := by decide +kernel
theorem dc_L_law_336 : decode mL_law.2.1 336 = .ok (.iconst 0, 1) := by decide +kernel
theorem dc_L_law_337 : decode mL_law.2.1 337 = .ok (.ireturn, 1) := by decide +kernel
theorem dc_L_law_338 : decode mL_law.2.1 338 = .ok (.aload_n 1, 1) := by decide +kernel
theorem dc_L_law_339 : decode mL_law.2.1 339 = .ok (.aload_n 0, 1) := by decide +kernel
theorem dc_L_law_340 : decode mL_law.2.1 340 = .ok (.iload_n 3, 1) := by decide +kernel
theorem dc_L_law_341 : decode mL_law.2.1 341 = .ok (.iconst 1, 1) := by decide +kernel
theorem dc_L_law_342 : decode mL_law.2.1 342 = .ok (.iadd, 1) := by decide +kernel
theorem dc_L_law_343 : decode mL_law.2.1 343 = .ok (.iaload, 1) := by decide +kernel
theorem dc_L_law_344 : decode mL_law.2.1 344 = .ok (.aload_n 0, 1) := by decide +kernel
theorem dc_L_law_345 : decode mL_law.2.1 345 = .ok (.iload_n 3, 1) := by decide +kernel
theorem dc_L_law_346 : decode mL_law.2.1 346 = .ok (.iconst 2, 1) := by decide +kernel
theorem dc_L_law_347 : decode mL_law.2.1 347 = .ok (.iadd, 1) := by decide +kernel
theorem dc_L_law_348 : decode mL_law.2.1 348 = .ok (.iaload, 1) := by decide +kernel
theorem dc_L_law_349 : decode mL_law.2.1 349 = .ok (.aload_n 0, 1) := by decide +kernel
theorem dc_L_law_350 : decode mL_law.2.1 350 = .ok (.iload_n 3, 1) := by decide +kernel
theorem dc_L_law_351 : decode mL_law.2.1 351 = .ok (.iconst 3, 1) := by decide +kernel
theorem dc_L_law_352 : decode mL_law.2.1 352 = .ok (.iadd, 1) := by decide +kernel
theorem dc_L_law_353 : decode mL_law.2.1 353 = .ok (.iaload, 1) := by decide +kernel
theorem dc_L_law_354 : decode mL_law.2.1 354 = .ok (.invokevirtual 31, 3) := by decide +kernel
theorem dc_L_law_357 : decode mL_law.2.1 357 = .ok (.aload_n 2, 1) := by decide +kernel
theorem dc_L_law_358 : decode mL_law.2.1 358 = .ok (.aload_n 0, 1) := by decide +kernel
theorem dc_L_law_359 : decode mL_law.2.1 359 = .ok (.iload_n 3, 1) := by decide +kernel
theorem dc_L_law_360 : decode mL_law.2.1 360 = .ok (.iconst 1, 1) := by decide +kernel
theorem dc_L_law_361 : decode mL_law.2.1 361 = .ok (.iadd, 1) := by decide +kernel
theorem dc_L_law_362 : decode mL_law.2.1 362 = .ok (.iaload, 1) := by decide +kernel
theorem dc_L_law_363 : decode mL_law.2.1 363 = .ok (.aload_n 0, 1) := by decide +kernel
theorem dc_L_law_364 : decode mL_law.2.1 364 = .ok (.iload_n 3, 1) := by decide +kernel
theorem dc_L_law_365 : decode mL_law.2.1 365 = .ok (.iconst 2, 1) := by decide +kernel
theorem dc_L_law_366 : decode mL_law.2.1 366 = .ok (.iadd, 1) := by decide +kernel
theorem dc_L_law_367 : decode mL_law.2.1 367 = .ok (.iaload, 1) := by decide +kernel
theorem dc_L_law_368 : decode mL_law.2.1 368 = .ok (.aload_n 0, 1) := by decide +kernel
theorem dc_L_law_369 : decode mL_law.2.1 369 = .ok (.iload_n 3, 1) := by decide +kernel
theorem dc_L_law_370 : decode mL_law.2.1 370 = .ok (.iconst 3, 1) := by decide +kernel
theorem dc_L_law_371 : decode mL_law.2.1 371 = .ok (.iadd, 1) := by decide +kernel
theorem dc_L_law_372 : decode mL_law.2.1 372 = .ok (.iaload, 1) := by decide +kernel
theorem dc_L_law_373 : decode mL_law.2.1 373 = .ok (.invokevirtual 35, 3) := by decide +kernel
theorem dc_L_law_376 : decode mL_law.2.1 376 = .ok (.if_icmp .eq 1017, 3) := by decide +kernel
theorem dc_L_law_379 : decode mL_law.2.1 379 = .ok (.iconst 0, 1) := by decide +kernel
theorem dc_L_law_380 : decode mL_law.2.1 380 = .ok (.ireturn, 1) := by decide +kernel
theorem dc_L_law_381 : decode mL_law.2.1 381 = .ok (.aload_n 1, 1) := by decide +kernel
theorem dc_L_law_382 : decode mL_law.2.1 382 = .ok (.aload_n 0, 1) := by decide +kernel
theorem dc_L_law_383 : decode mL_law.2.1 383 = .ok (.iload_n 3, 1) := by decide +kernel
theorem dc_L_law_384 : decode mL_law.2.1 384 = .ok (.iconst 1, 1) := by decide +kernel
theorem dc_L_law_385 : decode mL_law.2.1 385 = .ok (.iadd, 1) := by decide +kernel
theorem dc_L_law_386 : decode mL_law.2.1 386 = .ok (.iaload, 1) := by decide +kernel
theorem dc_L_law_387 : decode mL_law.2.1 387 = .ok (.invokevirtual 36, 3) := by decide +kernel
theorem dc_L_law_390 : decode mL_law.2.1 390 = .ok (.aload_n 2, 1) := by decide +kernel
theorem dc_L_law_391 : decode mL_law.2.1 391 = .ok (.aload_n 0, 1) := by decide +kernel
theorem dc_L_law_392 : decode mL_law.2.1 392 = .ok (.iload_n 3, 1) := by decide +kernel
theorem dc_L_law_393 : decode mL_law.2.1 393 = .ok (.iconst 1, 1) := by decide +kernel
theorem dc_L_law_394 : decode mL_law.2.1 394 = .ok (.iadd, 1) := by decide +kernel
theorem dc_L_law_395 : decode mL_law.2.1 395 = .ok (.iaload, 1) := by decide +kernel
theorem dc_L_law_396 : decode mL_law.2.1 396 = .ok (.invokevirtual 39, 3) := by decide +kernel
theorem dc_L_law_399 : decode mL_law.2.1 399 = .ok (.if_icmp .eq 994, 3) := by decide +kernel
theorem dc_L_law_402 : decode mL_law.2.1 402 = .ok (.iconst 0, 1) := by decide +kernel
theorem dc_L_law_403 : decode mL_law.2.1 403 = .ok (.ireturn, 1) := by decide +kernel
theorem dc_L_law_404 : decode mL_law.2.1 404 = .ok (.aload_n 1, 1) := by decide +kernel
theorem dc_L_law_405 : decode mL_law.2.1 405 = .ok (.aload_n 0, 1) := by decide +kernel
theorem dc_L_law_406 : decode mL_law.2.1 406 = .ok (.iload_n 3, 1) := by decide +kernel
theorem dc_L_law_407 : decode mL_law.2.1 407 = .ok (.iconst 1, 1) := by decide +kernel
theorem dc_L_law_408 : decode mL_law.2.1 408 = .ok (.iadd, 1) := by decide +kernel
theorem dc_L_law_409 : decode mL_law.2.1 409 = .ok (.iaload, 1) := by decide +kernel
theorem dc_L_law_410 : decode mL_law.2.1 410 = .ok (.invokevirtual 40, 3) := by decide +kernel
theorem dc_L_law_413 : decode mL_law.2.1 413 = .ok (.aload_n 2, 1) := by decide +kernel
theorem dc_L_law_414 : decode mL_law.2.1 414 = .ok (.aload_n 0, 1) := by decide +kernel
theorem dc_L_law_415 : decode mL_law.2.1 415 = .ok (.iload_n 3, 1) := by decide +kernel
theorem dc_L_law_416 : decode mL_law.2.1 416 = .ok (.iconst 1, 1) := by decide +kernel
theorem dc_L_law_417 : decode mL_law.2.1 417 = .ok (.iadd, 1) := by decide +kernel
theorem dc_L_law_418 : decode mL_law.2.1 418 = .ok (.iaload, 1) := by decide +kernel
theorem dc_L_law_419 : decode mL_law.2.1 419 = .ok (.invokevirtual 43, 3) := by decide +kernel
theorem dc_L_law_422 : decode mL_law.2.1 422 = .ok (.if_icmp .eq 971, 3) := by decide +kernel
theorem dc_L_law_425 : decode mL_law.2.1 425 = .ok (.iconst 0, 1) := by decide +kernel
theorem dc_L_law_426 : decode mL_law.2.1 426 = .ok (.ireturn, 1) := by decide +kernel
theorem dc_L_law_427 : decode mL_law.2.1 427 = .ok (.aload_n 1, 1) := by decide +kernel
theorem dc_L_law_428 : decode mL_law.2.1 428 = .ok (.aload_n 0, 1) := by decide +kernel
theorem dc_L_law_429 : decode mL_law.2.1 429 = .ok (.iload_n 3, 1) := by decide +kernel
theorem dc_L_law_430 : decode mL_law.2.1 430 = .ok (.iconst 1, 1) := by decide +kernel
theorem dc_L_law_431 : decode mL_law.2.1 431 = .ok (.iadd, 1) := by decide +kernel
theorem dc_L_law_432 : decode mL_law.2.1 432 = .ok (.iaload, 1) := by decide +kernel
theorem dc_L_law_433 : decode mL_law.2.1 433 = .ok (.invokevirtual 44, 3) := by decide +kernel
theorem dc_L_law_436 : decode mL_law.2.1 436 = .ok (.aload_n 2, 1) := by decide +kernel
theorem dc_L_law_437 : decode mL_law.2.1 437 = .ok (.aload_n 0, 1) := by decide +kernel
theorem dc_L_law_438 : decode mL_law.2.1 438 = .ok (.iload_n 3, 1) := by decide +kernel
theorem dc_L_law_439 : decode mL_law.2.1 439 = .ok (.iconst 1, 1) := by decide +kernel
theorem dc_L_law_440 : decode mL_law.2.1 440 = .ok (.iadd, 1) := by decide +kernel
theorem dc_L_law_441 : decode mL_law.2.1 441 = .ok (.iaload, 1) := by decide +kernel
theorem dc_L_law_442 : decode mL_law.2.1 442 = .ok (.invokevirtual 47, 3) := by decide +kernel
theorem dc_L_law_445 : decode mL_law.2.1 445 = .ok (.if_icmp .eq 948, 3) := by decide +kernel
theorem dc_L_law_448 : decode mL_law.2.1 448 = .ok (.iconst 0, 1) := by decide +kernel
theorem dc_L_law_449 : decode mL_law.2.1 449 = .ok (.ireturn, 1) := by decide +kernel
theorem dc_L_law_450 : decode mL_law.2.1 450 = .ok (.aload_n 1, 1) := by decide +kernel
theorem dc_L_law_451 : decode mL_law.2.1 451 = .ok (.aload_n 0, 1) := by decide +kernel
theorem dc_L_law_452 : decode mL_law.2.1 452 = .ok (.iload_n 3, 1) := by decide +kernel
theorem dc_L_law_453 : decode mL_law.2.1 453 = .ok (.iconst 1, 1) := by decide +kernel
theorem dc_L_law_454 : decode mL_law.2.1 454 = .ok (.iadd, 1) := by decide +kernel
theorem dc_L_law_455 : decode mL_law.2.1 455 = .ok (.iaload, 1) := by decide +kernel
theorem dc_L_law_456 : decode mL_law.2.1 456 = .ok (.aload_n 0, 1) := by decide +kernel
theorem dc_L_law_457 : decode mL_law.2.1 457 = .ok (.iload_n 3, 1) := by decide +kernel
theorem dc_L_law_458 : decode mL_law.2.1 458 = .ok (.iconst 2, 1) := by decide +kernel
theorem dc_L_law_459 : decode mL_law.2.1 459 = .ok (.iadd, 1) := by decide +kernel
theorem dc_L_law_460 : decode mL_law.2.1 460 = .ok (.iaload, 1) := by decide +kernel
theorem dc_L_law_461 : decode mL_law.2.1 461 = .ok (.aload_n 0, 1) := by decide +kernel
theorem dc_L_law_462 : decode mL_law.2.1 462 = .ok (.iload_n 3, 1) := by decide +kernel
theorem dc_L_law_463 : decode mL_law.2.1 463 = .ok (.iconst 3, 1) := by decide +kernel
theorem dc_L_law_464 : decode mL_law.2.1 464 = .ok (.iadd, 1) := by decide +kernel
theorem dc_L_law_465 : decode mL_law.2.1 465 = .ok (.iaload, 1) := by decide +kernel
theorem dc_L_law_466 : decode mL_law.2.1 466 = .ok (.invokevirtual 48, 3) := by decide +kernel
theorem dc_L_law_469 : decode mL_law.2.1 469 = .ok (.aload_n 2, 1) := by decide +kernel
theorem dc_L_law_470 : decode mL_law.2.1 470 = .ok (.aload_n 0, 1) := by decide +kernel
theorem dc_L_law_471 : decode mL_law.2.1 471 = .ok (.iload_n 3, 1) := by decide +kernel
theorem dc_L_law_472 : decode mL_law.2.1 472 = .ok (.iconst 1, 1) := by decide +kernel
theorem dc_L_law_473 : decode mL_law.2.1 473 = .ok (.iadd, 1) := by decide +kernel
theorem dc_L_law_474 : decode mL_law.2.1 474 = .ok (.iaload, 1) := by decide +kernel
theorem dc_L_law_475 : decode mL_law.2.1 475 = .ok (.aload_n 0, 1) := by decide +kernel
theorem dc_L_law_476 : decode mL_law.2.1 476 = .ok (.iload_n 3, 1) := by decide +kernel
theorem dc_L_law_477 : decode mL_law.2.1 477 = .ok (.iconst 2, 1) := by decide +kernel
theorem dc_L_law_478 : decode mL_law.2.1 478 = .ok (.iadd, 1) := by decide +kernel
theorem dc_L_law_479 : decode mL_law.2.1 479 = .ok (.iaload, 1) := by decide +kernel
theorem dc_L_law_480 : decode mL_law.2.1 480 = .ok (.aload_n 0, 1) := by decide +kernel
theorem dc_L_law_481 : decode mL_law.2.1 481 = .ok (.iload_n 3, 1) := by decide +kernel
theorem dc_L_law_482 : decode mL_law.2.1 482 = .ok (.iconst 3, 1) := by decide +kernel
theorem dc_L_law_483 : decode mL_law.2.1 483 = .ok (.iadd, 1) := by decide +kernel
theorem dc_L_law_484 : decode mL_law.2.1 484 = .ok (.iaload, 1) := by decide +kernel
theorem dc_L_law_485 : decode mL_law.2.1 485 = .ok (.invokevirtual 51, 3) := by decide +kernel
theorem dc_L_law_488 : decode mL_law.2.1 488 = .ok (.if_icmp .eq 905, 3) := by decide +kernel
theorem dc_L_law_491 : decode mL_law.2.1 491 = .ok (.iconst 0, 1) := by decide +kernel
theorem dc_L_law_492 : decode mL_law.2.1 492 = .ok (.ireturn, 1) := by decide +kernel
theorem dc_L_law_493 : decode mL_law.2.1 493 = .ok (.aload_n 1, 1) := by decide +kernel
theorem dc_L_law_494 : decode mL_law.2.1 494 = .ok (.aload_n 0, 1) := by decide +kernel
theorem dc_L_law_495 : decode mL_law.2.1 495 = .ok (.iload_n 3, 1) := by decide +kernel
theorem dc_L_law_496 : decode mL_law.2.1 496 = .ok (.iconst 1, 1) := by decide +kernel
theorem dc_L_law_497 : decode mL_law.2.1 497 = .ok (.iadd, 1) := by decide +kernel
theorem dc_L_law_498 : decode mL_law.2.1 498 = .ok (.iaload, 1) := by decide +kernel
theorem dc_L_law_499 : decode mL_law.2.1 499 = .ok (.aload_n 0, 1) := by decide +kernel
theorem dc_L_law_500 : decode mL_law.2.1 500 = .ok (.iload_n 3, 1) := by decide +kernel
theorem dc_L_law_501 : decode mL_law.2.1 501 = .ok (.iconst 2, 1) := by decide +kernel
theorem dc_L_law_502 : decode mL_law.2.1 502 = .ok (.iadd, 1) := by decide +kernel
theorem dc_L_law_503 : decode mL_law.2.1 503 = .ok (.iaload, 1) := by decide +kernel
theorem dc_L_law_504 : decode mL_law.2.1 504 = .ok (.invokevirtual 52, 3) := by decide +kernel
theorem dc_L_law_507 : decode mL_law.2.1 507 = .ok (.aload_n 2, 1) := by decide +kernel
theorem dc_L_law_508 : decode mL_law.2.1 508 = .ok (.aload_n 0, 1) := by decide +kernel
theorem dc_L_law_509 : decode mL_law.2.1 509 = .ok (.iload_n 3, 1) := by decide +kernel
theorem dc_L_law_510 : decode mL_law.2.1 510 = .ok (.iconst 1, 1) := by decide +kernel
theorem dc_L_law_511 : decode mL_law.2.1 511 = .ok (.iadd, 1) := by decide +kernel
theorem dc_L_law_512 : decode mL_law.2.1 512 = .ok (.iaload, 1) := by decide +kernel
theorem dc_L_law_513 : decode mL_law.2.1 513 = .ok (.aload_n 0, 1) := by decide +kernel
theorem dc_L_law_514 : decode mL_law.2.1 514 = .ok (.iload_n 3, 1) := by decide +kernel
theorem dc_L_law_515 : decode mL_law.2.1 515 = .ok (.iconst 2, 1) := by decide +kernel
theorem dc_L_law_516 : decode mL_law.2.1 516 = .ok (.iadd, 1) := by decide +kernel
theorem dc_L_law_517 : decode mL_law.2.1 517 = .ok (.iaload, 1) := by decide +kernel
theorem dc_L_law_518 : decode mL_law.2.1 518 = .ok (.invokevirtual 55, 3) := by decide +kernel
theorem dc_L_law_521 : decode mL_law.2.1 521 = .ok (.if_icmp .eq 872, 3) := by decide +kernel
theorem dc_L_law_524 : decode mL_law.2.1 524 = .ok (.iconst 0, 1) := by decide +kernel
theorem dc_L_law_525 : decode mL_law.2.1 525 = .ok (.ireturn, 1) := by decide +kernel
theorem dc_L_law_526 : decode mL_law.2.1 526 = .ok (.aload_n 1, 1) := by decide +kernel
theorem dc_L_law_527 : decode mL_law.2.1 527 = .ok (.aload_n 0, 1) := by decide +kernel
theorem dc_L_law_528 : decode mL_law.2.1 528 = .ok (.iload_n 3, 1) := by decide +kernel
theorem dc_L_law_529 : decode mL_law.2.1 529 = .ok (.iconst 1, 1) := by decide +kernel
theorem dc_L_law_530 : decode mL_law.2.1 530 = .ok (.iadd, 1) := by decide +kernel
theorem dc_L_law_531 : decode mL_law.2.1 531 = .ok (.iaload, 1) := by decide +kernel
theorem dc_L_law_532 : decode mL_law.2.1 532 = .ok (.invokevirtual 56, 3) := by decide +kernel
theorem dc_L_law_535 : decode mL_law.2.1 535 = .ok (.aload_n 2, 1) := by decide +kernel
theorem dc_L_law_536 : decode mL_law.2.1 536 = .ok (.aload_n 0, 1) := by decide +kernel
theorem dc_L_law_537 : decode mL_law.2.1 537 = .ok (.iload_n 3, 1) := by decide +kernel
theorem dc_L_law_538 : decode mL_law.2.1 538 = .ok (.iconst 1, 1) := by decide +kernel
theorem dc_L_law_539 : decode mL_law.2.1 539 = .ok (.iadd, 1) := by decide +kernel
theorem dc_L_law_540 : decode mL_law.2.1 540 = .ok (.iaload, 1) := by decide +kernel
theorem dc_L_law_541 : decode mL_law.2.1 541 = .ok (.invokevirtual 59, 3) := by decide +kernel
theorem dc_L_law_544 : decode mL_law.2.1 544 = .ok (.if_icmp .eq 849, 3) := by decide +kernel
theorem dc_L_law_547 : decode mL_law.2.1 547 = .ok (.iconst 0, 1) := by decide +kernel
theorem dc_L_law_548 : decode mL_law.2.1 548 = .ok (.ireturn, 1) := by decide +kernel
theorem dc_L_law_549 : decode mL_law.2.1 549 = .ok (.aload_n 1, 1) := by decide +kernel
theorem dc_L_law_550 : decode mL_law.2.1 550 = .ok (.aload_n 0, 1) := by decide +kernel
theorem dc_L_law_551 : decode mL_law.2.1 551 = .ok (.iload_n 3, 1) := by decide +kernel
theorem dc_L_law_552 : decode mL_law.2.1 552 = .ok (.iconst 1, 1) := by decide +kernel
theorem dc_L_law_553 : decode mL_law.2.1 553 = .ok (.iadd, 1) := by decide +kernel
theorem dc_L_law_554 : decode mL_law.2.1 554 = .ok (.iaload, 1) := by decide +kernel
theorem dc_L_law_555 : decode mL_law.2.1 555 = .ok (.aload_n 0, 1) := by decide +kernel
theorem dc_L_law_556 : decode mL_law.2.1 556 = .ok (.iload_n 3, 1) := by decide +kernel
theorem dc_L_law_557 : decode mL_law.2.1 557 = .ok (.iconst 2, 1) := by decide +kernel
theorem dc_L_law_558 : decode mL_law.2.1 558 = .ok (.iadd, 1) := by decide +kernel
theorem dc_L_law_559 : decode mL_law.2.1 559 = .ok (.iaload, 1) := by decide +kernel
theorem dc_L_law_560 : decode mL_law.2.1 560 = .ok (.invokevirtual 60, 3) := by decide +kernel
theorem dc_L_law_563 : decode mL_law.2.1 563 = .ok (.aload_n 2, 1) := by decide +kernel
theorem dc_L_law_564 : decode mL_law.2.1 564 = .ok (.aload_n 0, 1) := by decide +kernel
theorem dc_L_law_565 : decode mL_law.2.1 565 = .ok (.iload_n 3, 1) := by decide +kernel
theorem dc_L_law_566 : decode mL_law.2.1 566 = .ok (.iconst 1, 1) := by decide +kernel
theorem dc_L_law_567 : decode mL_law.2.1 567 = .ok (.iadd, 1) := by decide +kernel
theorem dc_L_law_568 : decode mL_law.2.1 568 = .ok (.iaload, 1) := by decide +kernel
theorem dc_L_law_569 : decode mL_law.2.1 569 = .ok (.aload_n 0, 1) := by decide +kernel
theorem dc_L_law_570 : decode mL_law.2.1 570 = .ok (.iload_n 3, 1) := by decide +kernel
theorem dc_L_law_571 : decode mL_law.2.1 571 = .ok (.iconst 2, 1) := by decide +kernel
theorem dc_L_law_572 : decode mL_law.2.1 572 = .ok (.iadd, 1) := by decide +kernel
theorem dc_L_law_573 : decode mL_law.2.1 573 = .ok (.iaload, 1) := by decide +kernel
theorem dc_L_law_574 : decode mL_law.2.1 574 = .ok (.invokevirtual 63, 3) := by decide +kernel
theorem dc_L_law_577 : decode mL_law.2.1 577 = .ok (.if_icmp .eq 816, 3) := by decide +kernel
theorem dc_L_law_580 : decode mL_law.2.1 580 = .ok (.iconst 0, 1) := by decide +kernel
theorem dc_L_law_581 : decode mL_law.2.1 581 = .ok (.ireturn, 1) := by decide +kernel
theorem dc_L_law_582 : decode mL_law.2.1 582 = .ok (.aload_n 1, 1) := by decide +kernel
theorem dc_L_law_583 : decode mL_law.2.1 583 = .ok (.aload_n 0, 1) := by decide +kernel
theorem dc_L_law_584 : decode mL_law.2.1 584 = .ok (.iload_n 3, 1) := by decide +kernel
theorem dc_L_law_585 : decode mL_law.2.1 585 = .ok (.iconst 1, 1) := by decide +kernel
theorem dc_L_law_586 : decode mL_law.2.1 586 = .ok (.iadd, 1) := by decide +kernel
theorem dc_L_law_587 : decode mL_law.2.1 587 = .ok (.iaload, 1) := by decide +kernel
theorem dc_L_law_588 : decode mL_law.2.1 588 = .ok (.aload_n 0, 1) := by decide +kernel
theorem dc_L_law_589 : decode mL_law.2.1 589 = .ok (.iload_n 3, 1) := by decide +kernel
theorem dc_L_law_590 : decode mL_law.2.1 590 = .ok (.iconst 2, 1) := by decide +kernel
theorem dc_L_law_591 : decode mL_law.2.1 591 = .ok (.iadd, 1) := by decide +kernel
theorem dc_L_law_592 : decode mL_law.2.1 592 = .ok (.iaload, 1) := by decide +kernel
theorem dc_L_law_593 : decode mL_law.2.1 593 = .ok (.invokevirtual 64, 3) := by decide +kernel
theorem dc_L_law_596 : decode mL_law.2.1 596 = .ok (.aload_n 2, 1) := by decide +kernel
theorem dc_L_law_597 : decode mL_law.2.1 597 = .ok (.aload_n 0, 1) := by decide +kernel
theorem dc_L_law_598 : decode mL_law.2.1 598 = .ok (.iload_n 3, 1) := by decide +kernel
theorem dc_L_law_599 : decode mL_law.2.1 599 = .ok (.iconst 1, 1) := by decide +kernel
theorem dc_L_law_600 : decode mL_law.2.1 600 = .ok (.iadd, 1) := by decide +kernel
theorem dc_L_law_601 : decode mL_law.2.1 601 = .ok (.iaload, 1) := by decide +kernel
theorem dc_L_law_602 : decode mL_law.2.1 602 = .ok (.aload_n 0, 1) := by decide +kernel
theorem dc_L_law_603 : decode mL_law.2.1 603 = .ok (.iload_n 3, 1) := by decide +kernel
theorem dc_L_law_604 : decode mL_law.2.1 604 = .ok (.iconst 2, 1) := by decide +kernel
theorem dc_L_law_605 : decode mL_law.2.1 605 = .ok (.iadd, 1) := by decide +kernel
theorem dc_L_law_606 : decode mL_law.2.1 606 = .ok (.iaload, 1) := by decide +kernel
theorem dc_L_law_607 : decode mL_law.2.1 607 = .ok (.invokevirtual 67, 3) := by decide +kernel
theorem dc_L_law_610 : decode mL_law.2.1 610 = .ok (.if_icmp .eq 783, 3) := by decide +kernel
theorem dc_L_law_613 : decode mL_law.2.1 613 = .ok (.iconst 0, 1) := by decide +kernel
theorem dc_L_law_614 : decode mL_law.2.1 614 = .ok (.ireturn, 1) := by decide +kernel
theorem dc_L_law_615 : decode mL_law.2.1 615 = .ok (.aload_n 1, 1) := by decide +kernel
theorem dc_L_law_616 : decode mL_law.2.1 616 = .ok (.invokevirtual 68, 3) := by decide +kernel
theorem dc_L_law_619 : decode mL_law.2.1 619 = .ok (.aload_n 2, 1) := by decide +kernel
theorem dc_L_law_620 : decode mL_law.2.1 620 = .ok (.invokevirtual 72, 3) := by decide +kernel
theorem dc_L_law_623 : decode mL_law.2.1 623 = .ok (.if_icmp .eq 770, 3) := by decide +kernel
theorem dc_L_law_626 : decode mL_law.2.1 626 = .ok (.iconst 0, 1) := by decide +kernel
theorem dc_L_law_627 : decode mL_law.2.1 627 = .ok (.ireturn, 1) := by decide +kernel
theorem dc_L_law_628 : decode mL_law.2.1 628 = .ok (.aload_n 1, 1) := by decide +kernel
theorem dc_L_law_629 : decode mL_law.2.1 629 = .ok (.aload_n 0, 1) := by decide +kernel
theorem dc_L_law_630 : decode mL_law.2.1 630 = .ok (.iload_n 3, 1) := by decide +kernel
theorem dc_L_law_631 : decode mL_law.2.1 631 = .ok (.iconst 1, 1) := by decide +kernel
theorem dc_L_law_632 : decode mL_law.2.1 632 = .ok (.iadd, 1) := by decide +kernel
theorem dc_L_law_633 : decode mL_law.2.1 633 = .ok (.iaload, 1) := by decide +kernel
theorem dc_L_law_634 : decode mL_law.2.1 634 = .ok (.invokevirtual 73, 3) := by decide +kernel
theorem dc_L_law_637 : decode mL_law.2.1 637 = .ok (.aload_n 2, 1) := by decide +kernel
theorem dc_L_law_638 : decode mL_law.2.1 638 = .ok (.aload_n 0, 1) := by decide +kernel
theorem dc_L_law_639 : decode mL_law.2.1 639 = .ok (.iload_n 3, 1) := by decide +kernel
theorem dc_L_law_640 : decode mL_law.2.1 640 = .ok (.iconst 1, 1) := by decide +kernel
theorem dc_L_law_641 : decode mL_law.2.1 641 = .ok (.iadd, 1) := by decide +kernel
theorem dc_L_law_642 : decode mL_law.2.1 642 = .ok (.iaload, 1) := by decide +kernel
theorem dc_L_law_643 : decode mL_law.2.1 643 = .ok (.invokevirtual 76, 3) := by decide +kernel
theorem dc_L_law_646 : decode mL_law.2.1 646 = .ok (.if_icmp .eq 747, 3) := by decide +kernel
theorem dc_L_law_649 : decode mL_law.2.1 649 = .ok (.iconst 0, 1) := by decide +kernel
theorem dc_L_law_650 : decode mL_law.2.1 650 = .ok (.ireturn, 1) := by decide +kernel
theorem dc_L_law_651 : decode mL_law.2.1 651 = .ok (.aload_n 1, 1) := by decide +kernel
theorem dc_L_law_652 : decode mL_law.2.1 652 = .ok (.aload_n 0, 1) := by decide +kernel
theorem dc_L_law_653 : decode mL_law.2.1 653 = .ok (.iload_n 3, 1) := by decide +kernel
theorem dc_L_law_654 : decode mL_law.2.1 654 = .ok (.iconst 1, 1) := by decide +kernel
theorem dc_L_law_655 : decode mL_law.2.1 655 = .ok (.iadd, 1) := by decide +kernel
theorem dc_L_law_656 : decode mL_law.2.1 656 = .ok (.iaload, 1) := by decide +kernel
theorem dc_L_law_657 : decode mL_law.2.1 657 = .ok (.invokevirtual 77, 3) := by decide +kernel
theorem dc_L_law_660 : decode mL_law.2.1 660 = .ok (.aload_n 2, 1) := by decide +kernel
theorem dc_L_law_661 : decode mL_law.2.1 661 = .ok (.aload_n 0, 1) := by decide +kernel
theorem dc_L_law_662 : decode mL_law.2.1 662 = .ok (.iload_n 3, 1) := by decide +kernel
theorem dc_L_law_663 : decode mL_law.2.1 663 = .ok (.iconst 1, 1) := by decide +kernel
theorem dc_L_law_664 : decode mL_law.2.1 664 = .ok (.iadd, 1) := by decide +kernel
theorem dc_L_law_665 : decode mL_law.2.1 665 = .ok (.iaload, 1) := by decide +kernel
theorem dc_L_law_666 : decode mL_law.2.1 666 = .ok (.invokevirtual 80, 3) := by decide +kernel
theorem dc_L_law_669 : decode mL_law.2.1 669 = .ok (.if_icmp .eq 724, 3) := by decide +kernel
theorem dc_L_law_672 : decode mL_law.2.1 672 = .ok (.iconst 0, 1) := by decide +kernel
theorem dc_L_law_673 : decode mL_law.2.1 673 = .ok (.ireturn, 1) := by decide +kernel
theorem dc_L_law_674 : decode mL_law.2.1 674 = .ok (.aload_n 1, 1) := by decide +kernel
theorem dc_L_law_675 : decode mL_law.2.1 675 = .ok (.aload_n 0, 1) := by decide +kernel
theorem dc_L_law_676 : decode mL_law.2.1 676 = .ok (.iload_n 3, 1) := by decide +kernel
theorem dc_L_law_677 : decode mL_law.2.1 677 = .ok (.iconst 1, 1) := by decide +kernel
theorem dc_L_law_678 : decode mL_law.2.1 678 = .ok (.iadd, 1) := by decide +kernel
theorem dc_L_law_679 : decode mL_law.2.1 679 = .ok (.iaload, 1) := by decide +kernel
theorem dc_L_law_680 : decode mL_law.2.1 680 = .ok (.aload_n 0, 1) := by decide +kernel
theorem dc_L_law_681 : decode mL_law.2.1 681 = .ok (.iload_n 3, 1) := by decide +kernel
theorem dc_L_law_682 : decode mL_law.2.1 682 = .ok (.iconst 2, 1) := by decide +kernel
theorem dc_L_law_683 : decode mL_law.2.1 683 = .ok (.iadd, 1) := by decide +kernel
theorem dc_L_law_684 : decode mL_law.2.1 684 = .ok (.iaload, 1) := by decide +kernel
theorem dc_L_law_685 : decode mL_law.2.1 685 = .ok (.invokevirtual 81, 3) := by decide +kernel
theorem dc_L_law_688 : decode mL_law.2.1 688 = .ok (.aload_n 2, 1) := by decide +kernel
theorem dc_L_law_689 : decode mL_law.2.1 689 = .ok (.aload_n 0, 1) := by decide +kernel
theorem dc_L_law_690 : decode mL_law.2.1 690 = .ok (.iload_n 3, 1) := by decide +kernel
theorem dc_L_law_691 : decode mL_law.2.1 691 = .ok (.iconst 1, 1) := by decide +kernel
theorem dc_L_law_692 : decode mL_law.2.1 692 = .ok (.iadd, 1) := by decide +kernel
theorem dc_L_law_693 : decode mL_law.2.1 693 = .ok (.iaload, 1) := by decide +kernel
theorem dc_L_law_694 : decode mL_law.2.1 694 = .ok (.aload_n 0, 1) := by decide +kernel
theorem dc_L_law_695 : decode mL_law.2.1 695 = .ok (.iload_n 3, 1) := by decide +kernel
theorem dc_L_law_696 : decode mL_law.2.1 696 = .ok (.iconst 2, 1) := by decide +kernel
theorem dc_L_law_697 : decode mL_law.2.1 697 = .ok (.iadd, 1) := by decide +kernel
theorem dc_L_law_698 : decode mL_law.2.1 698 = .ok (.iaload, 1) := by decide +kernel
theorem dc_L_law_699 : decode mL_law.2.1 699 = .ok (.invokevirtual 84, 3) := by decide +kernel
theorem dc_L_law_702 : decode mL_law.2.1 702 = .ok (.if_icmp .eq 691, 3) := by decide +kernel
theorem dc_L_law_705 : decode mL_law.2.1 705 = .ok (.iconst 0, 1) := by decide +kernel
theorem dc_L_law_706 : decode mL_law.2.1 706 = .ok (.ireturn, 1) := by decide +kernel
theorem dc_L_law_707 : decode mL_law.2.1 707 = .ok (.aload_n 1, 1) := by decide +kernel
theorem dc_L_law_708 : decode mL_law.2.1 708 = .ok (.aload_n 0, 1) := by decide +kernel
theorem dc_L_law_709 : decode mL_law.2.1 709 = .ok (.iload_n 3, 1) := by decide +kernel
theorem dc_L_law_710 : decode mL_law.2.1 710 = .ok (.iconst 1, 1) := by decide +kernel
theorem dc_L_law_711 : decode mL_law.2.1 711 = .ok (.iadd, 1) := by decide +kernel
theorem dc_L_law_712 : decode mL_law.2.1 712 = .ok (.iaload, 1) := by decide +kernel
theorem dc_L_law_713 : decode mL_law.2.1 713 = .ok (.aload_n 0, 1) := by decide +kernel
theorem dc_L_law_714 : decode mL_law.2.1 714 = .ok (.iload_n 3, 1) := by decide +kernel
theorem dc_L_law_715 : decode mL_law.2.1 715 = .ok (.iconst 2, 1) := by decide +kernel
theorem dc_L_law_716 : decode mL_law.2.1 716 = .ok (.iadd, 1) := by decide +kernel
theorem dc_L_law_717 : decode mL_law.2.1 717 = .ok (.iaload, 1) := by decide +kernel
theorem dc_L_law_718 : decode mL_law.2.1 718 = .ok (.invokevirtual 85, 3) := by decide +kernel
theorem dc_L_law_721 : decode mL_law.2.1 721 = .ok (.aload_n 2, 1) := by decide +kernel
theorem dc_L_law_722 : decode mL_law.2.1 722 = .ok (.aload_n 0, 1) := by decide +kernel
theorem dc_L_law_723 : decode mL_law.2.1 723 = .ok (.iload_n 3, 1) := by decide +kernel
theorem dc_L_law_724 : decode mL_law.2.1 724 = .ok (.iconst 1, 1) := by decide +kernel
theorem dc_L_law_725 : decode mL_law.2.1 725 = .ok (.iadd, 1) := by decide +kernel
theorem dc_L_law_726 : decode mL_law.2.1 726 = .ok (.iaload, 1) := by decide +kernel
theorem dc_L_law_727 : decode mL_law.2.1 727 = .ok (.aload_n 0, 1) := by decide +kernel
theorem dc_L_law_728 : decode mL_law.2.1 728 = .ok (.iload_n 3, 1) := by decide +kernel
theorem dc_L_law_729 : decode mL_law.2.1 729 = .ok (.iconst 2, 1) := by decide +kernel
theorem dc_L_law_730 : decode mL_law.2.1 730 = .ok (.iadd, 1) := by decide +kernel
theorem dc_L_law_731 : decode mL_law.2.1 731 = .ok (.iaload, 1) := by decide +kernel
theorem dc_L_law_732 : decode mL_law.2.1 732 = .ok (.invokevirtual 88, 3) := by decide +kernel
theorem dc_L_law_735 : decode mL_law.2.1 735 = .ok (.if_icmp .eq 658, 3) := by decide +kernel
theorem dc_L_law_738 : decode mL_law.2.1 738 = .ok (.iconst 0, 1) := by decide +kernel
theorem dc_L_law_739 : decode mL_law.2.1 739 = .ok (.ireturn, 1) := by decide +kernel
theorem dc_L_law_740 : decode mL_law.2.1 740 = .ok (.aload_n 1, 1) := by decide +kernel
theorem dc_L_law_741 : decode mL_law.2.1 741 = .ok (.aload_n 0, 1) := by decide +kernel
theorem dc_L_law_742 : decode mL_law.2.1 742 = .ok (.iload_n 3, 1) := by decide +kernel
theorem dc_L_law_743 : decode mL_law.2.1 743 = .ok (.iconst 1, 1) := by decide +kernel
theorem dc_L_law_744 : decode mL_law.2.1 744 = .ok (.iadd, 1) := by decide +kernel
theorem dc_L_law_745 : decode mL_law.2.1 745 = .ok (.iaload, 1) := by decide +kernel
theorem dc_L_law_746 : decode mL_law.2.1 746 = .ok (.aload_n 0, 1) := by decide +kernel
theorem dc_L_law_747 : decode mL_law.2.1 747 = .ok (.iload_n 3, 1) := by decide +kernel
theorem dc_L_law_748 : decode mL_law.2.1 748 = .ok (.iconst 2, 1) := by decide +kernel
theorem dc_L_law_749 : decode mL_law.2.1 749 = .ok (.iadd, 1) := by decide +kernel
theorem dc_L_law_750 : decode mL_law.2.1 750 = .ok (.iaload, 1) := by decide +kernel
theorem dc_L_law_751 : decode mL_law.2.1 751 = .ok (.invokevirtual 89, 3) := by decide +kernel
theorem dc_L_law_754 : decode mL_law.2.1 754 = .ok (.aload_n 2, 1) := by decide +kernel
theorem dc_L_law_755 : decode mL_law.2.1 755 = .ok (.aload_n 0, 1) := by decide +kernel
theorem dc_L_law_756 : decode mL_law.2.1 756 = .ok (.iload_n 3, 1) := by decide +kernel
theorem dc_L_law_757 : decode mL_law.2.1 757 = .ok (.iconst 1, 1) := by decide +kernel
theorem dc_L_law_758 : decode mL_law.2.1 758 = .ok (.iadd, 1) := by decide +kernel
theorem dc_L_law_759 : decode mL_law.2.1 759 = .ok (.iaload, 1) := by decide +kernel
theorem dc_L_law_760 : decode mL_law.2.1 760 = .ok (.aload_n 0, 1) := by decide +kernel
theorem dc_L_law_761 : decode mL_law.2.1 761 = .ok (.iload_n 3, 1) := by decide +kernel
theorem dc_L_law_762 : decode mL_law.2.1 762 = .ok (.iconst 2, 1) := by decide +kernel
theorem dc_L_law_763 : decode mL_law.2.1 763 = .ok (.iadd, 1) := by decide +kernel
theorem dc_L_law_764 : decode mL_law.2.1 764 = .ok (.iaload, 1) := by decide +kernel
theorem dc_L_law_765 : decode mL_law.2.1 765 = .ok (.invokevirtual 92, 3) := by decide +kernel
theorem dc_L_law_768 : decode mL_law.2.1 768 = .ok (.if_icmp .eq 625, 3) := by decide +kernel
theorem dc_L_law_771 : decode mL_law.2.1 771 = .ok (.iconst 0, 1) := by decide +kernel
theorem dc_L_law_772 : decode mL_law.2.1 772 = .ok (.ireturn, 1) := by decide +kernel
theorem dc_L_law_773 : decode mL_law.2.1 773 = .ok (.aload_n 1, 1) := by decide +kernel
theorem dc_L_law_774 : decode mL_law.2.1 774 = .ok (.aload_n 0, 1) := by decide +kernel
theorem dc_L_law_775 : decode mL_law.2.1 775 = .ok (.iload_n 3, 1) := by decide +kernel
theorem dc_L_law_776 : decode mL_law.2.1 776 = .ok (.iconst 1, 1) := by decide +kernel
theorem dc_L_law_777 : decode mL_law.2.1 777 = .ok (.iadd, 1) := by decide +kernel
theorem dc_L_law_778 : decode mL_law.2.1 778 = .ok (.iaload, 1) := by decide +kernel
theorem dc_L_law_779 : decode mL_law.2.1 779 = .ok (.aload_n 0, 1) := by decide +kernel
theorem dc_L_law_780 : decode mL_law.2.1 780 = .ok (.iload_n 3, 1) := by decide +kernel
theorem dc_L_law_781 : decode mL_law.2.1 781 = .ok (.iconst 2, 1) := by decide +kernel
theorem dc_L_law_782 : decode mL_law.2.1 782 = .ok (.iadd, 1) := by decide +kernel
theorem dc_L_law_783 : decode mL_law.2.1 783 = .ok (.iaload, 1) := by decide +kernel
theorem dc_L_law_784 : decode mL_law.2.1 784 = .ok (.invokevirtual 93, 3) := by decide +kernel
theorem dc_L_law_787 : decode mL_law.2.1 787 = .ok (.aload_n 2, 1) := by decide +kernel
theorem dc_L_law_788 : decode mL_law.2.1 788 = .ok (.aload_n 0, 1) := by decide +kernel
theorem dc_L_law_789 : decode mL_law.2.1 789 = .ok (.iload_n 3, 1) := by decide +kernel
theorem dc_L_law_790 : decode mL_law.2.1 790 = .ok (.iconst 1, 1) := by decide +kernel
theorem dc_L_law_791 : decode mL_law.2.1 791 = .ok (.iadd, 1) := by decide +kernel
theorem dc_L_law_792 : decode mL_law.2.1 792 = .ok (.iaload, 1) := by decide +kernel
theorem dc_L_law_793 : decode mL_law.2.1 793 = .ok (.aload_n 0, 1) := by decide +kernel
theorem dc_L_law_794 : decode mL_law.2.1 794 = .ok (.iload_n 3, 1) := by decide +kernel
theorem dc_L_law_795 : decode mL_law.2.1 795 = .ok (.iconst 2, 1) := by decide +kernel
theorem dc_L_law_796 : decode mL_law.2.1 796 = .ok (.iadd, 1) := by decide +kernel
theorem dc_L_law_797 : decode mL_law.2.1 797 = .ok (.iaload, 1) := by decide +kernel
theorem dc_L_law_798 : decode mL_law.2.1 798 = .ok (.invokevirtual 96, 3) := by decide +kernel
theorem dc_L_law_801 : decode mL_law.2.1 801 = .ok (.if_icmp .eq 592, 3) := by decide +kernel
theorem dc_L_law_804 : decode mL_law.2.1 804 = .ok (.iconst 0, 1) := by decide +kernel
theorem dc_L_law_805 : decode mL_law.2.1 805 = .ok (.ireturn, 1) := by decide +kernel
theorem dc_L_law_806 : decode mL_law.2.1 806 = .ok (.aload_n 1, 1) := by decide +kernel
theorem dc_L_law_807 : decode mL_law.2.1 807 = .ok (.aload_n 0, 1) := by decide +kernel
theorem dc_L_law_808 : decode mL_law.2.1 808 = .ok (.iload_n 3, 1) := by decide +kernel
theorem dc_L_law_809 : decode mL_law.2.1 809 = .ok (.iconst 1, 1) := by decide +kernel
theorem dc_L_law_810 : decode mL_law.2.1 810 = .ok (.iadd, 1) := by decide +kernel
theorem dc_L_law_811 : decode mL_law.2.1 811 = .ok (.iaload, 1) := by decide +kernel
theorem dc_L_law_812 : decode mL_law.2.1 812 = .ok (.invokevirtual 97, 3) := by decide +kernel
theorem dc_L_law_815 : decode mL_law.2.1 815 = .ok (.aload_n 2, 1) := by decide +kernel
theorem dc_L_law_816 : decode mL_law.2.1 816 = .ok (.aload_n 0, 1) := by decide +kernel
theorem dc_L_law_817 : decode mL_law.2.1 817 = .ok (.iload_n 3, 1) := by decide +kernel
theorem dc_L_law_818 : decode mL_law.2.1 818 = .ok (.iconst 1, 1) := by decide +kernel
theorem dc_L_law_819 : decode mL_law.2.1 819 = .ok (.iadd, 1) := by decide +kernel
theorem dc_L_law_820 : decode mL_law.2.1 820 = .ok (.iaload, 1) := by decide +kernel
theorem dc_L_law_821 : decode mL_law.2.1 821 = .ok (.invokevirtual 100, 3) := by decide +kernel
theorem dc_L_law_824 : decode mL_law.2.1 824 = .ok (.if_icmp .eq 569, 3) := by decide +kernel
theorem dc_L_law_827 : decode mL_law.2.1 827 = .ok (.iconst 0, 1) := by decide +kernel
theorem dc_L_law_828 : decode mL_law.2.1 828 = .ok (.ireturn, 1) := by decide +kernel
theorem dc_L_law_829 : decode mL_law.2.1 829 = .ok (.aload_n 1, 1) := by decide +kernel
theorem dc_L_law_830 : decode mL_law.2.1 830 = .ok (.aload_n 0, 1) := by decide +kernel
theorem dc_L_law_831 : decode mL_law.2.1 831 = .ok (.iload_n 3, 1) := by decide +kernel
theorem dc_L_law_832 : decode mL_law.2.1 832 = .ok (.iconst 1, 1) := by decide +kernel
theorem dc_L_law_833 : decode mL_law.2.1 833 = .ok (.iadd, 1) := by decide +kernel
theorem dc_L_law_834 : decode mL_law.2.1 834 = .ok (.iaload, 1) := by decide +kernel
theorem dc_L_law_835 : decode mL_law.2.1 835 = .ok (.invokevirtual 101, 3) := by decide +kernel
theorem dc_L_law_838 : decode mL_law.2.1 838 = .ok (.aload_n 2, 1) := by decide +kernel
theorem dc_L_law_839 : decode mL_law.2.1 839 = .ok (.aload_n 0, 1) := by decide +kernel
theorem dc_L_law_840 : decode mL_law.2.1 840 = .ok (.iload_n 3, 1) := by decide +kernel
theorem dc_L_law_841 : decode mL_law.2.1 841 = .ok (.iconst 1, 1) := by decide +kernel
theorem dc_L_law_842 : decode mL_law.2.1 842 = .ok (.iadd, 1) := by decide +kernel
theorem dc_L_law_843 : decode mL_law.2.1 843 = .ok (.iaload, 1) := by decide +kernel
theorem dc_L_law_844 : decode mL_law.2.1 844 = .ok (.invokevirtual 104, 3) := by decide +kernel
theorem dc_L_law_847 : decode mL_law.2.1 847 = .ok (.if_icmp .eq 546, 3) := by decide +kernel
theorem dc_L_law_850 : decode mL_law.2.1 850 = .ok (.iconst 0, 1) := by decide +kernel
theorem dc_L_law_851 : decode mL_law.2.1 851 = .ok (.ireturn, 1) := by decide +kernel
theorem dc_L_law_852 : decode mL_law.2.1 852 = .ok (.aload_n 1, 1) := by decide +kernel
theorem dc_L_law_853 : decode mL_law.2.1 853 = .ok (.aload_n 0, 1) := by decide +kernel
theorem dc_L_law_854 : decode mL_law.2.1 854 = .ok (.iload_n 3, 1) := by decide +kernel
theorem dc_L_law_855 : decode mL_law.2.1 855 = .ok (.iconst 1, 1) := by decide +kernel
theorem dc_L_law_856 : decode mL_law.2.1 856 = .ok (.iadd, 1) := by decide +kernel
theorem dc_L_law_857 : decode mL_law.2.1 857 = .ok (.iaload, 1) := by decide +kernel
theorem dc_L_law_858 : decode mL_law.2.1 858 = .ok (.invokevirtual 105, 3) := by decide +kernel
theorem dc_L_law_861 : decode mL_law.2.1 861 = .ok (.aload_n 2, 1) := by decide +kernel
theorem dc_L_law_862 : decode mL_law.2.1 862 = .ok (.aload_n 0, 1) := by decide +kernel
theorem dc_L_law_863 : decode mL_law.2.1 863 = .ok (.iload_n 3, 1) := by decide +kernel
theorem dc_L_law_864 : decode mL_law.2.1 864 = .ok (.iconst 1, 1) := by decide +kernel
theorem dc_L_law_865 : decode mL_law.2.1 865 = .ok (.iadd, 1) := by decide +kernel
theorem dc_L_law_866 : decode mL_law.2.1 866 = .ok (.iaload, 1) := by decide +kernel
theorem dc_L_law_867 : decode mL_law.2.1 867 = .ok (.invokevirtual 108, 3) := by decide +kernel
theorem dc_L_law_870 : decode mL_law.2.1 870 = .ok (.if_icmp .eq 523, 3) := by decide +kernel
theorem dc_L_law_873 : decode mL_law.2.1 873 = .ok (.iconst 0, 1) := by decide +kernel
theorem dc_L_law_874 : decode mL_law.2.1 874 = .ok (.ireturn, 1) := by decide +kernel
theorem dc_L_law_875 : decode mL_law.2.1 875 = .ok (.aload_n 1, 1) := by decide +kernel
theorem dc_L_law_876 : decode mL_law.2.1 876 = .ok (.aload_n 0, 1) := by decide +kernel
theorem dc_L_law_877 : decode mL_law.2.1 877 = .ok (.iload_n 3, 1) := by decide +kernel
theorem dc_L_law_878 : decode mL_law.2.1 878 = .ok (.iconst 1, 1) := by decide +kernel
theorem dc_L_law_879 : decode mL_law.2.1 879 = .ok (.iadd, 1) := by decide +kernel
theorem dc_L_law_880 : decode mL_law.2.1 880 = .ok (.iaload, 1) := by decide +kernel
theorem dc_L_law_881 : decode mL_law.2.1 881 = .ok (.aload_n 0, 1) := by decide +kernel
theorem dc_L_law_882 : decode mL_law.2.1 882 = .ok (.iload_n 3, 1) := by decide +kernel
theorem dc_L_law_883 : decode mL_law.2.1 883 = .ok (.iconst 2, 1) := by decide +kernel
theorem dc_L_law_884 : decode mL_law.2.1 884 = .ok (.iadd, 1) := by decide +kernel
theorem dc_L_law_885 : decode mL_law.2.1 885 = .ok (.iaload, 1) := by decide +kernel
theorem dc_L_law_886 : decode mL_law.2.1 886 = .ok (.invokevirtual 109, 3) := by decide +kernel
theorem dc_L_law_889 : decode mL_law.2.1 889 = .ok (.aload_n 2, 1) := by decide +kernel
theorem dc_L_law_890 : decode mL_law.2.1 890 = .ok (.aload_n 0, 1) := by decide +kernel
theorem dc_L_law_891 : decode mL_law.2.1 891 = .ok (.iload_n 3, 1) := by decide +kernel
theorem dc_L_law_892 : decode mL_law.2.1 892 = .ok (.iconst 1, 1) := by decide +kernel
theorem dc_L_law_893 : decode mL_law.2.1 893 = .ok (.iadd, 1) := by decide +kernel
theorem dc_L_law_894 : decode mL_law.2.1 894 = .ok (.iaload, 1) := by decide +kernel
theorem dc_L_law_895 : decode mL_law.2.1 895 = .ok (.aload_n 0, 1) := by decide +kernel
theorem dc_L_law_896 : decode mL_law.2.1 896 = .ok (.iload_n 3, 1) := by decide +kernel
theorem dc_L_law_897 : decode mL_law.2.1 897 = .ok (.iconst 2, 1) := by decide +kernel
theorem dc_L_law_898 : decode mL_law.2.1 898 = .ok (.iadd, 1) := by decide +kernel
theorem dc_L_law_899 : decode mL_law.2.1 899 = .ok (.iaload, 1) := by decide +kernel
theorem dc_L_law_900 : decode mL_law.2.1 900 = .ok (.invokevirtual 112, 3) := by decide +kernel
theorem dc_L_law_903 : decode mL_law.2.1 903 = .ok (.if_icmp .eq 490, 3) := by decide +kernel
theorem dc_L_law_906 : decode mL_law.2.1 906 = .ok (.iconst 0, 1) := by decide +kernel
theorem dc_L_law_907 : decode mL_law.2.1 907 = .ok (.ireturn, 1) := by decide +kernel
theorem dc_L_law_908 : decode mL_law.2.1 908 = .ok (.aload_n 1, 1) := by decide +kernel
theorem dc_L_law_909 : decode mL_law.2.1 909 = .ok (.aload_n 0, 1) := by decide +kernel
theorem dc_L_law_910 : decode mL_law.2.1 910 = .ok (.iload_n 3, 1) := by decide +kernel
theorem dc_L_law_911 : decode mL_law.2.1 911 = .ok (.iconst 1, 1) := by decide +kernel
theorem dc_L_law_912 : decode mL_law.2.1 912 = .ok (.iadd, 1) := by decide +kernel
theorem dc_L_law_913 : decode mL_law.2.1 913 = .ok (.iaload, 1) := by decide +kernel
theorem dc_L_law_914 : decode mL_law.2.1 914 = .ok (.invokevirtual 113, 3) := by decide +kernel
theorem dc_L_law_917 : decode mL_law.2.1 917 = .ok (.aload_n 2, 1) := by decide +kernel
theorem dc_L_law_918 : decode mL_law.2.1 918 = .ok (.aload_n 0, 1) := by decide +kernel
theorem dc_L_law_919 : decode mL_law.2.1 919 = .ok (.iload_n 3, 1) := by decide +kernel
theorem dc_L_law_920 : decode mL_law.2.1 920 = .ok (.iconst 1, 1) := by decide +kernel
theorem dc_L_law_921 : decode mL_law.2.1 921 = .ok (.iadd, 1) := by decide +kernel
theorem dc_L_law_922 : decode mL_law.2.1 922 = .ok (.iaload, 1) := by decide +kernel
theorem dc_L_law_923 : decode mL_law.2.1 923 = .ok (.invokevirtual 116, 3) := by decide +kernel
theorem dc_L_law_926 : decode mL_law.2.1 926 = .ok (.if_icmp .eq 467, 3) := by decide +kernel
theorem dc_L_law_929 : decode mL_law.2.1 929 = .ok (.iconst 0, 1) := by decide +kernel
theorem dc_L_law_930 : decode mL_law.2.1 930 = .ok (.ireturn, 1) := by decide +kernel
theorem dc_L_law_931 : decode mL_law.2.1 931 = .ok (.aload_n 1, 1) := by decide +kernel
theorem dc_L_law_932 : decode mL_law.2.1 932 = .ok (.aload_n 0, 1) := by decide +kernel
theorem dc_L_law_933 : decode mL_law.2.1 933 = .ok (.iload_n 3, 1) := by decide +kernel
theorem dc_L_law_934 : decode mL_law.2.1 934 = .ok (.iconst 1, 1) := by decide +kernel
theorem dc_L_law_935 : decode mL_law.2.1 935 = .ok (.iadd, 1) := by decide +kernel
theorem dc_L_law_936 : decode mL_law.2.1 936 = .ok (.iaload, 1) := by decide +kernel
theorem dc_L_law_937 : decode mL_law.2.1 937 = .ok (.aload_n 0, 1) := by decide +kernel
theorem dc_L_law_938 : decode mL_law.2.1 938 = .ok (.iload_n 3, 1) := by decide +kernel
theorem dc_L_law_939 : decode mL_law.2.1 939 = .ok (.iconst 2, 1) := by decide +kernel
theorem dc_L_law_940 : decode mL_law.2.1 940 = .ok (.iadd, 1) := by decide +kernel
theorem dc_L_law_941 : decode mL_law.2.1 941 = .ok (.iaload, 1) := by decide +kernel
theorem dc_L_law_942 : decode mL_law.2.1 942 = .ok (.invokevirtual 117, 3) := by decide +kernel
theorem dc_L_law_945 : decode mL_law.2.1 945 = .ok (.aload_n 2, 1) := by decide +kernel
theorem dc_L_law_946 : decode mL_law.2.1 946 = .ok (.aload_n 0, 1) := by decide +kernel
theorem dc_L_law_947 : decode mL_law.2.1 947 = .ok (.iload_n 3, 1) := by decide +kernel
theorem dc_L_law_948 : decode mL_law.2.1 948 = .ok (.iconst 1, 1) := by decide +kernel
theorem dc_L_law_949 : decode mL_law.2.1 949 = .ok (.iadd, 1) := by decide +kernel
theorem dc_L_law_950 : decode mL_law.2.1 950 = .ok (.iaload, 1) := by decide +kernel
theorem dc_L_law_951 : decode mL_law.2.1 951 = .ok (.aload_n 0, 1) := by decide +kernel
theorem dc_L_law_952 : decode mL_law.2.1 952 = .ok (.iload_n 3, 1) := by decide +kernel
theorem dc_L_law_953 : decode mL_law.2.1 953 = .ok (.iconst 2, 1) := by decide +kernel
theorem dc_L_law_954 : decode mL_law.2.1 954 = .ok (.iadd, 1) := by decide +kernel
theorem dc_L_law_955 : decode mL_law.2.1 955 = .ok (.iaload, 1) := by decide +kernel
theorem dc_L_law_956 : decode mL_law.2.1 956 = .ok (.invokevirtual 121, 3) := by decide +kernel
theorem dc_L_law_959 : decode mL_law.2.1 959 = .ok (.lcmp, 1) := by decide +kernel
theorem dc_L_law_960 : decode mL_law.2.1 960 = .ok (.ifCond .eq 433, 3) := by decide +kernel
theorem dc_L_law_963 : decode mL_law.2.1 963 = .ok (.iconst 0, 1) := by decide +kernel
theorem dc_L_law_964 : decode mL_law.2.1 964 = .ok (.ireturn, 1) := by decide +kernel
theorem dc_L_law_965 : decode mL_law.2.1 965 = .ok (.aload_n 1, 1) := by decide +kernel
theorem dc_L_law_966 : decode mL_law.2.1 966 = .ok (.aload_n 0, 1) := by decide +kernel
theorem dc_L_law_967 : decode mL_law.2.1 967 = .ok (.iload_n 3, 1) := by decide +kernel
theorem dc_L_law_968 : decode mL_law.2.1 968 = .ok (.iconst 1, 1) := by decide +kernel
theorem dc_L_law_969 : decode mL_law.2.1 969 = .ok (.iadd, 1) := by decide +kernel
theorem dc_L_law_970 : decode mL_law.2.1 970 = .ok (.iaload, 1) := by decide +kernel
theorem dc_L_law_971 : decode mL_law.2.1 971 = .ok (.invokevirtual 122, 3) := by decide +kernel
theorem dc_L_law_974 : decode mL_law.2.1 974 = .ok (.aload_n 2, 1) := by decide +kernel
theorem dc_L_law_975 : decode mL_law.2.1 975 = .ok (.aload_n 0, 1) := by decide +kernel
theorem dc_L_law_976 : decode mL_law.2.1 976 = .ok (.iload_n 3, 1) := by decide +kernel
theorem dc_L_law_977 : decode mL_law.2.1 977 = .ok (.iconst 1, 1) := by decide +kernel
theorem dc_L_law_978 : decode mL_law.2.1 978 = .ok (.iadd, 1) := by decide +kernel
theorem dc_L_law_979 : decode mL_law.2.1 979 = .ok (.iaload, 1) := by decide +kernel
theorem dc_L_law_980 : decode mL_law.2.1 980 = .ok (.invokevirtual 125, 3) := by decide +kernel
theorem dc_L_law_983 : decode mL_law.2.1 983 = .ok (.if_icmp .eq 410, 3) := by decide +kernel
theorem dc_L_law_986 : decode mL_law.2.1 986 = .ok (.iconst 0, 1) := by decide +kernel
theorem dc_L_law_987 : decode mL_law.2.1 987 = .ok (.ireturn, 1) := by decide +kernel
theorem dc_L_law_988 : decode mL_law.2.1 988 = .ok (.aload_n 1, 1) := by decide +kernel
theorem dc_L_law_989 : decode mL_law.2.1 989 = .ok (.aload_n 0, 1) := by decide +kernel
theorem dc_L_law_990 : decode mL_law.2.1 990 = .ok (.iload_n 3, 1) := by decide +kernel
theorem dc_L_law_991 : decode mL_law.2.1 991 = .ok (.iconst 1, 1) := by decide +kernel
theorem dc_L_law_992 : decode mL_law.2.1 992 = .ok (.iadd, 1) := by decide +kernel
theorem dc_L_law_993 : decode mL_law.2.1 993 = .ok (.iaload, 1) := by decide +kernel
theorem dc_L_law_994 : decode mL_law.2.1 994 = .ok (.aload_n 0, 1) := by decide +kernel
theorem dc_L_law_995 : decode mL_law.2.1 995 = .ok (.iload_n 3, 1) := by decide +kernel
theorem dc_L_law_996 : decode mL_law.2.1 996 = .ok (.iconst 2, 1) := by decide +kernel
theorem dc_L_law_997 : decode mL_law.2.1 997 = .ok (.iadd, 1) := by decide +kernel
theorem dc_L_law_998 : decode mL_law.2.1 998 = .ok (.iaload, 1) := by decide +kernel
theorem dc_L_law_999 : decode mL_law.2.1 999 = .ok (.invokevirtual 126, 3) := by decide +kernel
theorem dc_L_law_1002 : decode mL_law.2.1 1002 = .ok (.aload_n 2, 1) := by decide +kernel
theorem dc_L_law_1003 : decode mL_law.2.1 1003 = .ok (.aload_n 0, 1) := by decide +kernel
theorem dc_L_law_1004 : decode mL_law.2.1 1004 = .ok (.iload_n 3, 1) := by decide +kernel
theorem dc_L_law_1005 : decode mL_law.2.1 1005 = .ok (.iconst 1, 1) := by decide +kernel
theorem dc_L_law_1006 : decode mL_law.2.1 1006 = .ok (.iadd, 1) := by decide +kernel
theorem dc_L_law_1007 : decode mL_law.2.1 1007 = .ok (.iaload, 1) := by decide +kernel
theorem dc_L_law_1008 : decode mL_law.2.1 1008 = .ok (.aload_n 0, 1) := by decide +kernel
theorem dc_L_law_1009 : decode mL_law.2.1 1009 = .ok (.iload_n 3, 1) := by decide +kernel
theorem dc_L_law_1010 : decode mL_law.2.1 1010 = .ok (.iconst 2, 1) := by decide +kernel
theorem dc_L_law_1011 : decode mL_law.2.1 1011 = .ok (.iadd, 1) := by decide +kernel
theorem dc_L_law_1012 : decode mL_law.2.1 1012 = .ok (.iaload, 1) := by decide +kernel
theorem dc_L_law_1013 : decode mL_law.2.1 1013 = .ok (.invokevirtual 129, 3) := by decide +kernel
theorem dc_L_law_1016 : decode mL_law.2.1 1016 = .ok (.if_icmp .eq 377, 3) := by decide +kernel
theorem dc_L_law_1019 : decode mL_law.2.1 1019 = .ok (.iconst 0, 1) := by decide +kernel
theorem dc_L_law_1020 : decode mL_law.2.1 1020 = .ok (.ireturn, 1) := by decide +kernel
theorem dc_L_law_1021 : decode mL_law.2.1 1021 = .ok (.aload_n 1, 1) := by decide +kernel
theorem dc_L_law_1022 : decode mL_law.2.1 1022 = .ok (.invokevirtual 130, 3) := by decide +kernel
theorem dc_L_law_1025 : decode mL_law.2.1 1025 = .ok (.aload_n 2, 1) := by decide +kernel
theorem dc_L_law_1026 : decode mL_law.2.1 1026 = .ok (.invokevirtual 133, 3) := by decide +kernel
theorem dc_L_law_1029 : decode mL_law.2.1 1029 = .ok (.if_icmp .eq 364, 3) := by decide +kernel
theorem dc_L_law_1032 : decode mL_law.2.1 1032 = .ok (.iconst 0, 1) := by decide +kernel
theorem dc_L_law_1033 : decode mL_law.2.1 1033 = .ok (.ireturn, 1) := by decide +kernel
theorem dc_L_law_1034 : decode mL_law.2.1 1034 = .ok (.aload_n 1, 1) := by decide +kernel
theorem dc_L_law_1035 : decode mL_law.2.1 1035 = .ok (.invokevirtual 134, 3) := by decide +kernel
theorem dc_L_law_1038 : decode mL_law.2.1 1038 = .ok (.aload_n 2, 1) := by decide +kernel
theorem dc_L_law_1039 : decode mL_law.2.1 1039 = .ok (.invokevirtual 137, 3) := by decide +kernel
theorem dc_L_law_1042 : decode mL_law.2.1 1042 = .ok (.if_icmp .eq 351, 3) := by decide +kernel
theorem dc_L_law_1045 : decode mL_law.2.1 1045 = .ok (.iconst 0, 1) := by decide +kernel
theorem dc_L_law_1046 : decode mL_law.2.1 1046 = .ok (.ireturn, 1) := by decide +kernel
theorem dc_L_law_1047 : decode mL_law.2.1 1047 = .ok (.aload_n 1, 1) := by decide +kernel
theorem dc_L_law_1048 : decode mL_law.2.1 1048 = .ok (.aload_n 0, 1) := by decide +kernel
theorem dc_L_law_1049 : decode mL_law.2.1 1049 = .ok (.iload_n 3, 1) := by decide +kernel
theorem dc_L_law_1050 : decode mL_law.2.1 1050 = .ok (.iconst 1, 1) := by decide +kernel
theorem dc_L_law_1051 : decode mL_law.2.1 1051 = .ok (.iadd, 1) := by decide +kernel
theorem dc_L_law_1052 : decode mL_law.2.1 1052 = .ok (.iaload, 1) := by decide +kernel
theorem dc_L_law_1053 : decode mL_law.2.1 1053 = .ok (.aload_n 0, 1) := by decide +kernel
theorem dc_L_law_1054 : decode mL_law.2.1 1054 = .ok (.iload_n 3, 1) := by decide +kernel
theorem dc_L_law_1055 : decode mL_law.2.1 1055 = .ok (.iconst 2, 1) := by decide +kernel
theorem dc_L_law_1056 : decode mL_law.2.1 1056 = .ok (.iadd, 1) := by decide +kernel
theorem dc_L_law_1057 : decode mL_law.2.1 1057 = .ok (.iaload, 1) := by decide +kernel
theorem dc_L_law_1058 : decode mL_law.2.1 1058 = .ok (.invokevirtual 138, 3) := by decide +kernel
theorem dc_L_law_1061 : decode mL_law.2.1 1061 = .ok (.aload_n 2, 1) := by decide +kernel
theorem dc_L_law_1062 : decode mL_law.2.1 1062 = .ok (.aload_n 0, 1) := by decide +kernel
theorem dc_L_law_1063 : decode mL_law.2.1 1063 = .ok (.iload_n 3, 1) := by decide +kernel
theorem dc_L_law_1064 : decode mL_law.2.1 1064 = .ok (.iconst 1, 1) := by decide +kernel
theorem dc_L_law_1065 : decode mL_law.2.1 1065 = .ok (.iadd, 1) := by decide +kernel
theorem dc_L_law_1066 : decode mL_law.2.1 1066 = .ok (.iaload, 1) := by decide +kernel
theorem dc_L_law_1067 : decode mL_law.2.1 1067 = .ok (.aload_n 0, 1) := by decide +kernel
theorem dc_L_law_1068 : decode mL_law.2.1 1068 = .ok (.iload_n 3, 1) := by decide +kernel
theorem dc_L_law_1069 : decode mL_law.2.1 1069 = .ok (.iconst 2, 1) := by decide +kernel
theorem dc_L_law_1070 : decode mL_law.2.1 1070 = .ok (.iadd, 1) := by decide +kernel
theorem dc_L_law_1071 : decode mL_law.2.1 1071 = .ok (.iaload, 1) := by decide +kernel
theorem dc_L_law_1072 : decode mL_law.2.1 1072 = .ok (.invokevirtual 141, 3) := by decide +kernel
theorem dc_L_law_1075 : decode mL_law.2.1 1075 = .ok (.if_icmp .eq 318, 3) := by decide +kernel
theorem dc_L_law_1078 : decode mL_law.2.1 1078 = .ok (.iconst 0, 1) := by decide +kernel
theorem dc_L_law_1079 : decode mL_law.2.1 1079 = .ok (.ireturn, 1) := by decide +kernel
theorem dc_L_law_1080 : decode mL_law.2.1 1080 = .ok (.aload_n 1, 1) := by decide +kernel
theorem dc_L_law_1081 : decode mL_law.2.1 1081 = .ok (.aload_n 0, 1) := by decide +kernel
theorem dc_L_law_1082 : decode mL_law.2.1 1082 = .ok (.iload_n 3, 1) := by decide +kernel
theorem dc_L_law_1083 : decode mL_law.2.1 1083 = .ok (.iconst 1, 1) := by decide +kernel
theorem dc_L_law_1084 : decode mL_law.2.1 1084 = .ok (.iadd, 1) := by decide +kernel
theorem dc_L_law_1085 : decode mL_law.2.1 1085 = .ok (.iaload, 1) := by decide +kernel
theorem dc_L_law_1086 : decode mL_law.2.1 1086 = .ok (.aload_n 0, 1) := by decide +kernel
theorem dc_L_law_1087 : decode mL_law.2.1 1087 = .ok (.iload_n 3, 1) := by decide +kernel
theorem dc_L_law_1088 : decode mL_law.2.1 1088 = .ok (.iconst 2, 1) := by decide +kernel
theorem dc_L_law_1089 : decode mL_law.2.1 1089 = .ok (.iadd, 1) := by decide +kernel
theorem dc_L_law_1090 : decode mL_law.2.1 1090 = .ok (.iaload, 1) := by decide +kernel
theorem dc_L_law_1091 : decode mL_law.2.1 1091 = .ok (.invokevirtual 142, 3) := by decide +kernel
theorem dc_L_law_1094 : decode mL_law.2.1 1094 = .ok (.aload_n 2, 1) := by decide +kernel
theorem dc_L_law_1095 : decode mL_law.2.1 1095 = .ok (.aload_n 0, 1) := by decide +kernel
theorem dc_L_law_1096 : decode mL_law.2.1 1096 = .ok (.iload_n 3, 1) := by decide +kernel
theorem dc_L_law_1097 : decode mL_law.2.1 1097 = .ok (.iconst 1, 1) := by decide +kernel
theorem dc_L_law_1098 : decode mL_law.2.1 1098 = .ok (.iadd, 1) := by decide +kernel
theorem dc_L_law_1099 : decode mL_law.2.1 1099 = .ok (.iaload, 1) := by decide +kernel
theorem dc_L_law_1100 : decode mL_law.2.1 1100 = .ok (.aload_n 0, 1) := by decide +kernel
theorem dc_L_law_1101 : decode mL_law.2.1 1101 = .ok (.iload_n 3, 1) := by decide +kernel
theorem dc_L_law_1102 : decode mL_law.2.1 1102 = .ok (.iconst 2, 1) := by decide +kernel
theorem dc_L_law_1103 : decode mL_law.2.1 1103 = .ok (.iadd, 1) := by decide +kernel
theorem dc_L_law_1104 : decode mL_law.2.1 1104 = .ok (.iaload, 1) := by decide +kernel
theorem dc_L_law_1105 : decode mL_law.2.1 1105 = .ok (.invokevirtual 145, 3) := by decide +kernel
theorem dc_L_law_1108 : decode mL_law.2.1 1108 = .ok (.if_icmp .eq 285, 3) := by decide +kernel
theorem dc_L_law_1111 : decode mL_law.2.1 1111 = .ok (.iconst 0, 1) := by decide +kernel
theorem dc_L_law_1112 : decode mL_law.2.1 1112 = .ok (.ireturn, 1) := by decide +kernel
theorem dc_L_law_1113 : decode mL_law.2.1 1113 = .ok (.aload_n 1, 1) := by decide +kernel
theorem dc_L_law_1114 : decode mL_law.2.1 1114 = .ok (.aload_n 0, 1) := by decide +kernel
theorem dc_L_law_1115 : decode mL_law.2.1 1115 = .ok (.iload_n 3, 1) := by decide +kernel
theorem dc_L_law_1116 : decode mL_law.2.1 1116 = .ok (.iconst 1, 1) := by decide +kernel
theorem dc_L_law_1117 : decode mL_law.2.1 1117 = .ok (.iadd, 1) := by decide +kernel
theorem dc_L_law_1118 : decode mL_law.2.1 1118 = .ok (.iaload, 1) := by decide +kernel
theorem dc_L_law_1119 : decode mL_law.2.1 1119 = .ok (.aload_n 0, 1) := by decide +kernel
theorem dc_L_law_1120 : decode mL_law.2.1 1120 = .ok (.iload_n 3, 1) := by decide +kernel
theorem dc_L_law_1121 : decode mL_law.2.1 1121 = .ok (.iconst 2, 1) := by decide +kernel
theorem dc_L_law_1122 : decode mL_law.2.1 1122 = .ok (.iadd, 1) := by decide +kernel
theorem dc_L_law_1123 : decode mL_law.2.1 1123 = .ok (.iaload, 1) := by decide +kernel
theorem dc_L_law_1124 : decode mL_law.2.1 1124 = .ok (.aload_n 0, 1) := by decide +kernel
theorem dc_L_law_1125 : decode mL_law.2.1 1125 = .ok (.iload_n 3, 1) := by decide +kernel
theorem dc_L_law_1126 : decode mL_law.2.1 1126 = .ok (.iconst 3, 1) := by decide +kernel
theorem dc_L_law_1127 : decode mL_law.2.1 1127 = .ok (.iadd, 1) := by decide +kernel
theorem dc_L_law_1128 : decode mL_law.2.1 1128 = .ok (.iaload, 1) := by decide +kernel
theorem dc_L_law_1129 : decode mL_law.2.1 1129 = .ok (.invokevirtual 146, 3) := by decide +kernel
theorem dc_L_law_1132 : decode mL_law.2.1 1132 = .ok (.aload_n 2, 1) := by decide +kernel
theorem dc_L_law_1133 : decode mL_law.2.1 1133 = .ok (.aload_n 0, 1) := by decide +kernel
theorem dc_L_law_1134 : decode mL_law.2.1 1134 = .ok (.iload_n 3, 1) := by decide +kernel
theorem dc_L_law_1135 : decode mL_law.2.1 1135 = .ok (.iconst 1, 1) := by decide +kernel
theorem dc_L_law_1136 : decode mL_law.2.1 1136 = .ok (.iadd, 1) := by decide +kernel
theorem dc_L_law_1137 : decode mL_law.2.1 1137 = .ok (.iaload, 1) := by decide +kernel
theorem dc_L_law_1138 : decode mL_law.2.1 1138 = .ok (.aload_n 0, 1) := by decide +kernel
theorem dc_L_law_1139 : decode mL_law.2.1 1139 = .ok (.iload_n 3, 1) := by decide +kernel
theorem dc_L_law_1140 : decode mL_law.2.1 1140 = .ok (.iconst 2, 1) := by decide +kernel
theorem dc_L_law_1141 : decode mL_law.2.1 1141 = .ok (.iadd, 1) := by decide +kernel
theorem dc_L_law_1142 : decode mL_law.2.1 1142 = .ok (.iaload, 1) := by decide +kernel
theorem dc_L_law_1143 : decode mL_law.2.1 1143 = .ok (.aload_n 0, 1) := by decide +kernel
theorem dc_L_law_1144 : decode mL_law.2.1 1144 = .ok (.iload_n 3, 1) := by decide +kernel
theorem dc_L_law_1145 : decode mL_law.2.1 1145 = .ok (.iconst 3, 1) := by decide +kernel
theorem dc_L_law_1146 : decode mL_law.2.1 1146 = .ok (.iadd, 1) := by decide +kernel
theorem dc_L_law_1147 : decode mL_law.2.1 1147 = .ok (.iaload, 1) := by decide +kernel
theorem dc_L_law_1148 : decode mL_law.2.1 1148 = .ok (.invokevirtual 149, 3) := by decide +kernel
theorem dc_L_law_1151 : decode mL_law.2.1 1151 = .ok (.if_icmp .eq 242, 3) := by decide +kernel
theorem dc_L_law_1154 : decode mL_law.2.1 1154 = .ok (.iconst 0, 1) := by decide +kernel
theorem dc_L_law_1155 : decode mL_law.2.1 1155 = .ok (.ireturn, 1) := by decide +kernel
theorem dc_L_law_1156 : decode mL_law.2.1 1156 = .ok (.aload_n 1, 1) := by decide +kernel
theorem dc_L_law_1157 : decode mL_law.2.1 1157 = .ok (.aload_n 0, 1) := by decide +kernel
theorem dc_L_law_1158 : decode mL_law.2.1 1158 = .ok (.iload_n 3, 1) := by decide +kernel
theorem dc_L_law_1159 : decode mL_law.2.1 1159 = .ok (.iconst 1, 1) := by decide +kernel
theorem dc_L_law_1160 : decode mL_law.2.1 1160 = .ok (.iadd, 1) := by decide +kernel
theorem dc_L_law_1161 : decode mL_law.2.1 1161 = .ok (.iaload, 1) := by decide +kernel
theorem dc_L_law_1162 : decode mL_law.2.1 1162 = .ok (.aload_n 0, 1) := by decide +kernel
theorem dc_L_law_1163 : decode mL_law.2.1 1163 = .ok (.iload_n 3, 1) := by decide +kernel
theorem dc_L_law_1164 : decode mL_law.2.1 1164 = .ok (.iconst 2, 1) := by decide +kernel
theorem dc_L_law_1165 : decode mL_law.2.1 1165 = .ok (.iadd, 1) := by decide +kernel
theorem dc_L_law_1166 : decode mL_law.2.1 1166 = .ok (.iaload, 1) := by decide +kernel
theorem dc_L_law_1167 : decode mL_law.2.1 1167 = .ok (.aload_n 0, 1) := by decide +kernel
theorem dc_L_law_1168 : decode mL_law.2.1 1168 = .ok (.iload_n 3, 1) := by decide +kernel
theorem dc_L_law_1169 : decode mL_law.2.1 1169 = .ok (.iconst 3, 1) := by decide +kernel
theorem dc_L_law_1170 : decode mL_law.2.1 1170 = .ok (.iadd, 1) := by decide +kernel
theorem dc_L_law_1171 : decode mL_law.2.1 1171 = .ok (.iaload, 1) := by decide +kernel
theorem dc_L_law_1172 : decode mL_law.2.1 1172 = .ok (.invokevirtual 150, 3) := by decide +kernel
theorem dc_L_law_1175 : decode mL_law.2.1 1175 = .ok (.aload_n 2, 1) := by decide +kernel
theorem dc_L_law_1176 : decode mL_law.2.1 1176 = .ok (.aload_n 0, 1) := by decide +kernel
theorem dc_L_law_1177 : decode mL_law.2.1 1177 = .ok (.iload_n 3, 1) := by decide +kernel
theorem dc_L_law_1178 : decode mL_law.2.1 1178 = .ok (.iconst 1, 1) := by decide +kernel
theorem dc_L_law_1179 : decode mL_law.2.1 1179 = .ok (.iadd, 1) := by decide +kernel
theorem dc_L_law_1180 : decode mL_law.2.1 1180 = .ok (.iaload, 1) := by decide +kernel
theorem dc_L_law_1181 : decode mL_law.2.1 1181 = .ok (.aload_n 0, 1) := by decide +kernel
theorem dc_L_law_1182 : decode mL_law.2.1 1182 = .ok (.iload_n 3, 1) := by decide +kernel
theorem dc_L_law_1183 : decode mL_law.2.1 1183 = .ok (.iconst 2, 1) := by decide +kernel
theorem dc_L_law_1184 : decode mL_law.2.1 1184 = .ok (.iadd, 1) := by decide +kernel
theorem dc_L_law_1185 : decode mL_law.2.1 1185 = .ok (.iaload, 1) := by decide +kernel
theorem dc_L_law_1186 : decode mL_law.2.1 1186 = .ok (.aload_n 0, 1) := by decide +kernel
theorem dc_L_law_1187 : decode mL_law.2.1 1187 = .ok (.iload_n 3, 1) := by decide +kernel
theorem dc_L_law_1188 : decode mL_law.2.1 1188 = .ok (.iconst 3, 1) := by decide +kernel
theorem dc_L_law_1189 : decode mL_law.2.1 1189 = .ok (.iadd, 1) := by decide +kernel
theorem dc_L_law_1190 : decode mL_law.2.1 1190 = .ok (.iaload, 1) := by decide +kernel
theorem dc_L_law_1191 : decode mL_law.2.1 1191 = .ok (.invokevirtual 153, 3) := by decide +kernel
theorem dc_L_law_1194 : decode mL_law.2.1 1194 = .ok (.if_icmp .eq 199, 3) := by decide +kernel
theorem dc_L_law_1197 : decode mL_law.2.1 1197 = .ok (.iconst 0, 1) := by decide +kernel
theorem dc_L_law_1198 : decode mL_law.2.1 1198 = .ok (.ireturn, 1) := by decide +kernel
theorem dc_L_law_1199 : decode mL_law.2.1 1199 = .ok (.aload_n 1, 1) := by decide +kernel
theorem dc_L_law_1200 : decode mL_law.2.1 1200 = .ok (.aload_n 0, 1) := by decide +kernel
theorem dc_L_law_1201 : decode mL_law.2.1 1201 = .ok (.iload_n 3, 1) := by decide +kernel
theorem dc_L_law_1202 : decode mL_law.2.1 1202 = .ok (.iconst 1, 1) := by decide +kernel
theorem dc_L_law_1203 : decode mL_law.2.1 1203 = .ok (.iadd, 1) := by decide +kernel
theorem dc_L_law_1204 : decode mL_law.2.1 1204 = .ok (.iaload, 1) := by decide +kernel
theorem dc_L_law_1205 : decode mL_law.2.1 1205 = .ok (.aload_n 0, 1) := by decide +kernel
theorem dc_L_law_1206 : decode mL_law.2.1 1206 = .ok (.iload_n 3, 1) := by decide +kernel
theorem dc_L_law_1207 : decode mL_law.2.1 1207 = .ok (.iconst 2, 1) := by decide +kernel
theorem dc_L_law_1208 : decode mL_law.2.1 1208 = .ok (.iadd, 1) := by decide +kernel
theorem dc_L_law_1209 : decode mL_law.2.1 1209 = .ok (.iaload, 1) := by decide +kernel
theorem dc_L_law_1210 : decode mL_law.2.1 1210 = .ok (.aload_n 0, 1) := by decide +kernel
theorem dc_L_law_1211 : decode mL_law.2.1 1211 = .ok (.iload_n 3, 1) := by decide +kernel
theorem dc_L_law_1212 : decode mL_law.2.1 1212 = .ok (.iconst 3, 1) := by decide +kernel
theorem dc_L_law_1213 : decode mL_law.2.1 1213 = .ok (.iadd, 1) := by decide +kernel
theorem dc_L_law_1214 : decode mL_law.2.1 1214 = .ok (.iaload, 1) := by decide +kernel
theorem dc_L_law_1215 : decode mL_law.2.1 1215 = .ok (.aload_n 0, 1) := by decide +kernel
theorem dc_L_law_1216 : decode mL_law.2.1 1216 = .ok (.iload_n 3, 1) := by decide +kernel
theorem dc_L_law_1217 : decode mL_law.2.1 1217 = .ok (.iconst 4, 1) := by decide +kernel
theorem dc_L_law_1218 : decode mL_law.2.1 1218 = .ok (.iadd, 1) := by decide +kernel
theorem dc_L_law_1219 : decode mL_law.2.1 1219 = .ok (.iaload, 1) := by decide +kernel
theorem dc_L_law_1220 : decode mL_law.2.1 1220 = .ok (.aload_n 0, 1) := by decide +kernel
theorem dc_L_law_1221 : decode mL_law.2.1 1221 = .ok (.iload_n 3, 1) := by decide +kernel
theorem dc_L_law_1222 : decode mL_law.2.1 1222 = .ok (.iconst 5, 1) := by decide +kernel
theorem dc_L_law_1223 : decode mL_law.2.1 1223 = .ok (.iadd, 1) := by decide +kernel
theorem dc_L_law_1224 : decode mL_law.2.1 1224 = .ok (.iaload, 1) := by decide +kernel
theorem dc_L_law_1225 : decode mL_law.2.1 1225 = .ok (.invokevirtual 154, 3) := by decide +kernel
theorem dc_L_law_1228 : decode mL_law.2.1 1228 = .ok (.aload_n 2, 1) := by decide +kernel
theorem dc_L_law_1229 : decode mL_law.2.1 1229 = .ok (.aload_n 0, 1) := by decide +kernel
theorem dc_L_law_1230 : decode mL_law.2.1 1230 = .ok (.iload_n 3, 1) := by decide +kernel
theorem dc_L_law_1231 : decode mL_law.2.1 1231 = .ok (.iconst 1, 1) := by decide +kernel
theorem dc_L_law_1232 : decode mL_law.2.1 1232 = .ok (.iadd, 1) := by decide +kernel
theorem dc_L_law_1233 : decode mL_law.2.1 1233 = .ok (.iaload, 1) := by decide +kernel
theorem dc_L_law_1234 : decode mL_law.2.1 1234 = .ok (.aload_n 0, 1) := by decide +kernel
theorem dc_L_law_1235 : decode mL_law.2.1 1235 = .ok (.iload_n 3, 1) := by decide +kernel
theorem dc_L_law_1236 : decode mL_law.2.1 1236 = .ok (.iconst 2, 1) := by decide +kernel
theorem dc_L_law_1237 : decode mL_law.2.1 1237 = .ok (.iadd, 1) := by decide +kernel
theorem dc_L_law_1238 : decode mL_law.2.1 1238 = .ok (.iaload, 1) := by decide +kernel
theorem dc_L_law_1239 : decode mL_law.2.1 1239 = .ok (.aload_n 0, 1) := by decide +kernel
theorem dc_L_law_1240 : decode mL_law.2.1 1240 = .ok (.iload_n 3, 1) := by decide +kernel
theorem dc_L_law_1241 : decode mL_law.2.1 1241 = .ok (.iconst 3, 1) := by decide +kernel
theorem dc_L_law_1242 : decode mL_law.2.1 1242 = .ok (.iadd, 1) := by decide +kernel
theorem dc_L_law_1243 : decode mL_law.2.1 1243 = .ok (.iaload, 1) := by decide +kernel
theorem dc_L_law_1244 : decode mL_law.2.1 1244 = .ok (.aload_n 0, 1) := by decide +kernel
theorem dc_L_law_1245 : decode mL_law.2.1 1245 = .ok (.iload_n 3, 1) := by decide +kernel
theorem dc_L_law_1246 : decode mL_law.2.1 1246 = .ok (.iconst 4, 1) := by decide +kernel
theorem dc_L_law_1247 : decode mL_law.2.1 1247 = .ok (.iadd, 1) := by decide +kernel
theorem dc_L_law_1248 : decode mL_law.2.1 1248 = .ok (.iaload, 1) := by decide +kernel
theorem dc_L_law_1249 : decode mL_law.2.1 1249 = .ok (.aload_n 0, 1) := by decide +kernel
theorem dc_L_law_1250 : decode mL_law.2.1 1250 = .ok (.iload_n 3, 1) := by decide +kernel
theorem dc_L_law_1251 : decode mL_law.2.1 1251 = .ok (.iconst 5, 1) := by decide +kernel
theorem dc_L_law_1252 : decode mL_law.2.1 1252 = .ok (.iadd, 1) := by decide +kernel
theorem dc_L_law_1253 : decode mL_law.2.1 1253 = .ok (.iaload, 1) := by decide +kernel
theorem dc_L_law_1254 : decode mL_law.2.1 1254 = .ok (.invokevirtual 158, 3) := by decide +kernel
theorem dc_L_law_1257 : decode mL_law.2.1 1257 = .ok (.if_icmp .eq 136, 3) := by decide +kernel
theorem dc_L_law_1260 : decode mL_law.2.1 1260 = .ok (.iconst 0, 1) := by decide +kernel
theorem dc_L_law_1261 : decode mL_law.2.1 1261 = .ok (.ireturn, 1) := by decide +kernel
theorem dc_L_law_1262 : decode mL_law.2.1 1262 = .ok (.aload_n 1, 1) := by decide +kernel
theorem dc_L_law_1263 : decode mL_law.2.1 1263 = .ok (.aload_n 0, 1) := by decide +kernel
theorem dc_L_law_1264 : decode mL_law.2.1 1264 = .ok (.iload_n 3, 1) := by decide +kernel
theorem dc_L_law_1265 : decode mL_law.2.1 1265 = .ok (.iconst 1, 1) := by decide +kernel
theorem dc_L_law_1266 : decode mL_law.2.1 1266 = .ok (.iadd, 1) := by decide +kernel
theorem dc_L_law_1267 : decode mL_law.2.1 1267 = .ok (.iaload, 1) := by decide +kernel
theorem dc_L_law_1268 : decode mL_law.2.1 1268 = .ok (.invokevirtual 159, 3) := by decide +kernel
theorem dc_L_law_1271 : decode mL_law.2.1 1271 = .ok (.aload_n 2, 1) := by decide +kernel
theorem dc_L_law_1272 : decode mL_law.2.1 1272 = .ok (.aload_n 0, 1) := by decide +kernel
theorem dc_L_law_1273 : decode mL_law.2.1 1273 = .ok (.iload_n 3, 1) := by decide +kernel
theorem dc_L_law_1274 : decode mL_law.2.1 1274 = .ok (.iconst 1, 1) := by decide +kernel
theorem dc_L_law_1275 : decode mL_law.2.1 1275 = .ok (.iadd, 1) := by decide +kernel
theorem dc_L_law_1276 : decode mL_law.2.1 1276 = .ok (.iaload, 1) := by decide +kernel
theorem dc_L_law_1277 : decode mL_law.2.1 1277 = .ok (.invokevirtual 162, 3) := by decide +kernel
theorem dc_L_law_1280 : decode mL_law.2.1 1280 = .ok (.if_icmp .eq 113, 3) := by decide +kernel
theorem dc_L_law_1283 : decode mL_law.2.1 1283 = .ok (.iconst 0, 1) := by decide +kernel
theorem dc_L_law_1284 : decode mL_law.2.1 1284 = .ok (.ireturn, 1) := by decide +kernel
theorem dc_L_law_1285 : decode mL_law.2.1 1285 = .ok (.aload_n 1, 1) := by decide +kernel
theorem dc_L_law_1286 : decode mL_law.2.1 1286 = .ok (.aload_n 0, 1) := by decide +kernel
theorem dc_L_law_1287 : decode mL_law.2.1 1287 = .ok (.iload_n 3, 1) := by decide +kernel
theorem dc_L_law_1288 : decode mL_law.2.1 1288 = .ok (.iconst 1, 1) := by decide +kernel
theorem dc_L_law_1289 : decode mL_law.2.1 1289 = .ok (.iadd, 1) := by decide +kernel
theorem dc_L_law_1290 : decode mL_law.2.1 1290 = .ok (.iaload, 1) := by decide +kernel
theorem dc_L_law_1291 : decode mL_law.2.1 1291 = .ok (.invokevirtual 163, 3) := by decide +kernel
theorem dc_L_law_1294 : decode mL_law.2.1 1294 = .ok (.aload_n 2, 1) := by decide +kernel
theorem dc_L_law_1295 : decode mL_law.2.1 1295 = .ok (.aload_n 0, 1) := by decide +kernel
theorem dc_L_law_1296 : decode mL_law.2.1 1296 = .ok (.iload_n 3, 1) := by decide +kernel
theorem dc_L_law_1297 : decode mL_law.2.1 1297 = .ok (.iconst 1, 1) := by decide +kernel
theorem dc_L_law_1298 : decode mL_law.2.1 1298 = .ok (.iadd, 1) := by decide +kernel
theorem dc_L_law_1299 : decode mL_law.2.1 1299 = .ok (.iaload, 1) := by decide +kernel
theorem dc_L_law_1300 : decode mL_law.2.1 1300 = .ok (.invokevirtual 166, 3) := by decide +kernel
theorem dc_L_law_1303 : decode mL_law.2.1 1303 = .ok (.if_icmp .eq 90, 3) := by decide +kernel
theorem dc_L_law_1306 : decode mL_law.2.1 1306 = .ok (.iconst 0, 1) := by decide +kernel
theorem dc_L_law_1307 : decode mL_law.2.1 1307 = .ok (.ireturn, 1) := by decide +kernel
theorem dc_L_law_1308 : decode mL_law.2.1 1308 = .ok (.aload_n 1, 1) := by decide +kernel
theorem dc_L_law_1309 : decode mL_law.2.1 1309 = .ok (.invokevirtual 167, 3) := by decide +kernel
theorem dc_L_law_1312 : decode mL_law.2.1 1312 = .ok (.aload_n 2, 1) := by decide +kernel
theorem dc_L_law_1313 : decode mL_law.2.1 1313 = .ok (.invokevirtual 170, 3) := by decide +kernel
theorem dc_L_law_1316 : decode mL_law.2.1 1316 = .ok (.if_icmp .eq 77, 3) := by decide +kernel
theorem dc_L_law_1319 : decode mL_law.2.1 1319 = .ok (.iconst 0, 1) := by decide +kernel
theorem dc_L_law_1320 : decode mL_law.2.1 1320 = .ok (.ireturn, 1) := by decide +kernel
theorem dc_L_law_1321 : decode mL_law.2.1 1321 = .ok (.aload_n 1, 1) := by decide +kernel
theorem dc_L_law_1322 : decode mL_law.2.1 1322 = .ok (.invokevirtual 171, 3) := by decide +kernel
theorem dc_L_law_1325 : decode mL_law.2.1 1325 = .ok (.aload_n 2, 1) := by decide +kernel
theorem dc_L_law_1326 : decode mL_law.2.1 1326 = .ok (.invokevirtual 174, 3) := by decide +kernel
theorem dc_L_law_1329 : decode mL_law.2.1 1329 = .ok (.if_icmp .eq 64, 3) := by decide +kernel
theorem dc_L_law_1332 : decode mL_law.2.1 1332 = .ok (.iconst 0, 1) := by decide +kernel
theorem dc_L_law_1333 : decode mL_law.2.1 1333 = .ok (.ireturn, 1) := by decide +kernel
theorem dc_L_law_1334 : decode mL_law.2.1 1334 = .ok (.aload_n 1, 1) := by decide +kernel
theorem dc_L_law_1335 : decode mL_law.2.1 1335 = .ok (.invokevirtual 175, 3) := by decide +kernel
theorem dc_L_law_1338 : decode mL_law.2.1 1338 = .ok (.aload_n 2, 1) := by decide +kernel
theorem dc_L_law_1339 : decode mL_law.2.1 1339 = .ok (.invokevirtual 178, 3) := by decide +kernel
theorem dc_L_law_1342 : decode mL_law.2.1 1342 = .ok (.if_icmp .eq 51, 3) := by decide +kernel
theorem dc_L_law_1345 : decode mL_law.2.1 1345 = .ok (.iconst 0, 1) := by decide +kernel
theorem dc_L_law_1346 : decode mL_law.2.1 1346 = .ok (.ireturn, 1) := by decide +kernel
theorem dc_L_law_1347 : decode mL_law.2.1 1347 = .ok (.aload_n 1, 1) := by decide +kernel
theorem dc_L_law_1348 : decode mL_law.2.1 1348 = .ok (.aload_n 0, 1) := by decide +kernel
theorem dc_L_law_1349 : decode mL_law.2.1 1349 = .ok (.iload_n 3, 1) := by decide +kernel
theorem dc_L_law_1350 : decode mL_law.2.1 1350 = .ok (.iconst 1, 1) := by decide +kernel
theorem dc_L_law_1351 : decode mL_law.2.1 1351 = .ok (.iadd, 1) := by decide +kernel
theorem dc_L_law_1352 : decode mL_law.2.1 1352 = .ok (.iaload, 1) := by decide +kernel
theorem dc_L_law_1353 : decode mL_law.2.1 1353 = .ok (.invokevirtual 179, 3) := by decide +kernel
theorem dc_L_law_1356 : decode mL_law.2.1 1356 = .ok (.aload_n 2, 1) := by decide +kernel
theorem dc_L_law_1357 : decode mL_law.2.1 1357 = .ok (.aload_n 0, 1) := by decide +kernel
theorem dc_L_law_1358 : decode mL_law.2.1 1358 = .ok (.iload_n 3, 1) := by decide +kernel
theorem dc_L_law_1359 : decode mL_law.2.1 1359 = .ok (.iconst 1, 1) := by decide +kernel
theorem dc_L_law_1360 : decode mL_law.2.1 1360 = .ok (.iadd, 1) := by decide +kernel
theorem dc_L_law_1361 : decode mL_law.2.1 1361 = .ok (.iaload, 1) := by decide +kernel
theorem dc_L_law_1362 : decode mL_law.2.1 1362 = .ok (.invokevirtual 182, 3) := by decide +kernel
theorem dc_L_law_1365 : decode mL_law.2.1 1365 = .ok (.if_icmp .eq 28, 3) := by decide +kernel
theorem dc_L_law_1368 : decode mL_law.2.1 1368 = .ok (.iconst 0, 1) := by decide +kernel
theorem dc_L_law_1369 : decode mL_law.2.1 1369 = .ok (.ireturn, 1) := by decide +kernel
theorem dc_L_law_1370 : decode mL_law.2.1 1370 = .ok (.aload_n 1, 1) := by decide +kernel
theorem dc_L_law_1371 : decode mL_law.2.1 1371 = .ok (.aload_n 0, 1) := by decide +kernel
theorem dc_L_law_1372 : decode mL_law.2.1 1372 = .ok (.iload_n 3, 1) := by decide +kernel
theorem dc_L_law_1373 : decode mL_law.2.1 1373 = .ok (.iconst 1, 1) := by decide +kernel
theorem dc_L_law_1374 : decode mL_law.2.1 1374 = .ok (.iadd, 1) := by decide +kernel
theorem dc_L_law_1375 : decode mL_law.2.1 1375 = .ok (.iaload, 1) := by decide +kernel
theorem dc_L_law_1376 : decode mL_law.2.1 1376 = .ok (.invokevirtual 183, 3) := by decide +kernel
theorem dc_L_law_1379 : decode mL_law.2.1 1379 = .ok (.aload_n 2, 1) := by decide +kernel
theorem dc_L_law_1380 : decode mL_law.2.1 1380 = .ok (.aload_n 0, 1) := by decide +kernel
theorem dc_L_law_1381 : decode mL_law.2.1 1381 = .ok (.iload_n 3, 1) := by decide +kernel
theorem dc_L_law_1382 : decode mL_law.2.1 1382 = .ok (.iconst 1, 1) := by decide +kernel
theorem dc_L_law_1383 : decode mL_law.2.1 1383 = .ok (.iadd, 1) := by decide +kernel
theorem dc_L_law_1384 : decode mL_law.2.1 1384 = .ok (.iaload, 1) := by decide +kernel
theorem dc_L_law_1385 : decode mL_law.2.1 1385 = .ok (.invokevirtual 186, 3) := by decide +kernel
theorem dc_L_law_1388 : decode mL_law.2.1 1388 = .ok (.if_icmp .eq 5, 3) := by decide +kernel
theorem dc_L_law_1391 : decode mL_law.2.1 1391 = .ok (.iconst 0, 1) := by decide +kernel
theorem dc_L_law_1392 : decode mL_law.2.1 1392 = .ok (.ireturn, 1) := by decide +kernel
theorem dc_L_law_1393 : decode mL_law.2.1 1393 = .ok (.iinc 3 6, 3) := by decide +kernel
theorem dc_L_law_1396 : decode mL_law.2.1 1396 = .ok (.goto (-1378), 3) := by decide +kernel
theorem dc_L_law_1399 : decode mL_law.2.1 1399 = .ok (.iconst 1, 1) := by decide +kernel
theorem dc_L_law_1400 : decode mL_law.2.1 1400 = .ok (.ireturn, 1) := by decide +kernel
set_option maxRecDepth 10000 in
theorem ml_L_13 : Cond.methodLink mL_law.1.cls 13 mX8_set.1 ∈ tw_gT := gT_2 38 rfl rfl
set_option maxRecDepth 10000 in
theorem ml_L_18 : Cond.methodLink mL_law.1.cls 18 mX8_light.1 ∈ tw_gT := gT_2 87 rfl rfl
set_option maxRecDepth 10000 in
theorem ml_L_23 : Cond.methodLink mL_law.1.cls 23 mX8_ship.1 ∈ tw_gT := gT_2 91 rfl rfl
set_option maxRecDepth 10000 in
theorem ml_L_27 : Cond.methodLink mL_law.1.cls 27 mX8_of.1 ∈ tw_gT := gT_2 109 rfl rfl
set_option maxRecDepth 10000 in
theorem ml_L_31 : Cond.methodLink mL_law.1.cls 31 mX8_change.1 ∈ tw_gT := gT_2 134 rfl rfl
set_option maxRecDepth 10000 in
theorem ml_L_36 : Cond.methodLink mL_law.1.cls 36 mX8_who.1 ∈ tw_gT := gT_2 146 rfl rfl
set_option maxRecDepth 10000 in
theorem ml_L_40 : Cond.methodLink mL_law.1.cls 40 mX8_go.1 ∈ tw_gT := gT_2 154 rfl rfl
set_option maxRecDepth 10000 in
theorem ml_L_44 : Cond.methodLink mL_law.1.cls 44 mX8_now.1 ∈ tw_gT := gT_2 197 rfl rfl
set_option maxRecDepth 10000 in
theorem ml_L_48 : Cond.methodLink mL_law.1.cls 48 mX8_ahead.1 ∈ tw_gT := gT_2 218 rfl rfl
set_option maxRecDepth 10000 in
theorem ml_L_52 : Cond.methodLink mL_law.1.cls 52 mX8_shows.1 ∈ tw_gT := gT_2 233 rfl rfl
set_option maxRecDepth 10000 in
theorem ml_L_56 : Cond.methodLink mL_law.1.cls 56 mX8_strands.1 ∈ tw_gT := gT_2 239 rfl rfl
set_option maxRecDepth 10000 in
theorem ml_L_60 : Cond.methodLink mL_law.1.cls 60 mX8_when.1 ∈ tw_gT := gT_3 10 rfl rfl
set_option maxRecDepth 10000 in
theorem ml_L_64 : Cond.methodLink mL_law.1.cls 64 mX8_meet.1 ∈ tw_gT := gT_3 14 rfl rfl
set_option maxRecDepth 10000 in
theorem ml_L_68 : Cond.methodLink mL_law.1.cls 68 mX8_period.1 ∈ tw_gT := gT_3 18 rfl rfl
set_option maxRecDepth 10000 in
theorem ml_L_73 : Cond.methodLink mL_law.1.cls 73 mX8_lagFor.1 ∈ tw_gT := gT_3 22 rfl rfl
set_option maxRecDepth 10000 in
theorem ml_L_77 : Cond.methodLink mL_law.1.cls 77 mX8_patternFor.1 ∈ tw_gT := gT_3 43 rfl rfl
set_option maxRecDepth 10000 in
theorem ml_L_81 : Cond.methodLink mL_law.1.cls 81 mX8_kindFor.1 ∈ tw_gT := gT_3 71 rfl rfl
set_option maxRecDepth 10000 in
theorem ml_L_85 : Cond.methodLink mL_law.1.cls 85 mX8_start.1 ∈ tw_gT := gT_3 83 rfl rfl
set_option maxRecDepth 10000 in
theorem ml_L_89 : Cond.methodLink mL_law.1.cls 89 mX8_speedFor.1 ∈ tw_gT := gT_3 87 rfl rfl
set_option maxRecDepth 10000 in
theorem ml_L_93 : Cond.methodLink mL_law.1.cls 93 mX8_keepIn.1 ∈ tw_gT := gT_3 91 rfl rfl
set_option maxRecDepth 10000 in
theorem ml_L_97 : Cond.methodLink mL_law.1.cls 97 mX8_lags.1 ∈ tw_gT := gT_3 103 rfl rfl
set_option maxRecDepth 10000 in
theorem ml_L_101 : Cond.methodLink mL_law.1.cls 101 mX8_fits.1 ∈ tw_gT := gT_3 119 rfl rfl
set_option maxRecDepth 10000 in
theorem ml_L_105 : Cond.methodLink mL_law.1.cls 105 mX8_pattern.1 ∈ tw_gT := gT_3 144 rfl rfl
set_option maxRecDepth 10000 in
theorem ml_L_109 : Cond.methodLink mL_law.1.cls 109 mX8_kinds.1 ∈ tw_gT := gT_3 148 rfl rfl
set_option maxRecDepth 10000 in
theorem ml_L_113 : Cond.methodLink mL_law.1.cls 113 mX8_nights.1 ∈ tw_gT := gT_3 156 rfl rfl
set_option maxRecDepth 10000 in
theorem ml_L_117 : Cond.methodLink mL_law.1.cls 117 mX8_odds.1 ∈ tw_gT := gT_3 171 rfl rfl
set_option maxRecDepth 10000 in
theorem ml_L_122 : Cond.methodLink mL_law.1.cls 122 mX8_seed.1 ∈ tw_gT := gT_3 181 rfl rfl
set_option maxRecDepth 10000 in
theorem ml_L_126 : Cond.methodLink mL_law.1.cls 126 mX8_feed.1 ∈ tw_gT := gT_3 185 rfl rfl
set_option maxRecDepth 10000 in
theorem ml_L_130 : Cond.methodLink mL_law.1.cls 130 mX8_wipe.1 ∈ tw_gT := gT_3 193 rfl rfl
set_option maxRecDepth 10000 in
theorem ml_L_134 : Cond.methodLink mL_law.1.cls 134 mX8_text.1 ∈ tw_gT := gT_3 197 rfl rfl
set_option maxRecDepth 10000 in
theorem ml_L_138 : Cond.methodLink mL_law.1.cls 138 mX8_hold.1 ∈ tw_gT := gT_4 79 rfl rfl
set_option maxRecDepth 10000 in
theorem ml_L_142 : Cond.methodLink mL_law.1.cls 142 mX8_as.1 ∈ tw_gT := gT_4 83 rfl rfl
set_option maxRecDepth 10000 in
theorem ml_L_146 : Cond.methodLink mL_law.1.cls 146 mX8_sheet.1 ∈ tw_gT := gT_4 93 rfl rfl
set_option maxRecDepth 10000 in
theorem ml_L_150 : Cond.methodLink mL_law.1.cls 150 mX8_write.1 ∈ tw_gT := gT_4 102 rfl rfl
set_option maxRecDepth 10000 in
theorem ml_L_154 : Cond.methodLink mL_law.1.cls 154 mX8_copy.1 ∈ tw_gT := gT_4 110 rfl rfl
set_option maxRecDepth 10000 in
theorem ml_L_159 : Cond.methodLink mL_law.1.cls 159 mX8_load.1 ∈ tw_gT := gT_4 123 rfl rfl
set_option maxRecDepth 10000 in
theorem ml_L_163 : Cond.methodLink mL_law.1.cls 163 mX8_judge.1 ∈ tw_gT := gT_4 127 rfl rfl
set_option maxRecDepth 10000 in
theorem ml_L_167 : Cond.methodLink mL_law.1.cls 167 mX8_image.1 ∈ tw_gT := gT_4 131 rfl rfl
set_option maxRecDepth 10000 in
theorem ml_L_171 : Cond.methodLink mL_law.1.cls 171 mX8_undo.1 ∈ tw_gT := gT_4 135 rfl rfl
set_option maxRecDepth 10000 in
theorem ml_L_175 : Cond.methodLink mL_law.1.cls 175 mX8_tear.1 ∈ tw_gT := gT_4 139 rfl rfl
set_option maxRecDepth 10000 in
theorem ml_L_179 : Cond.methodLink mL_law.1.cls 179 mX8_count.1 ∈ tw_gT := gT_4 143 rfl rfl
set_option maxRecDepth 10000 in
theorem ml_L_183 : Cond.methodLink mL_law.1.cls 183 mX8_status.1 ∈ tw_gT := gT_4 151 rfl rfl
set_option maxRecDepth 10000 in
theorem ml_L_17 : Cond.methodLink mL_law.1.cls 17 mX9_set.1 ∈ tw_gT := gT_4 231 rfl rfl
set_option maxRecDepth 10000 in
theorem ml_L_22 : Cond.methodLink mL_law.1.cls 22 mX9_light.1 ∈ tw_gT := gT_5 11 rfl rfl
set_option maxRecDepth 10000 in
theorem ml_L_26 : Cond.methodLink mL_law.1.cls 26 mX9_ship.1 ∈ tw_gT := gT_5 28 rfl rfl
set_option maxRecDepth 10000 in
theorem ml_L_30 : Cond.methodLink mL_law.1.cls 30 mX9_of.1 ∈ tw_gT := gT_5 46 rfl rfl
set_option maxRecDepth 10000 in
theorem ml_L_35 : Cond.methodLink mL_law.1.cls 35 mX9_change.1 ∈ tw_gT := gT_5 74 rfl rfl
set_option maxRecDepth 10000 in
theorem ml_L_39 : Cond.methodLink mL_law.1.cls 39 mX9_who.1 ∈ tw_gT := gT_5 81 rfl rfl
set_option maxRecDepth 10000 in
theorem ml_L_43 : Cond.methodLink mL_law.1.cls 43 mX9_go.1 ∈ tw_gT := gT_5 89 rfl rfl
set_option maxRecDepth 10000 in
theorem ml_L_47 : Cond.methodLink mL_law.1.cls 47 mX9_now.1 ∈ tw_gT := gT_5 116 rfl rfl
set_option maxRecDepth 10000 in
theorem ml_L_51 : Cond.methodLink mL_law.1.cls 51 mX9_ahead.1 ∈ tw_gT := gT_5 132 rfl rfl
set_option maxRecDepth 10000 in
theorem ml_L_55 : Cond.methodLink mL_law.1.cls 55 mX9_shows.1 ∈ tw_gT := gT_5 147 rfl rfl
set_option maxRecDepth 10000 in
theorem ml_L_59 : Cond.methodLink mL_law.1.cls 59 mX9_strands.1 ∈ tw_gT := gT_5 151 rfl rfl
set_option maxRecDepth 10000 in
theorem ml_L_63 : Cond.methodLink mL_law.1.cls 63 mX9_when.1 ∈ tw_gT := gT_5 160 rfl rfl
set_option maxRecDepth 10000 in
theorem ml_L_67 : Cond.methodLink mL_law.1.cls 67 mX9_meet.1 ∈ tw_gT := gT_5 164 rfl rfl
set_option maxRecDepth 10000 in
theorem ml_L_72 : Cond.methodLink mL_law.1.cls 72 mX9_period.1 ∈ tw_gT := gT_5 168 rfl rfl
set_option maxRecDepth 10000 in
theorem ml_L_76 : Cond.methodLink mL_law.1.cls 76 mX9_lagFor.1 ∈ tw_gT := gT_5 172 rfl rfl
set_option maxRecDepth 10000 in
theorem ml_L_80 : Cond.methodLink mL_law.1.cls 80 mX9_patternFor.1 ∈ tw_gT := gT_5 187 rfl rfl
set_option maxRecDepth 10000 in
theorem ml_L_84 : Cond.methodLink mL_law.1.cls 84 mX9_kindFor.1 ∈ tw_gT := gT_5 191 rfl rfl
set_option maxRecDepth 10000 in
theorem ml_L_88 : Cond.methodLink mL_law.1.cls 88 mX9_start.1 ∈ tw_gT := gT_5 195 rfl rfl
set_option maxRecDepth 10000 in
theorem ml_L_92 : Cond.methodLink mL_law.1.cls 92 mX9_speedFor.1 ∈ tw_gT := gT_5 199 rfl rfl
set_option maxRecDepth 10000 in
theorem ml_L_96 : Cond.methodLink mL_law.1.cls 96 mX9_keepIn.1 ∈ tw_gT := gT_5 203 rfl rfl
set_option maxRecDepth 10000 in
theorem ml_L_100 : Cond.methodLink mL_law.1.cls 100 mX9_lags.1 ∈ tw_gT := gT_5 214 rfl rfl
set_option maxRecDepth 10000 in
theorem ml_L_104 : Cond.methodLink mL_law.1.cls 104 mX9_fits.1 ∈ tw_gT := gT_5 230 rfl rfl
set_option maxRecDepth 10000 in
theorem ml_L_108 : Cond.methodLink mL_law.1.cls 108 mX9_pattern.1 ∈ tw_gT := gT_5 234 rfl rfl
set_option maxRecDepth 10000 in
theorem ml_L_112 : Cond.methodLink mL_law.1.cls 112 mX9_kinds.1 ∈ tw_gT := gT_5 238 rfl rfl
set_option maxRecDepth 10000 in
theorem ml_L_116 : Cond.methodLink mL_law.1.cls 116 mX9_nights.1 ∈ tw_gT := gT_6 6 rfl rfl
set_option maxRecDepth 10000 in
theorem ml_L_121 : Cond.methodLink mL_law.1.cls 121 mX9_odds.1 ∈ tw_gT := gT_6 15 rfl rfl
set_option maxRecDepth 10000 in
theorem ml_L_125 : Cond.methodLink mL_law.1.cls 125 mX9_seed.1 ∈ tw_gT := gT_6 19 rfl rfl
set_option maxRecDepth 10000 in
theorem ml_L_129 : Cond.methodLink mL_law.1.cls 129 mX9_feed.1 ∈ tw_gT := gT_6 23 rfl rfl
set_option maxRecDepth 10000 in
theorem ml_L_133 : Cond.methodLink mL_law.1.cls 133 mX9_wipe.1 ∈ tw_gT := gT_6 27 rfl rfl
set_option maxRecDepth 10000 in
theorem ml_L_137 : Cond.methodLink mL_law.1.cls 137 mX9_text.1 ∈ tw_gT := gT_6 31 rfl rfl
set_option maxRecDepth 10000 in
theorem ml_L_141 : Cond.methodLink mL_law.1.cls 141 mX9_hold.1 ∈ tw_gT := gT_6 84 rfl rfl
set_option maxRecDepth 10000 in
theorem ml_L_145 : Cond.methodLink mL_law.1.cls 145 mX9_as.1 ∈ tw_gT := gT_6 91 rfl rfl
set_option maxRecDepth 10000 in
theorem ml_L_149 : Cond.methodLink mL_law.1.cls 149 mX9_sheet.1 ∈ tw_gT := gT_6 102 rfl rfl
set_option maxRecDepth 10000 in
theorem ml_L_153 : Cond.methodLink mL_law.1.cls 153 mX9_write.1 ∈ tw_gT := gT_6 107 rfl rfl
set_option maxRecDepth 10000 in
theorem ml_L_158 : Cond.methodLink mL_law.1.cls 158 mX9_copy.1 ∈ tw_gT := gT_6 114 rfl rfl
set_option maxRecDepth 10000 in
theorem ml_L_162 : Cond.methodLink mL_law.1.cls 162 mX9_load.1 ∈ tw_gT := gT_6 118 rfl rfl
set_option maxRecDepth 10000 in
theorem ml_L_166 : Cond.methodLink mL_law.1.cls 166 mX9_judge.1 ∈ tw_gT := gT_6 122 rfl rfl
set_option maxRecDepth 10000 in
theorem ml_L_170 : Cond.methodLink mL_law.1.cls 170 mX9_image.1 ∈ tw_gT := gT_6 126 rfl rfl
set_option maxRecDepth 10000 in
theorem ml_L_174 : Cond.methodLink mL_law.1.cls 174 mX9_undo.1 ∈ tw_gT := gT_6 130 rfl rfl
set_option maxRecDepth 10000 in
theorem ml_L_178 : Cond.methodLink mL_law.1.cls 178 mX9_tear.1 ∈ tw_gT := gT_6 134 rfl rfl
set_option maxRecDepth 10000 in
theorem ml_L_182 : Cond.methodLink mL_law.1.cls 182 mX9_count.1 ∈ tw_gT := gT_6 138 rfl rfl
set_option maxRecDepth 10000 in
theorem ml_L_186 : Cond.methodLink mL_law.1.cls 186 mX9_status.1 ∈ tw_gT := gT_6 142 rfl rfl
def tw_S (K : tw_K) (L : Nat) (xs : Nat → Int32) : Prop := match K with
  | ((_, _, _, s, _, _), _, _, (_, _, _, ρ)) => va_X (ρ 260) L xs s s.heap ∧ ρ 260 < s.heap.size ∧ ¬ tw_A ρ s.heap.size (ρ 260)
section SCRIPT
variable {K : tw_K} {M : Mt} {d : Nat} {Q : Option Value → tw_T → Prop} {pc : Nat} {ls st : List Value} {τ : tw_T} {L : Nat} {xs : Nat → Int32}
theorem rw_sld (F : tw_F K M d Q) (S : tw_S K L xs) {i : Int32} (hd : decode M.2.1 pc = .ok (.iaload, 1)) (hin : vp_in i L) (kk : tw_R K (pc + 1) ls (.int (xs i.toNatClampNeg) :: st) τ) : tw_R K pc ls (.int i :: .ref 260 :: st) τ := by
  obtain ⟨⟨p, e, R, s, m, args⟩, ⟨below, meth, c⟩, ⟨cells, slots, Z⟩, ⟨l, D, cy, ρ⟩⟩ := K
  obtain ⟨⟨hx, hb, hml, hown, hts, hG, hrest⟩, hRt⟩ := F
  obtain ⟨s1, s2, s3⟩ := S
  intro H locs la hP hS hL
  exact va_sld hx hb s1 s2 s3 hS hin hd (kk H locs la hP hS hL)
theorem rw_slen (F : tw_F K M d Q) (S : tw_S K L xs) (hd : decode M.2.1 pc = .ok (.arraylength, 1)) (kk : tw_R K (pc + 1) ls (.int (nI L) :: st) τ) : tw_R K pc ls (.ref 260 :: st) τ := by
  obtain ⟨⟨p, e, R, s, m, args⟩, ⟨below, meth, c⟩, ⟨cells, slots, Z⟩, ⟨l, D, cy, ρ⟩⟩ := K
  obtain ⟨⟨hx, hb, hml, hown, hts, hG, hrest⟩, hRt⟩ := F
  obtain ⟨s1, s2, s3⟩ := S
  intro H locs la hP hS hL
  exact va_slen hx hb s1 s2 s3 hS hd (kk H locs la hP hS hL)
end SCRIPT
theorem sl_in {c L j : Nat} (h : 6 * c + 6 ≤ L) (h2 : L ≤ 3072) (hj : j < 6) : vp_in (nI (6 * c) + nI j) L := by
  rw [nI_add]
  exact vp_in_nI (by omega) (by omega)
theorem lg_self (x : Int64) : lg_cmp x x = 0 := by
  unfold lg_cmp
  simp
