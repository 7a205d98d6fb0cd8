/-! decode rows -/
theorem d_LW_law_0 : decode code 0 = .ok (.new 7, 3) := by decide +kernel
theorem d_LW_law_3 : decode code 3 = .ok (.dup, 1) := by decide +kernel
theorem d_LW_law_4 : decode code 4 = .ok (.invokespecial 9, 3) := by decide +kernel
theorem d_LW_law_7 : decode code 7 = .ok (.astore_n 1, 1) := by decide +kernel
theorem d_LW_law_8 : decode code 8 = .ok (.new 10, 3) := by decide +kernel
theorem d_LW_law_11 : decode code 11 = .ok (.dup, 1) := by decide +kernel
theorem d_LW_law_12 : decode code 12 = .ok (.invokespecial 12, 3) := by decide +kernel
theorem d_LW_law_15 : decode code 15 = .ok (.astore_n 2, 1) := by decide +kernel
theorem d_LW_law_16 : decode code 16 = .ok (.iconst 0, 1) := by decide +kernel
theorem d_LW_law_17 : decode code 17 = .ok (.istore_n 3, 1) := by decide +kernel
theorem d_LW_law_18 : decode code 18 = .ok (.iload_n 3, 1) := by decide +kernel
theorem d_LW_law_19 : decode code 19 = .ok (.aload_n 0, 1) := by decide +kernel
theorem d_LW_law_20 : decode code 20 = .ok (.arraylength, 1) := by decide +kernel
theorem d_LW_law_21 : decode code 21 = .ok (.iconst 5, 1) := by decide +kernel
theorem d_LW_law_22 : decode code 22 = .ok (.isub, 1) := by decide +kernel
theorem d_LW_law_23 : decode code 23 = .ok (.if_icmp .gt 1072, 3) := by decide +kernel
theorem d_LW_law_26 : decode code 26 = .ok (.aload_n 0, 1) := by decide +kernel
theorem d_LW_law_27 : decode code 27 = .ok (.iload_n 3, 1) := by decide +kernel
theorem d_LW_law_28 : decode code 28 = .ok (.iaload, 1) := by decide +kernel
theorem d_LW_law_29 : decode code 29 = .ok (.bipush 63, 2) := by decide +kernel
theorem d_LW_law_31 : decode code 31 = .ok (.iand, 1) := by decide +kernel
theorem d_LW_law_32 : decode code 32 = .ok (.tableswitch 1057 0 32 #[148, 211, 224, 237, 250, 273, 306, 339, 372, 405, 454, 477, 500, 523, 556, 589, 622, 655, 668, 681, 694, 707, 730, 763, 776, 799, 812, 835, 848, 918, 988, 1011, 1034], 148) := by decide +kernel
theorem d_LW_law_180 : decode code 180 = .ok (.aload_n 1, 1) := by decide +kernel
theorem d_LW_law_181 : decode code 181 = .ok (.aload_n 0, 1) := by decide +kernel
theorem d_LW_law_182 : decode code 182 = .ok (.iload_n 3, 1) := by decide +kernel
theorem d_LW_law_183 : decode code 183 = .ok (.iconst 1, 1) := by decide +kernel
theorem d_LW_law_184 : decode code 184 = .ok (.iadd, 1) := by decide +kernel
theorem d_LW_law_185 : decode code 185 = .ok (.iaload, 1) := by decide +kernel
theorem d_LW_law_186 : decode code 186 = .ok (.aload_n 0, 1) := by decide +kernel
theorem d_LW_law_187 : decode code 187 = .ok (.iload_n 3, 1) := by decide +kernel
theorem d_LW_law_188 : decode code 188 = .ok (.iconst 2, 1) := by decide +kernel
theorem d_LW_law_189 : decode code 189 = .ok (.iadd, 1) := by decide +kernel
theorem d_LW_law_190 : decode code 190 = .ok (.iaload, 1) := by decide +kernel
theorem d_LW_law_191 : decode code 191 = .ok (.i2l, 1) := by decide +kernel
theorem d_LW_law_192 : decode code 192 = .ok (.bipush 32, 2) := by decide +kernel
theorem d_LW_law_194 : decode code 194 = .ok (.lshl, 1) := by decide +kernel
theorem d_LW_law_195 : decode code 195 = .ok (.aload_n 0, 1) := by decide +kernel
theorem d_LW_law_196 : decode code 196 = .ok (.iload_n 3, 1) := by decide +kernel
theorem d_LW_law_197 : decode code 197 = .ok (.iconst 3, 1) := by decide +kernel
theorem d_LW_law_198 : decode code 198 = .ok (.iadd, 1) := by decide +kernel
theorem d_LW_law_199 : decode code 199 = .ok (.iaload, 1) := by decide +kernel
theorem d_LW_law_200 : decode code 200 = .ok (.i2l, 1) := by decide +kernel
theorem d_LW_law_201 : decode code 201 = .ok (.ldc2_w 13, 3) := by decide +kernel
theorem d_LW_law_204 : decode code 204 = .ok (.land, 1) := by decide +kernel
theorem d_LW_law_205 : decode code 205 = .ok (.lor, 1) := by decide +kernel
theorem d_LW_law_206 : decode code 206 = .ok (.invokevirtual 15, 3) := by decide +kernel
theorem d_LW_law_209 : decode code 209 = .ok (.aload_n 2, 1) := by decide +kernel
theorem d_LW_law_210 : decode code 210 = .ok (.aload_n 0, 1) := by decide +kernel
theorem d_LW_law_211 : decode code 211 = .ok (.iload_n 3, 1) := by decide +kernel
theorem d_LW_law_212 : decode code 212 = .ok (.iconst 1, 1) := by decide +kernel
theorem d_LW_law_213 : decode code 213 = .ok (.iadd, 1) := by decide +kernel
theorem d_LW_law_214 : decode code 214 = .ok (.iaload, 1) := by decide +kernel
theorem d_LW_law_215 : decode code 215 = .ok (.aload_n 0, 1) := by decide +kernel
theorem d_LW_law_216 : decode code 216 = .ok (.iload_n 3, 1) := by decide +kernel
theorem d_LW_law_217 : decode code 217 = .ok (.iconst 2, 1) := by decide +kernel
theorem d_LW_law_218 : decode code 218 = .ok (.iadd, 1) := by decide +kernel
theorem d_LW_law_219 : decode code 219 = .ok (.iaload, 1) := by decide +kernel
theorem d_LW_law_220 : decode code 220 = .ok (.i2l, 1) := by decide +kernel
theorem d_LW_law_221 : decode code 221 = .ok (.bipush 32, 2) := by decide +kernel
theorem d_LW_law_223 : decode code 223 = .ok (.lshl, 1) := by decide +kernel
theorem d_LW_law_224 : decode code 224 = .ok (.aload_n 0, 1) := by decide +kernel
theorem d_LW_law_225 : decode code 225 = .ok (.iload_n 3, 1) := by decide +kernel
theorem d_LW_law_226 : decode code 226 = .ok (.iconst 3, 1) := by decide +kernel
theorem d_LW_law_227 : decode code 227 = .ok (.iadd, 1) := by decide +kernel
theorem d_LW_law_228 : decode code 228 = .ok (.iaload, 1) := by decide +kernel
theorem d_LW_law_229 : decode code 229 = .ok (.i2l, 1) := by decide +kernel
theorem d_LW_law_230 : decode code 230 = .ok (.ldc2_w 13, 3) := by decide +kernel
theorem d_LW_law_233 : decode code 233 = .ok (.land, 1) := by decide +kernel
theorem d_LW_law_234 : decode code 234 = .ok (.lor, 1) := by decide +kernel
theorem d_LW_law_235 : decode code 235 = .ok (.invokevirtual 19, 3) := by decide +kernel
theorem d_LW_law_238 : decode code 238 = .ok (.if_icmp .eq 851, 3) := by decide +kernel
theorem d_LW_law_241 : decode code 241 = .ok (.iconst 0, 1) := by decide +kernel
theorem d_LW_law_242 : decode code 242 = .ok (.ireturn, 1) := by decide +kernel
theorem d_LW_law_243 : decode code 243 = .ok (.aload_n 1, 1) := by decide +kernel
theorem d_LW_law_244 : decode code 244 = .ok (.invokevirtual 20, 3) := by decide +kernel
theorem d_LW_law_247 : decode code 247 = .ok (.aload_n 2, 1) := by decide +kernel
theorem d_LW_law_248 : decode code 248 = .ok (.invokevirtual 24, 3) := by decide +kernel
theorem d_LW_law_251 : decode code 251 = .ok (.if_icmp .eq 838, 3) := by decide +kernel
theorem d_LW_law_254 : decode code 254 = .ok (.iconst 0, 1) := by decide +kernel
theorem d_LW_law_255 : decode code 255 = .ok (.ireturn, 1) := by decide +kernel
theorem d_LW_law_256 : decode code 256 = .ok (.aload_n 1, 1) := by decide +kernel
theorem d_LW_law_257 : decode code 257 = .ok (.invokevirtual 25, 3) := by decide +kernel
theorem d_LW_law_260 : decode code 260 = .ok (.aload_n 2, 1) := by decide +kernel
theorem d_LW_law_261 : decode code 261 = .ok (.invokevirtual 28, 3) := by decide +kernel
theorem d_LW_law_264 : decode code 264 = .ok (.if_icmp .eq 825, 3) := by decide +kernel
theorem d_LW_law_267 : decode code 267 = .ok (.iconst 0, 1) := by decide +kernel
theorem d_LW_law_268 : decode code 268 = .ok (.ireturn, 1) := by decide +kernel
theorem d_LW_law_269 : decode code 269 = .ok (.aload_n 1, 1) := by decide +kernel
theorem d_LW_law_270 : decode code 270 = .ok (.invokevirtual 29, 3) := by decide +kernel
theorem d_LW_law_273 : decode code 273 = .ok (.aload_n 2, 1) := by decide +kernel
theorem d_LW_law_274 : decode code 274 = .ok (.invokevirtual 32, 3) := by decide +kernel
theorem d_LW_law_277 : decode code 277 = .ok (.if_icmp .eq 812, 3) := by decide +kernel
theorem d_LW_law_280 : decode code 280 = .ok (.iconst 0, 1) := by decide +kernel
theorem d_LW_law_281 : decode code 281 = .ok (.ireturn, 1) := by decide +kernel
theorem d_LW_law_282 : decode code 282 = .ok (.aload_n 1, 1) := by decide +kernel
theorem d_LW_law_283 : decode code 283 = .ok (.aload_n 0, 1) := by decide +kernel
theorem d_LW_law_284 : decode code 284 = .ok (.iload_n 3, 1) := by decide +kernel
theorem d_LW_law_285 : decode code 285 = .ok (.iconst 1, 1) := by decide +kernel
theorem d_LW_law_286 : decode code 286 = .ok (.iadd, 1) := by decide +kernel
theorem d_LW_law_287 : decode code 287 = .ok (.iaload, 1) := by decide +kernel
theorem d_LW_law_288 : decode code 288 = .ok (.invokevirtual 33, 3) := by decide +kernel
theorem d_LW_law_291 : decode code 291 = .ok (.aload_n 2, 1) := by decide +kernel
theorem d_LW_law_292 : decode code 292 = .ok (.aload_n 0, 1) := by decide +kernel
theorem d_LW_law_293 : decode code 293 = .ok (.iload_n 3, 1) := by decide +kernel
theorem d_LW_law_294 : decode code 294 = .ok (.iconst 1, 1) := by decide +kernel
theorem d_LW_law_295 : decode code 295 = .ok (.iadd, 1) := by decide +kernel
theorem d_LW_law_296 : decode code 296 = .ok (.iaload, 1) := by decide +kernel
theorem d_LW_law_297 : decode code 297 = .ok (.invokevirtual 37, 3) := by decide +kernel
theorem d_LW_law_300 : decode code 300 = .ok (.if_icmp .eq 789, 3) := by decide +kernel
theorem d_LW_law_303 : decode code 303 = .ok (.iconst 0, 1) := by decide +kernel
theorem d_LW_law_304 : decode code 304 = .ok (.ireturn, 1) := by decide +kernel
theorem d_LW_law_305 : decode code 305 = .ok (.aload_n 1, 1) := by decide +kernel
theorem d_LW_law_306 : decode code 306 = .ok (.aload_n 0, 1) := by decide +kernel
theorem d_LW_law_307 : decode code 307 = .ok (.iload_n 3, 1) := by decide +kernel
theorem d_LW_law_308 : decode code 308 = .ok (.iconst 1, 1) := by decide +kernel
theorem d_LW_law_309 : decode code 309 = .ok (.iadd, 1) := by decide +kernel
theorem d_LW_law_310 : decode code 310 = .ok (.iaload, 1) := by decide +kernel
theorem d_LW_law_311 : decode code 311 = .ok (.aload_n 0, 1) := by decide +kernel
theorem d_LW_law_312 : decode code 312 = .ok (.iload_n 3, 1) := by decide +kernel
theorem d_LW_law_313 : decode code 313 = .ok (.iconst 2, 1) := by decide +kernel
theorem d_LW_law_314 : decode code 314 = .ok (.iadd, 1) := by decide +kernel
theorem d_LW_law_315 : decode code 315 = .ok (.iaload, 1) := by decide +kernel
theorem d_LW_law_316 : decode code 316 = .ok (.invokevirtual 38, 3) := by decide +kernel
theorem d_LW_law_319 : decode code 319 = .ok (.aload_n 2, 1) := by decide +kernel
theorem d_LW_law_320 : decode code 320 = .ok (.aload_n 0, 1) := by decide +kernel
theorem d_LW_law_321 : decode code 321 = .ok (.iload_n 3, 1) := by decide +kernel
theorem d_LW_law_322 : decode code 322 = .ok (.iconst 1, 1) := by decide +kernel
theorem d_LW_law_323 : decode code 323 = .ok (.iadd, 1) := by decide +kernel
theorem d_LW_law_324 : decode code 324 = .ok (.iaload, 1) := by decide +kernel
theorem d_LW_law_325 : decode code 325 = .ok (.aload_n 0, 1) := by decide +kernel
theorem d_LW_law_326 : decode code 326 = .ok (.iload_n 3, 1) := by decide +kernel
theorem d_LW_law_327 : decode code 327 = .ok (.iconst 2, 1) := by decide +kernel
theorem d_LW_law_328 : decode code 328 = .ok (.iadd, 1) := by decide +kernel
theorem d_LW_law_329 : decode code 329 = .ok (.iaload, 1) := by decide +kernel
theorem d_LW_law_330 : decode code 330 = .ok (.invokevirtual 42, 3) := by decide +kernel
theorem d_LW_law_333 : decode code 333 = .ok (.if_icmp .eq 756, 3) := by decide +kernel
theorem d_LW_law_336 : decode code 336 = .ok (.iconst 0, 1) := by decide +kernel
theorem d_LW_law_337 : decode code 337 = .ok (.ireturn, 1) := by decide +kernel
theorem d_LW_law_338 : decode code 338 = .ok (.aload_n 1, 1) := by decide +kernel
theorem d_LW_law_339 : decode code 339 = .ok (.aload_n 0, 1) := by decide +kernel
theorem d_LW_law_340 : decode code 340 = .ok (.iload_n 3, 1) := by decide +kernel
theorem d_LW_law_341 : decode code 341 = .ok (.iconst 1, 1) := by decide +kernel
theorem d_LW_law_342 : decode code 342 = .ok (.iadd, 1) := by decide +kernel
theorem d_LW_law_343 : decode code 343 = .ok (.iaload, 1) := by decide +kernel
theorem d_LW_law_344 : decode code 344 = .ok (.aload_n 0, 1) := by decide +kernel
theorem d_LW_law_345 : decode code 345 = .ok (.iload_n 3, 1) := by decide +kernel
theorem d_LW_law_346 : decode code 346 = .ok (.iconst 2, 1) := by decide +kernel
theorem d_LW_law_347 : decode code 347 = .ok (.iadd, 1) := by decide +kernel
theorem d_LW_law_348 : decode code 348 = .ok (.iaload, 1) := by decide +kernel
theorem d_LW_law_349 : decode code 349 = .ok (.invokevirtual 43, 3) := by decide +kernel
theorem d_LW_law_352 : decode code 352 = .ok (.aload_n 2, 1) := by decide +kernel
theorem d_LW_law_353 : decode code 353 = .ok (.aload_n 0, 1) := by decide +kernel
theorem d_LW_law_354 : decode code 354 = .ok (.iload_n 3, 1) := by decide +kernel
theorem d_LW_law_355 : decode code 355 = .ok (.iconst 1, 1) := by decide +kernel
theorem d_LW_law_356 : decode code 356 = .ok (.iadd, 1) := by decide +kernel
theorem d_LW_law_357 : decode code 357 = .ok (.iaload, 1) := by decide +kernel
theorem d_LW_law_358 : decode code 358 = .ok (.aload_n 0, 1) := by decide +kernel
theorem d_LW_law_359 : decode code 359 = .ok (.iload_n 3, 1) := by decide +kernel
theorem d_LW_law_360 : decode code 360 = .ok (.iconst 2, 1) := by decide +kernel
theorem d_LW_law_361 : decode code 361 = .ok (.iadd, 1) := by decide +kernel
theorem d_LW_law_362 : decode code 362 = .ok (.iaload, 1) := by decide +kernel
theorem d_LW_law_363 : decode code 363 = .ok (.invokevirtual 46, 3) := by decide +kernel
theorem d_LW_law_366 : decode code 366 = .ok (.if_icmp .eq 723, 3) := by decide +kernel
theorem d_LW_law_369 : decode code 369 = .ok (.iconst 0, 1) := by decide +kernel
theorem d_LW_law_370 : decode code 370 = .ok (.ireturn, 1) := by decide +kernel
theorem d_LW_law_371 : decode code 371 = .ok (.aload_n 1, 1) := by decide +kernel
theorem d_LW_law_372 : decode code 372 = .ok (.aload_n 0, 1) := by decide +kernel
theorem d_LW_law_373 : decode code 373 = .ok (.iload_n 3, 1) := by decide +kernel
theorem d_LW_law_374 : decode code 374 = .ok (.iconst 1, 1) := by decide +kernel
theorem d_LW_law_375 : decode code 375 = .ok (.iadd, 1) := by decide +kernel
theorem d_LW_law_376 : decode code 376 = .ok (.iaload, 1) := by decide +kernel
theorem d_LW_law_377 : decode code 377 = .ok (.aload_n 0, 1) := by decide +kernel
theorem d_LW_law_378 : decode code 378 = .ok (.iload_n 3, 1) := by decide +kernel
theorem d_LW_law_379 : decode code 379 = .ok (.iconst 2, 1) := by decide +kernel
theorem d_LW_law_380 : decode code 380 = .ok (.iadd, 1) := by decide +kernel
theorem d_LW_law_381 : decode code 381 = .ok (.iaload, 1) := by decide +kernel
theorem d_LW_law_382 : decode code 382 = .ok (.invokevirtual 47, 3) := by decide +kernel
theorem d_LW_law_385 : decode code 385 = .ok (.aload_n 2, 1) := by decide +kernel
theorem d_LW_law_386 : decode code 386 = .ok (.aload_n 0, 1) := by decide +kernel
theorem d_LW_law_387 : decode code 387 = .ok (.iload_n 3, 1) := by decide +kernel
theorem d_LW_law_388 : decode code 388 = .ok (.iconst 1, 1) := by decide +kernel
theorem d_LW_law_389 : decode code 389 = .ok (.iadd, 1) := by decide +kernel
theorem d_LW_law_390 : decode code 390 = .ok (.iaload, 1) := by decide +kernel
theorem d_LW_law_391 : decode code 391 = .ok (.aload_n 0, 1) := by decide +kernel
theorem d_LW_law_392 : decode code 392 = .ok (.iload_n 3, 1) := by decide +kernel
theorem d_LW_law_393 : decode code 393 = .ok (.iconst 2, 1) := by decide +kernel
theorem d_LW_law_394 : decode code 394 = .ok (.iadd, 1) := by decide +kernel
theorem d_LW_law_395 : decode code 395 = .ok (.iaload, 1) := by decide +kernel
theorem d_LW_law_396 : decode code 396 = .ok (.invokevirtual 50, 3) := by decide +kernel
theorem d_LW_law_399 : decode code 399 = .ok (.if_icmp .eq 690, 3) := by decide +kernel
theorem d_LW_law_402 : decode code 402 = .ok (.iconst 0, 1) := by decide +kernel
theorem d_LW_law_403 : decode code 403 = .ok (.ireturn, 1) := by decide +kernel
theorem d_LW_law_404 : decode code 404 = .ok (.aload_n 1, 1) := by decide +kernel
theorem d_LW_law_405 : decode code 405 = .ok (.aload_n 0, 1) := by decide +kernel
theorem d_LW_law_406 : decode code 406 = .ok (.iload_n 3, 1) := by decide +kernel
theorem d_LW_law_407 : decode code 407 = .ok (.iconst 1, 1) := by decide +kernel
theorem d_LW_law_408 : decode code 408 = .ok (.iadd, 1) := by decide +kernel
theorem d_LW_law_409 : decode code 409 = .ok (.iaload, 1) := by decide +kernel
theorem d_LW_law_410 : decode code 410 = .ok (.aload_n 0, 1) := by decide +kernel
theorem d_LW_law_411 : decode code 411 = .ok (.iload_n 3, 1) := by decide +kernel
theorem d_LW_law_412 : decode code 412 = .ok (.iconst 2, 1) := by decide +kernel
theorem d_LW_law_413 : decode code 413 = .ok (.iadd, 1) := by decide +kernel
theorem d_LW_law_414 : decode code 414 = .ok (.iaload, 1) := by decide +kernel
theorem d_LW_law_415 : decode code 415 = .ok (.invokevirtual 51, 3) := by decide +kernel
theorem d_LW_law_418 : decode code 418 = .ok (.aload_n 2, 1) := by decide +kernel
theorem d_LW_law_419 : decode code 419 = .ok (.aload_n 0, 1) := by decide +kernel
theorem d_LW_law_420 : decode code 420 = .ok (.iload_n 3, 1) := by decide +kernel
theorem d_LW_law_421 : decode code 421 = .ok (.iconst 1, 1) := by decide +kernel
theorem d_LW_law_422 : decode code 422 = .ok (.iadd, 1) := by decide +kernel
theorem d_LW_law_423 : decode code 423 = .ok (.iaload, 1) := by decide +kernel
theorem d_LW_law_424 : decode code 424 = .ok (.aload_n 0, 1) := by decide +kernel
theorem d_LW_law_425 : decode code 425 = .ok (.iload_n 3, 1) := by decide +kernel
theorem d_LW_law_426 : decode code 426 = .ok (.iconst 2, 1) := by decide +kernel
theorem d_LW_law_427 : decode code 427 = .ok (.iadd, 1) := by decide +kernel
theorem d_LW_law_428 : decode code 428 = .ok (.iaload, 1) := by decide +kernel
theorem d_LW_law_429 : decode code 429 = .ok (.invokevirtual 54, 3) := by decide +kernel
theorem d_LW_law_432 : decode code 432 = .ok (.if_icmp .eq 657, 3) := by decide +kernel
theorem d_LW_law_435 : decode code 435 = .ok (.iconst 0, 1) := by decide +kernel
theorem d_LW_law_436 : decode code 436 = .ok (.ireturn, 1) := by decide +kernel
theorem d_LW_law_437 : decode code 437 = .ok (.aload_n 1, 1) := by decide +kernel
theorem d_LW_law_438 : decode code 438 = .ok (.aload_n 0, 1) := by decide +kernel
theorem d_LW_law_439 : decode code 439 = .ok (.iload_n 3, 1) := by decide +kernel
theorem d_LW_law_440 : decode code 440 = .ok (.iconst 1, 1) := by decide +kernel
theorem d_LW_law_441 : decode code 441 = .ok (.iadd, 1) := by decide +kernel
theorem d_LW_law_442 : decode code 442 = .ok (.iaload, 1) := by decide +kernel
theorem d_LW_law_443 : decode code 443 = .ok (.aload_n 0, 1) := by decide +kernel
theorem d_LW_law_444 : decode code 444 = .ok (.iload_n 3, 1) := by decide +kernel
theorem d_LW_law_445 : decode code 445 = .ok (.iconst 2, 1) := by decide +kernel
theorem d_LW_law_446 : decode code 446 = .ok (.iadd, 1) := by decide +kernel
theorem d_LW_law_447 : decode code 447 = .ok (.iaload, 1) := by decide +kernel
theorem d_LW_law_448 : decode code 448 = .ok (.ifCond .eq 7, 3) := by decide +kernel
theorem d_LW_law_451 : decode code 451 = .ok (.iconst 1, 1) := by decide +kernel
theorem d_LW_law_452 : decode code 452 = .ok (.goto 4, 3) := by decide +kernel
theorem d_LW_law_455 : decode code 455 = .ok (.iconst 0, 1) := by decide +kernel
theorem d_LW_law_456 : decode code 456 = .ok (.invokevirtual 55, 3) := by decide +kernel
theorem d_LW_law_459 : decode code 459 = .ok (.aload_n 2, 1) := by decide +kernel
theorem d_LW_law_460 : decode code 460 = .ok (.aload_n 0, 1) := by decide +kernel
theorem d_LW_law_461 : decode code 461 = .ok (.iload_n 3, 1) := by decide +kernel
theorem d_LW_law_462 : decode code 462 = .ok (.iconst 1, 1) := by decide +kernel
theorem d_LW_law_463 : decode code 463 = .ok (.iadd, 1) := by decide +kernel
theorem d_LW_law_464 : decode code 464 = .ok (.iaload, 1) := by decide +kernel
theorem d_LW_law_465 : decode code 465 = .ok (.aload_n 0, 1) := by decide +kernel
theorem d_LW_law_466 : decode code 466 = .ok (.iload_n 3, 1) := by decide +kernel
theorem d_LW_law_467 : decode code 467 = .ok (.iconst 2, 1) := by decide +kernel
theorem d_LW_law_468 : decode code 468 = .ok (.iadd, 1) := by decide +kernel
theorem d_LW_law_469 : decode code 469 = .ok (.iaload, 1) := by decide +kernel
theorem d_LW_law_470 : decode code 470 = .ok (.ifCond .eq 7, 3) := by decide +kernel
theorem d_LW_law_473 : decode code 473 = .ok (.iconst 1, 1) := by decide +kernel
theorem d_LW_law_474 : decode code 474 = .ok (.goto 4, 3) := by decide +kernel
theorem d_LW_law_477 : decode code 477 = .ok (.iconst 0, 1) := by decide +kernel
theorem d_LW_law_478 : decode code 478 = .ok (.invokevirtual 59, 3) := by decide +kernel
theorem d_LW_law_481 : decode code 481 = .ok (.if_icmp .eq 608, 3) := by decide +kernel
theorem d_LW_law_484 : decode code 484 = .ok (.iconst 0, 1) := by decide +kernel
theorem d_LW_law_485 : decode code 485 = .ok (.ireturn, 1) := by decide +kernel
theorem d_LW_law_486 : decode code 486 = .ok (.aload_n 1, 1) := by decide +kernel
theorem d_LW_law_487 : decode code 487 = .ok (.aload_n 0, 1) := by decide +kernel
theorem d_LW_law_488 : decode code 488 = .ok (.iload_n 3, 1) := by decide +kernel
theorem d_LW_law_489 : decode code 489 = .ok (.iconst 1, 1) := by decide +kernel
theorem d_LW_law_490 : decode code 490 = .ok (.iadd, 1) := by decide +kernel
theorem d_LW_law_491 : decode code 491 = .ok (.iaload, 1) := by decide +kernel
theorem d_LW_law_492 : decode code 492 = .ok (.invokevirtual 60, 3) := by decide +kernel
theorem d_LW_law_495 : decode code 495 = .ok (.aload_n 2, 1) := by decide +kernel
theorem d_LW_law_496 : decode code 496 = .ok (.aload_n 0, 1) := by decide +kernel
theorem d_LW_law_497 : decode code 497 = .ok (.iload_n 3, 1) := by decide +kernel
theorem d_LW_law_498 : decode code 498 = .ok (.iconst 1, 1) := by decide +kernel
theorem d_LW_law_499 : decode code 499 = .ok (.iadd, 1) := by decide +kernel
theorem d_LW_law_500 : decode code 500 = .ok (.iaload, 1) := by decide +kernel
theorem d_LW_law_501 : decode code 501 = .ok (.invokevirtual 63, 3) := by decide +kernel
theorem d_LW_law_504 : decode code 504 = .ok (.if_icmp .eq 585, 3) := by decide +kernel
theorem d_LW_law_507 : decode code 507 = .ok (.iconst 0, 1) := by decide +kernel
theorem d_LW_law_508 : decode code 508 = .ok (.ireturn, 1) := by decide +kernel
theorem d_LW_law_509 : decode code 509 = .ok (.aload_n 1, 1) := by decide +kernel
theorem d_LW_law_510 : decode code 510 = .ok (.aload_n 0, 1) := by decide +kernel
theorem d_LW_law_511 : decode code 511 = .ok (.iload_n 3, 1) := by decide +kernel
theorem d_LW_law_512 : decode code 512 = .ok (.iconst 1, 1) := by decide +kernel
theorem d_LW_law_513 : decode code 513 = .ok (.iadd, 1) := by decide +kernel
theorem d_LW_law_514 : decode code 514 = .ok (.iaload, 1) := by decide +kernel
theorem d_LW_law_515 : decode code 515 = .ok (.invokevirtual 64, 3) := by decide +kernel
theorem d_LW_law_518 : decode code 518 = .ok (.aload_n 2, 1) := by decide +kernel
theorem d_LW_law_519 : decode code 519 = .ok (.aload_n 0, 1) := by decide +kernel
theorem d_LW_law_520 : decode code 520 = .ok (.iload_n 3, 1) := by decide +kernel
theorem d_LW_law_521 : decode code 521 = .ok (.iconst 1, 1) := by decide +kernel
theorem d_LW_law_522 : decode code 522 = .ok (.iadd, 1) := by decide +kernel
theorem d_LW_law_523 : decode code 523 = .ok (.iaload, 1) := by decide +kernel
theorem d_LW_law_524 : decode code 524 = .ok (.invokevirtual 67, 3) := by decide +kernel
theorem d_LW_law_527 : decode code 527 = .ok (.if_icmp .eq 562, 3) := by decide +kernel
theorem d_LW_law_530 : decode code 530 = .ok (.iconst 0, 1) := by decide +kernel
theorem d_LW_law_531 : decode code 531 = .ok (.ireturn, 1) := by decide +kernel
theorem d_LW_law_532 : decode code 532 = .ok (.aload_n 1, 1) := by decide +kernel
theorem d_LW_law_533 : decode code 533 = .ok (.aload_n 0, 1) := by decide +kernel
theorem d_LW_law_534 : decode code 534 = .ok (.iload_n 3, 1) := by decide +kernel
theorem d_LW_law_535 : decode code 535 = .ok (.iconst 1, 1) := by decide +kernel
theorem d_LW_law_536 : decode code 536 = .ok (.iadd, 1) := by decide +kernel
theorem d_LW_law_537 : decode code 537 = .ok (.iaload, 1) := by decide +kernel
theorem d_LW_law_538 : decode code 538 = .ok (.invokevirtual 68, 3) := by decide +kernel
theorem d_LW_law_541 : decode code 541 = .ok (.aload_n 2, 1) := by decide +kernel
theorem d_LW_law_542 : decode code 542 = .ok (.aload_n 0, 1) := by decide +kernel
theorem d_LW_law_543 : decode code 543 = .ok (.iload_n 3, 1) := by decide +kernel
theorem d_LW_law_544 : decode code 544 = .ok (.iconst 1, 1) := by decide +kernel
theorem d_LW_law_545 : decode code 545 = .ok (.iadd, 1) := by decide +kernel
theorem d_LW_law_546 : decode code 546 = .ok (.iaload, 1) := by decide +kernel
theorem d_LW_law_547 : decode code 547 = .ok (.invokevirtual 71, 3) := by decide +kernel
theorem d_LW_law_550 : decode code 550 = .ok (.if_icmp .eq 539, 3) := by decide +kernel
theorem d_LW_law_553 : decode code 553 = .ok (.iconst 0, 1) := by decide +kernel
theorem d_LW_law_554 : decode code 554 = .ok (.ireturn, 1) := by decide +kernel
theorem d_LW_law_555 : decode code 555 = .ok (.aload_n 1, 1) := by decide +kernel
theorem d_LW_law_556 : decode code 556 = .ok (.aload_n 0, 1) := by decide +kernel
theorem d_LW_law_557 : decode code 557 = .ok (.iload_n 3, 1) := by decide +kernel
theorem d_LW_law_558 : decode code 558 = .ok (.iconst 1, 1) := by decide +kernel
theorem d_LW_law_559 : decode code 559 = .ok (.iadd, 1) := by decide +kernel
theorem d_LW_law_560 : decode code 560 = .ok (.iaload, 1) := by decide +kernel
theorem d_LW_law_561 : decode code 561 = .ok (.aload_n 0, 1) := by decide +kernel
theorem d_LW_law_562 : decode code 562 = .ok (.iload_n 3, 1) := by decide +kernel
theorem d_LW_law_563 : decode code 563 = .ok (.iconst 2, 1) := by decide +kernel
theorem d_LW_law_564 : decode code 564 = .ok (.iadd, 1) := by decide +kernel
theorem d_LW_law_565 : decode code 565 = .ok (.iaload, 1) := by decide +kernel
theorem d_LW_law_566 : decode code 566 = .ok (.invokevirtual 72, 3) := by decide +kernel
theorem d_LW_law_569 : decode code 569 = .ok (.aload_n 2, 1) := by decide +kernel
theorem d_LW_law_570 : decode code 570 = .ok (.aload_n 0, 1) := by decide +kernel
theorem d_LW_law_571 : decode code 571 = .ok (.iload_n 3, 1) := by decide +kernel
theorem d_LW_law_572 : decode code 572 = .ok (.iconst 1, 1) := by decide +kernel
theorem d_LW_law_573 : decode code 573 = .ok (.iadd, 1) := by decide +kernel
theorem d_LW_law_574 : decode code 574 = .ok (.iaload, 1) := by decide +kernel
theorem d_LW_law_575 : decode code 575 = .ok (.aload_n 0, 1) := by decide +kernel
theorem d_LW_law_576 : decode code 576 = .ok (.iload_n 3, 1) := by decide +kernel
theorem d_LW_law_577 : decode code 577 = .ok (.iconst 2, 1) := by decide +kernel
theorem d_LW_law_578 : decode code 578 = .ok (.iadd, 1) := by decide +kernel
theorem d_LW_law_579 : decode code 579 = .ok (.iaload, 1) := by decide +kernel
theorem d_LW_law_580 : decode code 580 = .ok (.invokevirtual 75, 3) := by decide +kernel
theorem d_LW_law_583 : decode code 583 = .ok (.if_icmp .eq 506, 3) := by decide +kernel
theorem d_LW_law_586 : decode code 586 = .ok (.iconst 0, 1) := by decide +kernel
theorem d_LW_law_587 : decode code 587 = .ok (.ireturn, 1) := by decide +kernel
theorem d_LW_law_588 : decode code 588 = .ok (.aload_n 1, 1) := by decide +kernel
theorem d_LW_law_589 : decode code 589 = .ok (.aload_n 0, 1) := by decide +kernel
theorem d_LW_law_590 : decode code 590 = .ok (.iload_n 3, 1) := by decide +kernel
theorem d_LW_law_591 : decode code 591 = .ok (.iconst 1, 1) := by decide +kernel
theorem d_LW_law_592 : decode code 592 = .ok (.iadd, 1) := by decide +kernel
theorem d_LW_law_593 : decode code 593 = .ok (.iaload, 1) := by decide +kernel
theorem d_LW_law_594 : decode code 594 = .ok (.aload_n 0, 1) := by decide +kernel
theorem d_LW_law_595 : decode code 595 = .ok (.iload_n 3, 1) := by decide +kernel
theorem d_LW_law_596 : decode code 596 = .ok (.iconst 2, 1) := by decide +kernel
theorem d_LW_law_597 : decode code 597 = .ok (.iadd, 1) := by decide +kernel
theorem d_LW_law_598 : decode code 598 = .ok (.iaload, 1) := by decide +kernel
theorem d_LW_law_599 : decode code 599 = .ok (.invokevirtual 76, 3) := by decide +kernel
theorem d_LW_law_602 : decode code 602 = .ok (.aload_n 2, 1) := by decide +kernel
theorem d_LW_law_603 : decode code 603 = .ok (.aload_n 0, 1) := by decide +kernel
theorem d_LW_law_604 : decode code 604 = .ok (.iload_n 3, 1) := by decide +kernel
theorem d_LW_law_605 : decode code 605 = .ok (.iconst 1, 1) := by decide +kernel
theorem d_LW_law_606 : decode code 606 = .ok (.iadd, 1) := by decide +kernel
theorem d_LW_law_607 : decode code 607 = .ok (.iaload, 1) := by decide +kernel
theorem d_LW_law_608 : decode code 608 = .ok (.aload_n 0, 1) := by decide +kernel
theorem d_LW_law_609 : decode code 609 = .ok (.iload_n 3, 1) := by decide +kernel
theorem d_LW_law_610 : decode code 610 = .ok (.iconst 2, 1) := by decide +kernel
theorem d_LW_law_611 : decode code 611 = .ok (.iadd, 1) := by decide +kernel
theorem d_LW_law_612 : decode code 612 = .ok (.iaload, 1) := by decide +kernel
theorem d_LW_law_613 : decode code 613 = .ok (.invokevirtual 79, 3) := by decide +kernel
theorem d_LW_law_616 : decode code 616 = .ok (.if_icmp .eq 473, 3) := by decide +kernel
theorem d_LW_law_619 : decode code 619 = .ok (.iconst 0, 1) := by decide +kernel
theorem d_LW_law_620 : decode code 620 = .ok (.ireturn, 1) := by decide +kernel
theorem d_LW_law_621 : decode code 621 = .ok (.aload_n 1, 1) := by decide +kernel
theorem d_LW_law_622 : decode code 622 = .ok (.aload_n 0, 1) := by decide +kernel
theorem d_LW_law_623 : decode code 623 = .ok (.iload_n 3, 1) := by decide +kernel
theorem d_LW_law_624 : decode code 624 = .ok (.iconst 1, 1) := by decide +kernel
theorem d_LW_law_625 : decode code 625 = .ok (.iadd, 1) := by decide +kernel
theorem d_LW_law_626 : decode code 626 = .ok (.iaload, 1) := by decide +kernel
theorem d_LW_law_627 : decode code 627 = .ok (.aload_n 0, 1) := by decide +kernel
theorem d_LW_law_628 : decode code 628 = .ok (.iload_n 3, 1) := by decide +kernel
theorem d_LW_law_629 : decode code 629 = .ok (.iconst 2, 1) := by decide +kernel
theorem d_LW_law_630 : decode code 630 = .ok (.iadd, 1) := by decide +kernel
theorem d_LW_law_631 : decode code 631 = .ok (.iaload, 1) := by decide +kernel
theorem d_LW_law_632 : decode code 632 = .ok (.invokevirtual 80, 3) := by decide +kernel
theorem d_LW_law_635 : decode code 635 = .ok (.aload_n 2, 1) := by decide +kernel
theorem d_LW_law_636 : decode code 636 = .ok (.aload_n 0, 1) := by decide +kernel
theorem d_LW_law_637 : decode code 637 = .ok (.iload_n 3, 1) := by decide +kernel
theorem d_LW_law_638 : decode code 638 = .ok (.iconst 1, 1) := by decide +kernel
theorem d_LW_law_639 : decode code 639 = .ok (.iadd, 1) := by decide +kernel
theorem d_LW_law_640 : decode code 640 = .ok (.iaload, 1) := by decide +kernel
theorem d_LW_law_641 : decode code 641 = .ok (.aload_n 0, 1) := by decide +kernel
theorem d_LW_law_642 : decode code 642 = .ok (.iload_n 3, 1) := by decide +kernel
theorem d_LW_law_643 : decode code 643 = .ok (.iconst 2, 1) := by decide +kernel
theorem d_LW_law_644 : decode code 644 = .ok (.iadd, 1) := by decide +kernel
theorem d_LW_law_645 : decode code 645 = .ok (.iaload, 1) := by decide +kernel
theorem d_LW_law_646 : decode code 646 = .ok (.invokevirtual 83, 3) := by decide +kernel
theorem d_LW_law_649 : decode code 649 = .ok (.if_icmp .eq 440, 3) := by decide +kernel
theorem d_LW_law_652 : decode code 652 = .ok (.iconst 0, 1) := by decide +kernel
theorem d_LW_law_653 : decode code 653 = .ok (.ireturn, 1) := by decide +kernel
theorem d_LW_law_654 : decode code 654 = .ok (.aload_n 1, 1) := by decide +kernel
theorem d_LW_law_655 : decode code 655 = .ok (.aload_n 0, 1) := by decide +kernel
theorem d_LW_law_656 : decode code 656 = .ok (.iload_n 3, 1) := by decide +kernel
theorem d_LW_law_657 : decode code 657 = .ok (.iconst 1, 1) := by decide +kernel
theorem d_LW_law_658 : decode code 658 = .ok (.iadd, 1) := by decide +kernel
theorem d_LW_law_659 : decode code 659 = .ok (.iaload, 1) := by decide +kernel
theorem d_LW_law_660 : decode code 660 = .ok (.aload_n 0, 1) := by decide +kernel
theorem d_LW_law_661 : decode code 661 = .ok (.iload_n 3, 1) := by decide +kernel
theorem d_LW_law_662 : decode code 662 = .ok (.iconst 2, 1) := by decide +kernel
theorem d_LW_law_663 : decode code 663 = .ok (.iadd, 1) := by decide +kernel
theorem d_LW_law_664 : decode code 664 = .ok (.iaload, 1) := by decide +kernel
theorem d_LW_law_665 : decode code 665 = .ok (.invokevirtual 84, 3) := by decide +kernel
theorem d_LW_law_668 : decode code 668 = .ok (.aload_n 2, 1) := by decide +kernel
theorem d_LW_law_669 : decode code 669 = .ok (.aload_n 0, 1) := by decide +kernel
theorem d_LW_law_670 : decode code 670 = .ok (.iload_n 3, 1) := by decide +kernel
theorem d_LW_law_671 : decode code 671 = .ok (.iconst 1, 1) := by decide +kernel
theorem d_LW_law_672 : decode code 672 = .ok (.iadd, 1) := by decide +kernel
theorem d_LW_law_673 : decode code 673 = .ok (.iaload, 1) := by decide +kernel
theorem d_LW_law_674 : decode code 674 = .ok (.aload_n 0, 1) := by decide +kernel
theorem d_LW_law_675 : decode code 675 = .ok (.iload_n 3, 1) := by decide +kernel
theorem d_LW_law_676 : decode code 676 = .ok (.iconst 2, 1) := by decide +kernel
theorem d_LW_law_677 : decode code 677 = .ok (.iadd, 1) := by decide +kernel
theorem d_LW_law_678 : decode code 678 = .ok (.iaload, 1) := by decide +kernel
theorem d_LW_law_679 : decode code 679 = .ok (.invokevirtual 87, 3) := by decide +kernel
theorem d_LW_law_682 : decode code 682 = .ok (.if_icmp .eq 407, 3) := by decide +kernel
theorem d_LW_law_685 : decode code 685 = .ok (.iconst 0, 1) := by decide +kernel
theorem d_LW_law_686 : decode code 686 = .ok (.ireturn, 1) := by decide +kernel
theorem d_LW_law_687 : decode code 687 = .ok (.aload_n 1, 1) := by decide +kernel
theorem d_LW_law_688 : decode code 688 = .ok (.invokevirtual 88, 3) := by decide +kernel
theorem d_LW_law_691 : decode code 691 = .ok (.aload_n 2, 1) := by decide +kernel
theorem d_LW_law_692 : decode code 692 = .ok (.invokevirtual 91, 3) := by decide +kernel
theorem d_LW_law_695 : decode code 695 = .ok (.if_icmp .eq 394, 3) := by decide +kernel
theorem d_LW_law_698 : decode code 698 = .ok (.iconst 0, 1) := by decide +kernel
theorem d_LW_law_699 : decode code 699 = .ok (.ireturn, 1) := by decide +kernel
theorem d_LW_law_700 : decode code 700 = .ok (.aload_n 1, 1) := by decide +kernel
theorem d_LW_law_701 : decode code 701 = .ok (.invokevirtual 92, 3) := by decide +kernel
theorem d_LW_law_704 : decode code 704 = .ok (.aload_n 2, 1) := by decide +kernel
theorem d_LW_law_705 : decode code 705 = .ok (.invokevirtual 95, 3) := by decide +kernel
theorem d_LW_law_708 : decode code 708 = .ok (.if_icmp .eq 381, 3) := by decide +kernel
theorem d_LW_law_711 : decode code 711 = .ok (.iconst 0, 1) := by decide +kernel
theorem d_LW_law_712 : decode code 712 = .ok (.ireturn, 1) := by decide +kernel
theorem d_LW_law_713 : decode code 713 = .ok (.aload_n 1, 1) := by decide +kernel
theorem d_LW_law_714 : decode code 714 = .ok (.invokevirtual 96, 3) := by decide +kernel
theorem d_LW_law_717 : decode code 717 = .ok (.aload_n 2, 1) := by decide +kernel
theorem d_LW_law_718 : decode code 718 = .ok (.invokevirtual 99, 3) := by decide +kernel
theorem d_LW_law_721 : decode code 721 = .ok (.if_icmp .eq 368, 3) := by decide +kernel
theorem d_LW_law_724 : decode code 724 = .ok (.iconst 0, 1) := by decide +kernel
theorem d_LW_law_725 : decode code 725 = .ok (.ireturn, 1) := by decide +kernel
theorem d_LW_law_726 : decode code 726 = .ok (.aload_n 1, 1) := by decide +kernel
theorem d_LW_law_727 : decode code 727 = .ok (.invokevirtual 100, 3) := by decide +kernel
theorem d_LW_law_730 : decode code 730 = .ok (.aload_n 2, 1) := by decide +kernel
theorem d_LW_law_731 : decode code 731 = .ok (.invokevirtual 103, 3) := by decide +kernel
theorem d_LW_law_734 : decode code 734 = .ok (.if_icmp .eq 355, 3) := by decide +kernel
theorem d_LW_law_737 : decode code 737 = .ok (.iconst 0, 1) := by decide +kernel
theorem d_LW_law_738 : decode code 738 = .ok (.ireturn, 1) := by decide +kernel
theorem d_LW_law_739 : decode code 739 = .ok (.aload_n 1, 1) := by decide +kernel
theorem d_LW_law_740 : decode code 740 = .ok (.aload_n 0, 1) := by decide +kernel
theorem d_LW_law_741 : decode code 741 = .ok (.iload_n 3, 1) := by decide +kernel
theorem d_LW_law_742 : decode code 742 = .ok (.iconst 1, 1) := by decide +kernel
theorem d_LW_law_743 : decode code 743 = .ok (.iadd, 1) := by decide +kernel
theorem d_LW_law_744 : decode code 744 = .ok (.iaload, 1) := by decide +kernel
theorem d_LW_law_745 : decode code 745 = .ok (.invokevirtual 104, 3) := by decide +kernel
theorem d_LW_law_748 : decode code 748 = .ok (.aload_n 2, 1) := by decide +kernel
theorem d_LW_law_749 : decode code 749 = .ok (.aload_n 0, 1) := by decide +kernel
theorem d_LW_law_750 : decode code 750 = .ok (.iload_n 3, 1) := by decide +kernel
theorem d_LW_law_751 : decode code 751 = .ok (.iconst 1, 1) := by decide +kernel
theorem d_LW_law_752 : decode code 752 = .ok (.iadd, 1) := by decide +kernel
theorem d_LW_law_753 : decode code 753 = .ok (.iaload, 1) := by decide +kernel
theorem d_LW_law_754 : decode code 754 = .ok (.invokevirtual 107, 3) := by decide +kernel
theorem d_LW_law_757 : decode code 757 = .ok (.if_icmp .eq 332, 3) := by decide +kernel
theorem d_LW_law_760 : decode code 760 = .ok (.iconst 0, 1) := by decide +kernel
theorem d_LW_law_761 : decode code 761 = .ok (.ireturn, 1) := by decide +kernel
theorem d_LW_law_762 : decode code 762 = .ok (.aload_n 1, 1) := by decide +kernel
theorem d_LW_law_763 : decode code 763 = .ok (.aload_n 0, 1) := by decide +kernel
theorem d_LW_law_764 : decode code 764 = .ok (.iload_n 3, 1) := by decide +kernel
theorem d_LW_law_765 : decode code 765 = .ok (.iconst 1, 1) := by decide +kernel
theorem d_LW_law_766 : decode code 766 = .ok (.iadd, 1) := by decide +kernel
theorem d_LW_law_767 : decode code 767 = .ok (.iaload, 1) := by decide +kernel
theorem d_LW_law_768 : decode code 768 = .ok (.aload_n 0, 1) := by decide +kernel
theorem d_LW_law_769 : decode code 769 = .ok (.iload_n 3, 1) := by decide +kernel
theorem d_LW_law_770 : decode code 770 = .ok (.iconst 2, 1) := by decide +kernel
theorem d_LW_law_771 : decode code 771 = .ok (.iadd, 1) := by decide +kernel
theorem d_LW_law_772 : decode code 772 = .ok (.iaload, 1) := by decide +kernel
theorem d_LW_law_773 : decode code 773 = .ok (.invokevirtual 108, 3) := by decide +kernel
theorem d_LW_law_776 : decode code 776 = .ok (.aload_n 2, 1) := by decide +kernel
theorem d_LW_law_777 : decode code 777 = .ok (.aload_n 0, 1) := by decide +kernel
theorem d_LW_law_778 : decode code 778 = .ok (.iload_n 3, 1) := by decide +kernel
theorem d_LW_law_779 : decode code 779 = .ok (.iconst 1, 1) := by decide +kernel
theorem d_LW_law_780 : decode code 780 = .ok (.iadd, 1) := by decide +kernel
theorem d_LW_law_781 : decode code 781 = .ok (.iaload, 1) := by decide +kernel
theorem d_LW_law_782 : decode code 782 = .ok (.aload_n 0, 1) := by decide +kernel
theorem d_LW_law_783 : decode code 783 = .ok (.iload_n 3, 1) := by decide +kernel
theorem d_LW_law_784 : decode code 784 = .ok (.iconst 2, 1) := by decide +kernel
theorem d_LW_law_785 : decode code 785 = .ok (.iadd, 1) := by decide +kernel
theorem d_LW_law_786 : decode code 786 = .ok (.iaload, 1) := by decide +kernel
theorem d_LW_law_787 : decode code 787 = .ok (.invokevirtual 111, 3) := by decide +kernel
theorem d_LW_law_790 : decode code 790 = .ok (.if_icmp .eq 299, 3) := by decide +kernel
theorem d_LW_law_793 : decode code 793 = .ok (.iconst 0, 1) := by decide +kernel
theorem d_LW_law_794 : decode code 794 = .ok (.ireturn, 1) := by decide +kernel
theorem d_LW_law_795 : decode code 795 = .ok (.aload_n 1, 1) := by decide +kernel
theorem d_LW_law_796 : decode code 796 = .ok (.invokevirtual 112, 3) := by decide +kernel
theorem d_LW_law_799 : decode code 799 = .ok (.aload_n 2, 1) := by decide +kernel
theorem d_LW_law_800 : decode code 800 = .ok (.invokevirtual 115, 3) := by decide +kernel
theorem d_LW_law_803 : decode code 803 = .ok (.if_icmp .eq 286, 3) := by decide +kernel
theorem d_LW_law_806 : decode code 806 = .ok (.iconst 0, 1) := by decide +kernel
theorem d_LW_law_807 : decode code 807 = .ok (.ireturn, 1) := by decide +kernel
theorem d_LW_law_808 : decode code 808 = .ok (.aload_n 1, 1) := by decide +kernel
theorem d_LW_law_809 : decode code 809 = .ok (.aload_n 0, 1) := by decide +kernel
theorem d_LW_law_810 : decode code 810 = .ok (.iload_n 3, 1) := by decide +kernel
theorem d_LW_law_811 : decode code 811 = .ok (.iconst 1, 1) := by decide +kernel
theorem d_LW_law_812 : decode code 812 = .ok (.iadd, 1) := by decide +kernel
theorem d_LW_law_813 : decode code 813 = .ok (.iaload, 1) := by decide +kernel
theorem d_LW_law_814 : decode code 814 = .ok (.invokevirtual 116, 3) := by decide +kernel
theorem d_LW_law_817 : decode code 817 = .ok (.aload_n 2, 1) := by decide +kernel
theorem d_LW_law_818 : decode code 818 = .ok (.aload_n 0, 1) := by decide +kernel
theorem d_LW_law_819 : decode code 819 = .ok (.iload_n 3, 1) := by decide +kernel
theorem d_LW_law_820 : decode code 820 = .ok (.iconst 1, 1) := by decide +kernel
theorem d_LW_law_821 : decode code 821 = .ok (.iadd, 1) := by decide +kernel
theorem d_LW_law_822 : decode code 822 = .ok (.iaload, 1) := by decide +kernel
theorem d_LW_law_823 : decode code 823 = .ok (.invokevirtual 119, 3) := by decide +kernel
theorem d_LW_law_826 : decode code 826 = .ok (.if_icmp .eq 263, 3) := by decide +kernel
theorem d_LW_law_829 : decode code 829 = .ok (.iconst 0, 1) := by decide +kernel
theorem d_LW_law_830 : decode code 830 = .ok (.ireturn, 1) := by decide +kernel
theorem d_LW_law_831 : decode code 831 = .ok (.aload_n 1, 1) := by decide +kernel
theorem d_LW_law_832 : decode code 832 = .ok (.invokevirtual 120, 3) := by decide +kernel
theorem d_LW_law_835 : decode code 835 = .ok (.aload_n 2, 1) := by decide +kernel
theorem d_LW_law_836 : decode code 836 = .ok (.invokevirtual 123, 3) := by decide +kernel
theorem d_LW_law_839 : decode code 839 = .ok (.if_icmp .eq 250, 3) := by decide +kernel
theorem d_LW_law_842 : decode code 842 = .ok (.iconst 0, 1) := by decide +kernel
theorem d_LW_law_843 : decode code 843 = .ok (.ireturn, 1) := by decide +kernel
theorem d_LW_law_844 : decode code 844 = .ok (.aload_n 1, 1) := by decide +kernel
theorem d_LW_law_845 : decode code 845 = .ok (.aload_n 0, 1) := by decide +kernel
theorem d_LW_law_846 : decode code 846 = .ok (.iload_n 3, 1) := by decide +kernel
theorem d_LW_law_847 : decode code 847 = .ok (.iconst 1, 1) := by decide +kernel
theorem d_LW_law_848 : decode code 848 = .ok (.iadd, 1) := by decide +kernel
theorem d_LW_law_849 : decode code 849 = .ok (.iaload, 1) := by decide +kernel
theorem d_LW_law_850 : decode code 850 = .ok (.invokevirtual 124, 3) := by decide +kernel
theorem d_LW_law_853 : decode code 853 = .ok (.aload_n 2, 1) := by decide +kernel
theorem d_LW_law_854 : decode code 854 = .ok (.aload_n 0, 1) := by decide +kernel
theorem d_LW_law_855 : decode code 855 = .ok (.iload_n 3, 1) := by decide +kernel
theorem d_LW_law_856 : decode code 856 = .ok (.iconst 1, 1) := by decide +kernel
theorem d_LW_law_857 : decode code 857 = .ok (.iadd, 1) := by decide +kernel
theorem d_LW_law_858 : decode code 858 = .ok (.iaload, 1) := by decide +kernel
theorem d_LW_law_859 : decode code 859 = .ok (.invokevirtual 127, 3) := by decide +kernel
theorem d_LW_law_862 : decode code 862 = .ok (.if_icmp .eq 227, 3) := by decide +kernel
theorem d_LW_law_865 : decode code 865 = .ok (.iconst 0, 1) := by decide +kernel
theorem d_LW_law_866 : decode code 866 = .ok (.ireturn, 1) := by decide +kernel
theorem d_LW_law_867 : decode code 867 = .ok (.aload_n 1, 1) := by decide +kernel
theorem d_LW_law_868 : decode code 868 = .ok (.invokevirtual 128, 3) := by decide +kernel
theorem d_LW_law_871 : decode code 871 = .ok (.aload_n 2, 1) := by decide +kernel
theorem d_LW_law_872 : decode code 872 = .ok (.invokevirtual 131, 3) := by decide +kernel
theorem d_LW_law_875 : decode code 875 = .ok (.if_icmp .eq 214, 3) := by decide +kernel
theorem d_LW_law_878 : decode code 878 = .ok (.iconst 0, 1) := by decide +kernel
theorem d_LW_law_879 : decode code 879 = .ok (.ireturn, 1) := by decide +kernel
theorem d_LW_law_880 : decode code 880 = .ok (.aload_n 1, 1) := by decide +kernel
theorem d_LW_law_881 : decode code 881 = .ok (.aload_n 0, 1) := by decide +kernel
theorem d_LW_law_882 : decode code 882 = .ok (.iload_n 3, 1) := by decide +kernel
theorem d_LW_law_883 : decode code 883 = .ok (.iconst 1, 1) := by decide +kernel
theorem d_LW_law_884 : decode code 884 = .ok (.iadd, 1) := by decide +kernel
theorem d_LW_law_885 : decode code 885 = .ok (.iaload, 1) := by decide +kernel
theorem d_LW_law_886 : decode code 886 = .ok (.aload_n 0, 1) := by decide +kernel
theorem d_LW_law_887 : decode code 887 = .ok (.iload_n 3, 1) := by decide +kernel
theorem d_LW_law_888 : decode code 888 = .ok (.iconst 2, 1) := by decide +kernel
theorem d_LW_law_889 : decode code 889 = .ok (.iadd, 1) := by decide +kernel
theorem d_LW_law_890 : decode code 890 = .ok (.iaload, 1) := by decide +kernel
theorem d_LW_law_891 : decode code 891 = .ok (.aload_n 0, 1) := by decide +kernel
theorem d_LW_law_892 : decode code 892 = .ok (.iload_n 3, 1) := by decide +kernel
theorem d_LW_law_893 : decode code 893 = .ok (.iconst 3, 1) := by decide +kernel
theorem d_LW_law_894 : decode code 894 = .ok (.iadd, 1) := by decide +kernel
theorem d_LW_law_895 : decode code 895 = .ok (.iaload, 1) := by decide +kernel
theorem d_LW_law_896 : decode code 896 = .ok (.aload_n 0, 1) := by decide +kernel
theorem d_LW_law_897 : decode code 897 = .ok (.iload_n 3, 1) := by decide +kernel
theorem d_LW_law_898 : decode code 898 = .ok (.iconst 4, 1) := by decide +kernel
theorem d_LW_law_899 : decode code 899 = .ok (.iadd, 1) := by decide +kernel
theorem d_LW_law_900 : decode code 900 = .ok (.iaload, 1) := by decide +kernel
theorem d_LW_law_901 : decode code 901 = .ok (.ifCond .eq 7, 3) := by decide +kernel
theorem d_LW_law_904 : decode code 904 = .ok (.iconst 1, 1) := by decide +kernel
theorem d_LW_law_905 : decode code 905 = .ok (.goto 4, 3) := by decide +kernel
theorem d_LW_law_908 : decode code 908 = .ok (.iconst 0, 1) := by decide +kernel
theorem d_LW_law_909 : decode code 909 = .ok (.invokevirtual 132, 3) := by decide +kernel
theorem d_LW_law_912 : decode code 912 = .ok (.aload_n 2, 1) := by decide +kernel
theorem d_LW_law_913 : decode code 913 = .ok (.aload_n 0, 1) := by decide +kernel
theorem d_LW_law_914 : decode code 914 = .ok (.iload_n 3, 1) := by decide +kernel
theorem d_LW_law_915 : decode code 915 = .ok (.iconst 1, 1) := by decide +kernel
theorem d_LW_law_916 : decode code 916 = .ok (.iadd, 1) := by decide +kernel
theorem d_LW_law_917 : decode code 917 = .ok (.iaload, 1) := by decide +kernel
theorem d_LW_law_918 : decode code 918 = .ok (.aload_n 0, 1) := by decide +kernel
theorem d_LW_law_919 : decode code 919 = .ok (.iload_n 3, 1) := by decide +kernel
theorem d_LW_law_920 : decode code 920 = .ok (.iconst 2, 1) := by decide +kernel
theorem d_LW_law_921 : decode code 921 = .ok (.iadd, 1) := by decide +kernel
theorem d_LW_law_922 : decode code 922 = .ok (.iaload, 1) := by decide +kernel
theorem d_LW_law_923 : decode code 923 = .ok (.aload_n 0, 1) := by decide +kernel
theorem d_LW_law_924 : decode code 924 = .ok (.iload_n 3, 1) := by decide +kernel
theorem d_LW_law_925 : decode code 925 = .ok (.iconst 3, 1) := by decide +kernel
theorem d_LW_law_926 : decode code 926 = .ok (.iadd, 1) := by decide +kernel
theorem d_LW_law_927 : decode code 927 = .ok (.iaload, 1) := by decide +kernel
theorem d_LW_law_928 : decode code 928 = .ok (.aload_n 0, 1) := by decide +kernel
theorem d_LW_law_929 : decode code 929 = .ok (.iload_n 3, 1) := by decide +kernel
theorem d_LW_law_930 : decode code 930 = .ok (.iconst 4, 1) := by decide +kernel
theorem d_LW_law_931 : decode code 931 = .ok (.iadd, 1) := by decide +kernel
theorem d_LW_law_932 : decode code 932 = .ok (.iaload, 1) := by decide +kernel
theorem d_LW_law_933 : decode code 933 = .ok (.ifCond .eq 7, 3) := by decide +kernel
theorem d_LW_law_936 : decode code 936 = .ok (.iconst 1, 1) := by decide +kernel
theorem d_LW_law_937 : decode code 937 = .ok (.goto 4, 3) := by decide +kernel
theorem d_LW_law_940 : decode code 940 = .ok (.iconst 0, 1) := by decide +kernel
theorem d_LW_law_941 : decode code 941 = .ok (.invokevirtual 136, 3) := by decide +kernel
theorem d_LW_law_944 : decode code 944 = .ok (.lcmp, 1) := by decide +kernel
theorem d_LW_law_945 : decode code 945 = .ok (.ifCond .eq 144, 3) := by decide +kernel
theorem d_LW_law_948 : decode code 948 = .ok (.iconst 0, 1) := by decide +kernel
theorem d_LW_law_949 : decode code 949 = .ok (.ireturn, 1) := by decide +kernel
theorem d_LW_law_950 : decode code 950 = .ok (.aload_n 1, 1) := by decide +kernel
theorem d_LW_law_951 : decode code 951 = .ok (.aload_n 0, 1) := by decide +kernel
theorem d_LW_law_952 : decode code 952 = .ok (.iload_n 3, 1) := by decide +kernel
theorem d_LW_law_953 : decode code 953 = .ok (.iconst 1, 1) := by decide +kernel
theorem d_LW_law_954 : decode code 954 = .ok (.iadd, 1) := by decide +kernel
theorem d_LW_law_955 : decode code 955 = .ok (.iaload, 1) := by decide +kernel
theorem d_LW_law_956 : decode code 956 = .ok (.aload_n 0, 1) := by decide +kernel
theorem d_LW_law_957 : decode code 957 = .ok (.iload_n 3, 1) := by decide +kernel
theorem d_LW_law_958 : decode code 958 = .ok (.iconst 2, 1) := by decide +kernel
theorem d_LW_law_959 : decode code 959 = .ok (.iadd, 1) := by decide +kernel
theorem d_LW_law_960 : decode code 960 = .ok (.iaload, 1) := by decide +kernel
theorem d_LW_law_961 : decode code 961 = .ok (.aload_n 0, 1) := by decide +kernel
theorem d_LW_law_962 : decode code 962 = .ok (.iload_n 3, 1) := by decide +kernel
theorem d_LW_law_963 : decode code 963 = .ok (.iconst 3, 1) := by decide +kernel
theorem d_LW_law_964 : decode code 964 = .ok (.iadd, 1) := by decide +kernel
theorem d_LW_law_965 : decode code 965 = .ok (.iaload, 1) := by decide +kernel
theorem d_LW_law_966 : decode code 966 = .ok (.aload_n 0, 1) := by decide +kernel
theorem d_LW_law_967 : decode code 967 = .ok (.iload_n 3, 1) := by decide +kernel
theorem d_LW_law_968 : decode code 968 = .ok (.iconst 4, 1) := by decide +kernel
theorem d_LW_law_969 : decode code 969 = .ok (.iadd, 1) := by decide +kernel
theorem d_LW_law_970 : decode code 970 = .ok (.iaload, 1) := by decide +kernel
theorem d_LW_law_971 : decode code 971 = .ok (.ifCond .eq 7, 3) := by decide +kernel
theorem d_LW_law_974 : decode code 974 = .ok (.iconst 1, 1) := by decide +kernel
theorem d_LW_law_975 : decode code 975 = .ok (.goto 4, 3) := by decide +kernel
theorem d_LW_law_978 : decode code 978 = .ok (.iconst 0, 1) := by decide +kernel
theorem d_LW_law_979 : decode code 979 = .ok (.invokevirtual 137, 3) := by decide +kernel
theorem d_LW_law_982 : decode code 982 = .ok (.aload_n 2, 1) := by decide +kernel
theorem d_LW_law_983 : decode code 983 = .ok (.aload_n 0, 1) := by decide +kernel
theorem d_LW_law_984 : decode code 984 = .ok (.iload_n 3, 1) := by decide +kernel
theorem d_LW_law_985 : decode code 985 = .ok (.iconst 1, 1) := by decide +kernel
theorem d_LW_law_986 : decode code 986 = .ok (.iadd, 1) := by decide +kernel
theorem d_LW_law_987 : decode code 987 = .ok (.iaload, 1) := by decide +kernel
theorem d_LW_law_988 : decode code 988 = .ok (.aload_n 0, 1) := by decide +kernel
theorem d_LW_law_989 : decode code 989 = .ok (.iload_n 3, 1) := by decide +kernel
theorem d_LW_law_990 : decode code 990 = .ok (.iconst 2, 1) := by decide +kernel
theorem d_LW_law_991 : decode code 991 = .ok (.iadd, 1) := by decide +kernel
theorem d_LW_law_992 : decode code 992 = .ok (.iaload, 1) := by decide +kernel
theorem d_LW_law_993 : decode code 993 = .ok (.aload_n 0, 1) := by decide +kernel
theorem d_LW_law_994 : decode code 994 = .ok (.iload_n 3, 1) := by decide +kernel
theorem d_LW_law_995 : decode code 995 = .ok (.iconst 3, 1) := by decide +kernel
theorem d_LW_law_996 : decode code 996 = .ok (.iadd, 1) := by decide +kernel
theorem d_LW_law_997 : decode code 997 = .ok (.iaload, 1) := by decide +kernel
theorem d_LW_law_998 : decode code 998 = .ok (.aload_n 0, 1) := by decide +kernel
theorem d_LW_law_999 : decode code 999 = .ok (.iload_n 3, 1) := by decide +kernel
theorem d_LW_law_1000 : decode code 1000 = .ok (.iconst 4, 1) := by decide +kernel
theorem d_LW_law_1001 : decode code 1001 = .ok (.iadd, 1) := by decide +kernel
theorem d_LW_law_1002 : decode code 1002 = .ok (.iaload, 1) := by decide +kernel
theorem d_LW_law_1003 : decode code 1003 = .ok (.ifCond .eq 7, 3) := by decide +kernel
theorem d_LW_law_1006 : decode code 1006 = .ok (.iconst 1, 1) := by decide +kernel
theorem d_LW_law_1007 : decode code 1007 = .ok (.goto 4, 3) := by decide +kernel
theorem d_LW_law_1010 : decode code 1010 = .ok (.iconst 0, 1) := by decide +kernel
theorem d_LW_law_1011 : decode code 1011 = .ok (.invokevirtual 140, 3) := by decide +kernel
theorem d_LW_law_1014 : decode code 1014 = .ok (.lcmp, 1) := by decide +kernel
theorem d_LW_law_1015 : decode code 1015 = .ok (.ifCond .eq 74, 3) := by decide +kernel
theorem d_LW_law_1018 : decode code 1018 = .ok (.iconst 0, 1) := by decide +kernel
theorem d_LW_law_1019 : decode code 1019 = .ok (.ireturn, 1) := by decide +kernel
theorem d_LW_law_1020 : decode code 1020 = .ok (.aload_n 1, 1) := by decide +kernel
theorem d_LW_law_1021 : decode code 1021 = .ok (.aload_n 0, 1) := by decide +kernel
theorem d_LW_law_1022 : decode code 1022 = .ok (.iload_n 3, 1) := by decide +kernel
theorem d_LW_law_1023 : decode code 1023 = .ok (.iconst 1, 1) := by decide +kernel
theorem d_LW_law_1024 : decode code 1024 = .ok (.iadd, 1) := by decide +kernel
theorem d_LW_law_1025 : decode code 1025 = .ok (.iaload, 1) := by decide +kernel
theorem d_LW_law_1026 : decode code 1026 = .ok (.invokevirtual 141, 3) := by decide +kernel
theorem d_LW_law_1029 : decode code 1029 = .ok (.aload_n 2, 1) := by decide +kernel
theorem d_LW_law_1030 : decode code 1030 = .ok (.aload_n 0, 1) := by decide +kernel
theorem d_LW_law_1031 : decode code 1031 = .ok (.iload_n 3, 1) := by decide +kernel
theorem d_LW_law_1032 : decode code 1032 = .ok (.iconst 1, 1) := by decide +kernel
theorem d_LW_law_1033 : decode code 1033 = .ok (.iadd, 1) := by decide +kernel
theorem d_LW_law_1034 : decode code 1034 = .ok (.iaload, 1) := by decide +kernel
theorem d_LW_law_1035 : decode code 1035 = .ok (.invokevirtual 144, 3) := by decide +kernel
theorem d_LW_law_1038 : decode code 1038 = .ok (.if_icmp .eq 51, 3) := by decide +kernel
theorem d_LW_law_1041 : decode code 1041 = .ok (.iconst 0, 1) := by decide +kernel
theorem d_LW_law_1042 : decode code 1042 = .ok (.ireturn, 1) := by decide +kernel
theorem d_LW_law_1043 : decode code 1043 = .ok (.aload_n 1, 1) := by decide +kernel
theorem d_LW_law_1044 : decode code 1044 = .ok (.aload_n 0, 1) := by decide +kernel
theorem d_LW_law_1045 : decode code 1045 = .ok (.iload_n 3, 1) := by decide +kernel
theorem d_LW_law_1046 : decode code 1046 = .ok (.iconst 1, 1) := by decide +kernel
theorem d_LW_law_1047 : decode code 1047 = .ok (.iadd, 1) := by decide +kernel
theorem d_LW_law_1048 : decode code 1048 = .ok (.iaload, 1) := by decide +kernel
theorem d_LW_law_1049 : decode code 1049 = .ok (.invokevirtual 145, 3) := by decide +kernel
theorem d_LW_law_1052 : decode code 1052 = .ok (.aload_n 2, 1) := by decide +kernel
theorem d_LW_law_1053 : decode code 1053 = .ok (.aload_n 0, 1) := by decide +kernel
theorem d_LW_law_1054 : decode code 1054 = .ok (.iload_n 3, 1) := by decide +kernel
theorem d_LW_law_1055 : decode code 1055 = .ok (.iconst 1, 1) := by decide +kernel
theorem d_LW_law_1056 : decode code 1056 = .ok (.iadd, 1) := by decide +kernel
theorem d_LW_law_1057 : decode code 1057 = .ok (.iaload, 1) := by decide +kernel
theorem d_LW_law_1058 : decode code 1058 = .ok (.invokevirtual 148, 3) := by decide +kernel
theorem d_LW_law_1061 : decode code 1061 = .ok (.if_icmp .eq 28, 3) := by decide +kernel
theorem d_LW_law_1064 : decode code 1064 = .ok (.iconst 0, 1) := by decide +kernel
theorem d_LW_law_1065 : decode code 1065 = .ok (.ireturn, 1) := by decide +kernel
theorem d_LW_law_1066 : decode code 1066 = .ok (.aload_n 1, 1) := by decide +kernel
theorem d_LW_law_1067 : decode code 1067 = .ok (.aload_n 0, 1) := by decide +kernel
theorem d_LW_law_1068 : decode code 1068 = .ok (.iload_n 3, 1) := by decide +kernel
theorem d_LW_law_1069 : decode code 1069 = .ok (.iconst 1, 1) := by decide +kernel
theorem d_LW_law_1070 : decode code 1070 = .ok (.iadd, 1) := by decide +kernel
theorem d_LW_law_1071 : decode code 1071 = .ok (.iaload, 1) := by decide +kernel
theorem d_LW_law_1072 : decode code 1072 = .ok (.invokevirtual 149, 3) := by decide +kernel
theorem d_LW_law_1075 : decode code 1075 = .ok (.aload_n 2, 1) := by decide +kernel
theorem d_LW_law_1076 : decode code 1076 = .ok (.aload_n 0, 1) := by decide +kernel
theorem d_LW_law_1077 : decode code 1077 = .ok (.iload_n 3, 1) := by decide +kernel
theorem d_LW_law_1078 : decode code 1078 = .ok (.iconst 1, 1) := by decide +kernel
theorem d_LW_law_1079 : decode code 1079 = .ok (.iadd, 1) := by decide +kernel
theorem d_LW_law_1080 : decode code 1080 = .ok (.iaload, 1) := by decide +kernel
theorem d_LW_law_1081 : decode code 1081 = .ok (.invokevirtual 152, 3) := by decide +kernel
theorem d_LW_law_1084 : decode code 1084 = .ok (.if_icmp .eq 5, 3) := by decide +kernel
theorem d_LW_law_1087 : decode code 1087 = .ok (.iconst 0, 1) := by decide +kernel
theorem d_LW_law_1088 : decode code 1088 = .ok (.ireturn, 1) := by decide +kernel
theorem d_LW_law_1089 : decode code 1089 = .ok (.iinc 3 5, 3) := by decide +kernel
theorem d_LW_law_1092 : decode code 1092 = .ok (.goto (-1074), 3) := by decide +kernel
theorem d_LW_law_1095 : decode code 1095 = .ok (.iconst 1, 1) := by decide +kernel
theorem d_LW_law_1096 : decode code 1096 = .ok (.ireturn, 1) := by decide +kernel
