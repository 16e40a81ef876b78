abbrev cLaw : ByteArray := code
theorem dLaw_0 : decode cLaw 0 = .ok (.new 8, 3) := by decide +kernel
theorem dLaw_3 : decode cLaw 3 = .ok (.dup, 1) := by decide +kernel
theorem dLaw_4 : decode cLaw 4 = .ok (.invokespecial 68, 3) := by decide +kernel
theorem dLaw_7 : decode cLaw 7 = .ok (.astore_n 1, 1) := by decide +kernel
theorem dLaw_8 : decode cLaw 8 = .ok (.new 69, 3) := by decide +kernel
theorem dLaw_11 : decode cLaw 11 = .ok (.dup, 1) := by decide +kernel
theorem dLaw_12 : decode cLaw 12 = .ok (.invokespecial 71, 3) := by decide +kernel
theorem dLaw_15 : decode cLaw 15 = .ok (.astore_n 2, 1) := by decide +kernel
theorem dLaw_16 : decode cLaw 16 = .ok (.iconst 1, 1) := by decide +kernel
theorem dLaw_17 : decode cLaw 17 = .ok (.newarray .long, 2) := by decide +kernel
theorem dLaw_19 : decode cLaw 19 = .ok (.astore_n 3, 1) := by decide +kernel
theorem dLaw_20 : decode cLaw 20 = .ok (.iconst 0, 1) := by decide +kernel
theorem dLaw_21 : decode cLaw 21 = .ok (.istore 4, 2) := by decide +kernel
theorem dLaw_23 : decode cLaw 23 = .ok (.iload 4, 2) := by decide +kernel
theorem dLaw_25 : decode cLaw 25 = .ok (.aload_n 0, 1) := by decide +kernel
theorem dLaw_26 : decode cLaw 26 = .ok (.arraylength, 1) := by decide +kernel
theorem dLaw_27 : decode cLaw 27 = .ok (.bipush 6, 2) := by decide +kernel
theorem dLaw_29 : decode cLaw 29 = .ok (.isub, 1) := by decide +kernel
theorem dLaw_30 : decode cLaw 30 = .ok (.if_icmp .gt 1497, 3) := by decide +kernel
theorem dLaw_33 : decode cLaw 33 = .ok (.aload_n 0, 1) := by decide +kernel
theorem dLaw_34 : decode cLaw 34 = .ok (.iload 4, 2) := by decide +kernel
theorem dLaw_36 : decode cLaw 36 = .ok (.iaload, 1) := by decide +kernel
theorem dLaw_37 : decode cLaw 37 = .ok (.bipush 31, 2) := by decide +kernel
theorem dLaw_39 : decode cLaw 39 = .ok (.iand, 1) := by decide +kernel
theorem dLaw_40 : decode cLaw 40 = .ok (.tableswitch 1481 0 28 #[132, 205, 261, 274, 330, 414, 482, 550, 564, 632, 657, 725, 750, 763, 843, 899, 912, 980, 1036, 1092, 1105, 1161, 1217, 1254, 1310, 1366, 1377, 1457, 1468], 132) := by decide +kernel
theorem dLaw_172 : decode cLaw 172 = .ok (.aload_n 1, 1) := by decide +kernel
theorem dLaw_173 : decode cLaw 173 = .ok (.aload_n 0, 1) := by decide +kernel
theorem dLaw_174 : decode cLaw 174 = .ok (.iload 4, 2) := by decide +kernel
theorem dLaw_176 : decode cLaw 176 = .ok (.iconst 1, 1) := by decide +kernel
theorem dLaw_177 : decode cLaw 177 = .ok (.iadd, 1) := by decide +kernel
theorem dLaw_178 : decode cLaw 178 = .ok (.iaload, 1) := by decide +kernel
theorem dLaw_179 : decode cLaw 179 = .ok (.aload_n 0, 1) := by decide +kernel
theorem dLaw_180 : decode cLaw 180 = .ok (.iload 4, 2) := by decide +kernel
theorem dLaw_182 : decode cLaw 182 = .ok (.iconst 2, 1) := by decide +kernel
theorem dLaw_183 : decode cLaw 183 = .ok (.iadd, 1) := by decide +kernel
theorem dLaw_184 : decode cLaw 184 = .ok (.iaload, 1) := by decide +kernel
theorem dLaw_185 : decode cLaw 185 = .ok (.aload_n 0, 1) := by decide +kernel
theorem dLaw_186 : decode cLaw 186 = .ok (.iload 4, 2) := by decide +kernel
theorem dLaw_188 : decode cLaw 188 = .ok (.iconst 3, 1) := by decide +kernel
theorem dLaw_189 : decode cLaw 189 = .ok (.iadd, 1) := by decide +kernel
theorem dLaw_190 : decode cLaw 190 = .ok (.iaload, 1) := by decide +kernel
theorem dLaw_191 : decode cLaw 191 = .ok (.aload_n 0, 1) := by decide +kernel
theorem dLaw_192 : decode cLaw 192 = .ok (.iload 4, 2) := by decide +kernel
theorem dLaw_194 : decode cLaw 194 = .ok (.iconst 4, 1) := by decide +kernel
theorem dLaw_195 : decode cLaw 195 = .ok (.iadd, 1) := by decide +kernel
theorem dLaw_196 : decode cLaw 196 = .ok (.iaload, 1) := by decide +kernel
theorem dLaw_197 : decode cLaw 197 = .ok (.aload_n 0, 1) := by decide +kernel
theorem dLaw_198 : decode cLaw 198 = .ok (.iload 4, 2) := by decide +kernel
theorem dLaw_200 : decode cLaw 200 = .ok (.iconst 5, 1) := by decide +kernel
theorem dLaw_201 : decode cLaw 201 = .ok (.iadd, 1) := by decide +kernel
theorem dLaw_202 : decode cLaw 202 = .ok (.iaload, 1) := by decide +kernel
theorem dLaw_203 : decode cLaw 203 = .ok (.invokevirtual 72, 3) := by decide +kernel
theorem dLaw_206 : decode cLaw 206 = .ok (.aload_n 2, 1) := by decide +kernel
theorem dLaw_207 : decode cLaw 207 = .ok (.aload_n 0, 1) := by decide +kernel
theorem dLaw_208 : decode cLaw 208 = .ok (.iload 4, 2) := by decide +kernel
theorem dLaw_210 : decode cLaw 210 = .ok (.iconst 1, 1) := by decide +kernel
theorem dLaw_211 : decode cLaw 211 = .ok (.iadd, 1) := by decide +kernel
theorem dLaw_212 : decode cLaw 212 = .ok (.iaload, 1) := by decide +kernel
theorem dLaw_213 : decode cLaw 213 = .ok (.aload_n 0, 1) := by decide +kernel
theorem dLaw_214 : decode cLaw 214 = .ok (.iload 4, 2) := by decide +kernel
theorem dLaw_216 : decode cLaw 216 = .ok (.iconst 2, 1) := by decide +kernel
theorem dLaw_217 : decode cLaw 217 = .ok (.iadd, 1) := by decide +kernel
theorem dLaw_218 : decode cLaw 218 = .ok (.iaload, 1) := by decide +kernel
theorem dLaw_219 : decode cLaw 219 = .ok (.aload_n 0, 1) := by decide +kernel
theorem dLaw_220 : decode cLaw 220 = .ok (.iload 4, 2) := by decide +kernel
theorem dLaw_222 : decode cLaw 222 = .ok (.iconst 3, 1) := by decide +kernel
theorem dLaw_223 : decode cLaw 223 = .ok (.iadd, 1) := by decide +kernel
theorem dLaw_224 : decode cLaw 224 = .ok (.iaload, 1) := by decide +kernel
theorem dLaw_225 : decode cLaw 225 = .ok (.aload_n 0, 1) := by decide +kernel
theorem dLaw_226 : decode cLaw 226 = .ok (.iload 4, 2) := by decide +kernel
theorem dLaw_228 : decode cLaw 228 = .ok (.iconst 4, 1) := by decide +kernel
theorem dLaw_229 : decode cLaw 229 = .ok (.iadd, 1) := by decide +kernel
theorem dLaw_230 : decode cLaw 230 = .ok (.iaload, 1) := by decide +kernel
theorem dLaw_231 : decode cLaw 231 = .ok (.aload_n 0, 1) := by decide +kernel
theorem dLaw_232 : decode cLaw 232 = .ok (.iload 4, 2) := by decide +kernel
theorem dLaw_234 : decode cLaw 234 = .ok (.iconst 5, 1) := by decide +kernel
theorem dLaw_235 : decode cLaw 235 = .ok (.iadd, 1) := by decide +kernel
theorem dLaw_236 : decode cLaw 236 = .ok (.iaload, 1) := by decide +kernel
theorem dLaw_237 : decode cLaw 237 = .ok (.invokevirtual 76, 3) := by decide +kernel
theorem dLaw_240 : decode cLaw 240 = .ok (.if_icmp .eq 1281, 3) := by decide +kernel
theorem dLaw_243 : decode cLaw 243 = .ok (.iconst 0, 1) := by decide +kernel
theorem dLaw_244 : decode cLaw 244 = .ok (.ireturn, 1) := by decide +kernel
theorem dLaw_245 : decode cLaw 245 = .ok (.aload_n 1, 1) := by decide +kernel
theorem dLaw_246 : decode cLaw 246 = .ok (.aload_n 0, 1) := by decide +kernel
theorem dLaw_247 : decode cLaw 247 = .ok (.iload 4, 2) := by decide +kernel
theorem dLaw_249 : decode cLaw 249 = .ok (.iconst 1, 1) := by decide +kernel
theorem dLaw_250 : decode cLaw 250 = .ok (.iadd, 1) := by decide +kernel
theorem dLaw_251 : decode cLaw 251 = .ok (.iaload, 1) := by decide +kernel
theorem dLaw_252 : decode cLaw 252 = .ok (.aload_n 3, 1) := by decide +kernel
theorem dLaw_253 : decode cLaw 253 = .ok (.invokestatic 77, 3) := by decide +kernel
theorem dLaw_256 : decode cLaw 256 = .ok (.istore 5, 2) := by decide +kernel
theorem dLaw_258 : decode cLaw 258 = .ok (.aload_n 2, 1) := by decide +kernel
theorem dLaw_259 : decode cLaw 259 = .ok (.aload_n 0, 1) := by decide +kernel
theorem dLaw_260 : decode cLaw 260 = .ok (.iload 4, 2) := by decide +kernel
theorem dLaw_262 : decode cLaw 262 = .ok (.iconst 1, 1) := by decide +kernel
theorem dLaw_263 : decode cLaw 263 = .ok (.iadd, 1) := by decide +kernel
theorem dLaw_264 : decode cLaw 264 = .ok (.iaload, 1) := by decide +kernel
theorem dLaw_265 : decode cLaw 265 = .ok (.invokevirtual 82, 3) := by decide +kernel
theorem dLaw_268 : decode cLaw 268 = .ok (.istore 6, 2) := by decide +kernel
theorem dLaw_270 : decode cLaw 270 = .ok (.aload_n 2, 1) := by decide +kernel
theorem dLaw_271 : decode cLaw 271 = .ok (.invokevirtual 83, 3) := by decide +kernel
theorem dLaw_274 : decode cLaw 274 = .ok (.iload 5, 2) := by decide +kernel
theorem dLaw_276 : decode cLaw 276 = .ok (.if_icmp .eq 5, 3) := by decide +kernel
theorem dLaw_279 : decode cLaw 279 = .ok (.iconst 0, 1) := by decide +kernel
theorem dLaw_280 : decode cLaw 280 = .ok (.ireturn, 1) := by decide +kernel
theorem dLaw_281 : decode cLaw 281 = .ok (.iload 5, 2) := by decide +kernel
theorem dLaw_283 : decode cLaw 283 = .ok (.ifCond .ne 15, 3) := by decide +kernel
theorem dLaw_286 : decode cLaw 286 = .ok (.aload_n 3, 1) := by decide +kernel
theorem dLaw_287 : decode cLaw 287 = .ok (.iconst 0, 1) := by decide +kernel
theorem dLaw_288 : decode cLaw 288 = .ok (.laload, 1) := by decide +kernel
theorem dLaw_289 : decode cLaw 289 = .ok (.iload 6, 2) := by decide +kernel
theorem dLaw_291 : decode cLaw 291 = .ok (.i2l, 1) := by decide +kernel
theorem dLaw_292 : decode cLaw 292 = .ok (.lcmp, 1) := by decide +kernel
theorem dLaw_293 : decode cLaw 293 = .ok (.ifCond .eq 5, 3) := by decide +kernel
theorem dLaw_296 : decode cLaw 296 = .ok (.iconst 0, 1) := by decide +kernel
theorem dLaw_297 : decode cLaw 297 = .ok (.ireturn, 1) := by decide +kernel
theorem dLaw_298 : decode cLaw 298 = .ok (.goto 1223, 3) := by decide +kernel
theorem dLaw_301 : decode cLaw 301 = .ok (.aload_n 1, 1) := by decide +kernel
theorem dLaw_302 : decode cLaw 302 = .ok (.invokevirtual 87, 3) := by decide +kernel
theorem dLaw_305 : decode cLaw 305 = .ok (.aload_n 2, 1) := by decide +kernel
theorem dLaw_306 : decode cLaw 306 = .ok (.invokevirtual 90, 3) := by decide +kernel
theorem dLaw_309 : decode cLaw 309 = .ok (.if_icmp .eq 1212, 3) := by decide +kernel
theorem dLaw_312 : decode cLaw 312 = .ok (.iconst 0, 1) := by decide +kernel
theorem dLaw_313 : decode cLaw 313 = .ok (.ireturn, 1) := by decide +kernel
theorem dLaw_314 : decode cLaw 314 = .ok (.aload_n 1, 1) := by decide +kernel
theorem dLaw_315 : decode cLaw 315 = .ok (.aload_n 0, 1) := by decide +kernel
theorem dLaw_316 : decode cLaw 316 = .ok (.iload 4, 2) := by decide +kernel
theorem dLaw_318 : decode cLaw 318 = .ok (.iconst 1, 1) := by decide +kernel
theorem dLaw_319 : decode cLaw 319 = .ok (.iadd, 1) := by decide +kernel
theorem dLaw_320 : decode cLaw 320 = .ok (.iaload, 1) := by decide +kernel
theorem dLaw_321 : decode cLaw 321 = .ok (.aload_n 3, 1) := by decide +kernel
theorem dLaw_322 : decode cLaw 322 = .ok (.invokestatic 91, 3) := by decide +kernel
theorem dLaw_325 : decode cLaw 325 = .ok (.istore 5, 2) := by decide +kernel
theorem dLaw_327 : decode cLaw 327 = .ok (.aload_n 2, 1) := by decide +kernel
theorem dLaw_328 : decode cLaw 328 = .ok (.aload_n 0, 1) := by decide +kernel
theorem dLaw_329 : decode cLaw 329 = .ok (.iload 4, 2) := by decide +kernel
theorem dLaw_331 : decode cLaw 331 = .ok (.iconst 1, 1) := by decide +kernel
theorem dLaw_332 : decode cLaw 332 = .ok (.iadd, 1) := by decide +kernel
theorem dLaw_333 : decode cLaw 333 = .ok (.iaload, 1) := by decide +kernel
theorem dLaw_334 : decode cLaw 334 = .ok (.invokevirtual 93, 3) := by decide +kernel
theorem dLaw_337 : decode cLaw 337 = .ok (.istore 6, 2) := by decide +kernel
theorem dLaw_339 : decode cLaw 339 = .ok (.aload_n 2, 1) := by decide +kernel
theorem dLaw_340 : decode cLaw 340 = .ok (.invokevirtual 83, 3) := by decide +kernel
theorem dLaw_343 : decode cLaw 343 = .ok (.iload 5, 2) := by decide +kernel
theorem dLaw_345 : decode cLaw 345 = .ok (.if_icmp .eq 5, 3) := by decide +kernel
theorem dLaw_348 : decode cLaw 348 = .ok (.iconst 0, 1) := by decide +kernel
theorem dLaw_349 : decode cLaw 349 = .ok (.ireturn, 1) := by decide +kernel
theorem dLaw_350 : decode cLaw 350 = .ok (.iload 5, 2) := by decide +kernel
theorem dLaw_352 : decode cLaw 352 = .ok (.ifCond .ne 15, 3) := by decide +kernel
theorem dLaw_355 : decode cLaw 355 = .ok (.aload_n 3, 1) := by decide +kernel
theorem dLaw_356 : decode cLaw 356 = .ok (.iconst 0, 1) := by decide +kernel
theorem dLaw_357 : decode cLaw 357 = .ok (.laload, 1) := by decide +kernel
theorem dLaw_358 : decode cLaw 358 = .ok (.iload 6, 2) := by decide +kernel
theorem dLaw_360 : decode cLaw 360 = .ok (.i2l, 1) := by decide +kernel
theorem dLaw_361 : decode cLaw 361 = .ok (.lcmp, 1) := by decide +kernel
theorem dLaw_362 : decode cLaw 362 = .ok (.ifCond .eq 5, 3) := by decide +kernel
theorem dLaw_365 : decode cLaw 365 = .ok (.iconst 0, 1) := by decide +kernel
theorem dLaw_366 : decode cLaw 366 = .ok (.ireturn, 1) := by decide +kernel
theorem dLaw_367 : decode cLaw 367 = .ok (.goto 1154, 3) := by decide +kernel
theorem dLaw_370 : decode cLaw 370 = .ok (.aload_n 1, 1) := by decide +kernel
theorem dLaw_371 : decode cLaw 371 = .ok (.aload_n 0, 1) := by decide +kernel
theorem dLaw_372 : decode cLaw 372 = .ok (.iload 4, 2) := by decide +kernel
theorem dLaw_374 : decode cLaw 374 = .ok (.iconst 1, 1) := by decide +kernel
theorem dLaw_375 : decode cLaw 375 = .ok (.iadd, 1) := by decide +kernel
theorem dLaw_376 : decode cLaw 376 = .ok (.iaload, 1) := by decide +kernel
theorem dLaw_377 : decode cLaw 377 = .ok (.aload_n 0, 1) := by decide +kernel
theorem dLaw_378 : decode cLaw 378 = .ok (.iload 4, 2) := by decide +kernel
theorem dLaw_380 : decode cLaw 380 = .ok (.iconst 2, 1) := by decide +kernel
theorem dLaw_381 : decode cLaw 381 = .ok (.iadd, 1) := by decide +kernel
theorem dLaw_382 : decode cLaw 382 = .ok (.iaload, 1) := by decide +kernel
theorem dLaw_383 : decode cLaw 383 = .ok (.ifCond .eq 7, 3) := by decide +kernel
theorem dLaw_386 : decode cLaw 386 = .ok (.iconst 1, 1) := by decide +kernel
theorem dLaw_387 : decode cLaw 387 = .ok (.goto 4, 3) := by decide +kernel
theorem dLaw_390 : decode cLaw 390 = .ok (.iconst 0, 1) := by decide +kernel
theorem dLaw_391 : decode cLaw 391 = .ok (.aload_n 3, 1) := by decide +kernel
theorem dLaw_392 : decode cLaw 392 = .ok (.invokestatic 94, 3) := by decide +kernel
theorem dLaw_395 : decode cLaw 395 = .ok (.istore 5, 2) := by decide +kernel
theorem dLaw_397 : decode cLaw 397 = .ok (.aload_n 2, 1) := by decide +kernel
theorem dLaw_398 : decode cLaw 398 = .ok (.aload_n 0, 1) := by decide +kernel
theorem dLaw_399 : decode cLaw 399 = .ok (.iload 4, 2) := by decide +kernel
theorem dLaw_401 : decode cLaw 401 = .ok (.iconst 1, 1) := by decide +kernel
theorem dLaw_402 : decode cLaw 402 = .ok (.iadd, 1) := by decide +kernel
theorem dLaw_403 : decode cLaw 403 = .ok (.iaload, 1) := by decide +kernel
theorem dLaw_404 : decode cLaw 404 = .ok (.aload_n 0, 1) := by decide +kernel
theorem dLaw_405 : decode cLaw 405 = .ok (.iload 4, 2) := by decide +kernel
theorem dLaw_407 : decode cLaw 407 = .ok (.iconst 2, 1) := by decide +kernel
theorem dLaw_408 : decode cLaw 408 = .ok (.iadd, 1) := by decide +kernel
theorem dLaw_409 : decode cLaw 409 = .ok (.iaload, 1) := by decide +kernel
theorem dLaw_410 : decode cLaw 410 = .ok (.ifCond .eq 7, 3) := by decide +kernel
theorem dLaw_413 : decode cLaw 413 = .ok (.iconst 1, 1) := by decide +kernel
theorem dLaw_414 : decode cLaw 414 = .ok (.goto 4, 3) := by decide +kernel
theorem dLaw_417 : decode cLaw 417 = .ok (.iconst 0, 1) := by decide +kernel
theorem dLaw_418 : decode cLaw 418 = .ok (.invokevirtual 97, 3) := by decide +kernel
theorem dLaw_421 : decode cLaw 421 = .ok (.istore 6, 2) := by decide +kernel
theorem dLaw_423 : decode cLaw 423 = .ok (.aload_n 2, 1) := by decide +kernel
theorem dLaw_424 : decode cLaw 424 = .ok (.invokevirtual 83, 3) := by decide +kernel
theorem dLaw_427 : decode cLaw 427 = .ok (.iload 5, 2) := by decide +kernel
theorem dLaw_429 : decode cLaw 429 = .ok (.if_icmp .eq 5, 3) := by decide +kernel
theorem dLaw_432 : decode cLaw 432 = .ok (.iconst 0, 1) := by decide +kernel
theorem dLaw_433 : decode cLaw 433 = .ok (.ireturn, 1) := by decide +kernel
theorem dLaw_434 : decode cLaw 434 = .ok (.iload 5, 2) := by decide +kernel
theorem dLaw_436 : decode cLaw 436 = .ok (.ifCond .ne 15, 3) := by decide +kernel
theorem dLaw_439 : decode cLaw 439 = .ok (.aload_n 3, 1) := by decide +kernel
theorem dLaw_440 : decode cLaw 440 = .ok (.iconst 0, 1) := by decide +kernel
theorem dLaw_441 : decode cLaw 441 = .ok (.laload, 1) := by decide +kernel
theorem dLaw_442 : decode cLaw 442 = .ok (.iload 6, 2) := by decide +kernel
theorem dLaw_444 : decode cLaw 444 = .ok (.i2l, 1) := by decide +kernel
theorem dLaw_445 : decode cLaw 445 = .ok (.lcmp, 1) := by decide +kernel
theorem dLaw_446 : decode cLaw 446 = .ok (.ifCond .eq 5, 3) := by decide +kernel
theorem dLaw_449 : decode cLaw 449 = .ok (.iconst 0, 1) := by decide +kernel
theorem dLaw_450 : decode cLaw 450 = .ok (.ireturn, 1) := by decide +kernel
theorem dLaw_451 : decode cLaw 451 = .ok (.goto 1070, 3) := by decide +kernel
theorem dLaw_454 : decode cLaw 454 = .ok (.aload_n 1, 1) := by decide +kernel
theorem dLaw_455 : decode cLaw 455 = .ok (.aload_n 0, 1) := by decide +kernel
theorem dLaw_456 : decode cLaw 456 = .ok (.iload 4, 2) := by decide +kernel
theorem dLaw_458 : decode cLaw 458 = .ok (.iconst 1, 1) := by decide +kernel
theorem dLaw_459 : decode cLaw 459 = .ok (.iadd, 1) := by decide +kernel
theorem dLaw_460 : decode cLaw 460 = .ok (.iaload, 1) := by decide +kernel
theorem dLaw_461 : decode cLaw 461 = .ok (.aload_n 0, 1) := by decide +kernel
theorem dLaw_462 : decode cLaw 462 = .ok (.iload 4, 2) := by decide +kernel
theorem dLaw_464 : decode cLaw 464 = .ok (.iconst 2, 1) := by decide +kernel
theorem dLaw_465 : decode cLaw 465 = .ok (.iadd, 1) := by decide +kernel
theorem dLaw_466 : decode cLaw 466 = .ok (.iaload, 1) := by decide +kernel
theorem dLaw_467 : decode cLaw 467 = .ok (.aload_n 3, 1) := by decide +kernel
theorem dLaw_468 : decode cLaw 468 = .ok (.invokestatic 98, 3) := by decide +kernel
theorem dLaw_471 : decode cLaw 471 = .ok (.istore 5, 2) := by decide +kernel
theorem dLaw_473 : decode cLaw 473 = .ok (.aload_n 2, 1) := by decide +kernel
theorem dLaw_474 : decode cLaw 474 = .ok (.aload_n 0, 1) := by decide +kernel
theorem dLaw_475 : decode cLaw 475 = .ok (.iload 4, 2) := by decide +kernel
theorem dLaw_477 : decode cLaw 477 = .ok (.iconst 1, 1) := by decide +kernel
theorem dLaw_478 : decode cLaw 478 = .ok (.iadd, 1) := by decide +kernel
theorem dLaw_479 : decode cLaw 479 = .ok (.iaload, 1) := by decide +kernel
theorem dLaw_480 : decode cLaw 480 = .ok (.aload_n 0, 1) := by decide +kernel
theorem dLaw_481 : decode cLaw 481 = .ok (.iload 4, 2) := by decide +kernel
theorem dLaw_483 : decode cLaw 483 = .ok (.iconst 2, 1) := by decide +kernel
theorem dLaw_484 : decode cLaw 484 = .ok (.iadd, 1) := by decide +kernel
theorem dLaw_485 : decode cLaw 485 = .ok (.iaload, 1) := by decide +kernel
theorem dLaw_486 : decode cLaw 486 = .ok (.invokevirtual 101, 3) := by decide +kernel
theorem dLaw_489 : decode cLaw 489 = .ok (.istore 6, 2) := by decide +kernel
theorem dLaw_491 : decode cLaw 491 = .ok (.aload_n 2, 1) := by decide +kernel
