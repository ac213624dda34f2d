/-! ===== the law, case by case ===== -/
def mL_law : Mi := (yL_law, cL_law, 8, some .boolean, 1)
theorem dL_law_0 : decode mL_law.2.1 0 = .ok (.new 8, 3) := by decide +kernel
theorem dL_law_3 : decode mL_law.2.1 3 = .ok (.dup, 1) := by decide +kernel
theorem dL_law_4 : decode mL_law.2.1 4 = .ok (.invokespecial 112, 3) := by decide +kernel
theorem dL_law_7 : decode mL_law.2.1 7 = .ok (.astore_n 1, 1) := by decide +kernel
theorem dL_law_8 : decode mL_law.2.1 8 = .ok (.new 113, 3) := by decide +kernel
theorem dL_law_11 : decode mL_law.2.1 11 = .ok (.dup, 1) := by decide +kernel
theorem dL_law_12 : decode mL_law.2.1 12 = .ok (.invokespecial 115, 3) := by decide +kernel
theorem dL_law_15 : decode mL_law.2.1 15 = .ok (.astore_n 2, 1) := by decide +kernel
theorem dL_law_16 : decode mL_law.2.1 16 = .ok (.iconst 1, 1) := by decide +kernel
theorem dL_law_17 : decode mL_law.2.1 17 = .ok (.newarray .long, 2) := by decide +kernel
theorem dL_law_19 : decode mL_law.2.1 19 = .ok (.astore_n 3, 1) := by decide +kernel
theorem dL_law_20 : decode mL_law.2.1 20 = .ok (.iconst 0, 1) := by decide +kernel
theorem dL_law_21 : decode mL_law.2.1 21 = .ok (.istore 4, 2) := by decide +kernel
theorem dL_law_23 : decode mL_law.2.1 23 = .ok (.iload 4, 2) := by decide +kernel
theorem dL_law_25 : decode mL_law.2.1 25 = .ok (.aload_n 0, 1) := by decide +kernel
theorem dL_law_26 : decode mL_law.2.1 26 = .ok (.arraylength, 1) := by decide +kernel
theorem dL_law_27 : decode mL_law.2.1 27 = .ok (.iconst 5, 1) := by decide +kernel
theorem dL_law_28 : decode mL_law.2.1 28 = .ok (.isub, 1) := by decide +kernel
theorem dL_law_29 : decode mL_law.2.1 29 = .ok (.if_icmp .gt 2073, 3) := by decide +kernel
theorem dL_law_32 : decode mL_law.2.1 32 = .ok (.aload_n 0, 1) := by decide +kernel
theorem dL_law_33 : decode mL_law.2.1 33 = .ok (.iload 4, 2) := by decide +kernel
theorem dL_law_35 : decode mL_law.2.1 35 = .ok (.iaload, 1) := by decide +kernel
theorem dL_law_36 : decode mL_law.2.1 36 = .ok (.bipush 63, 2) := by decide +kernel
theorem dL_law_38 : decode mL_law.2.1 38 = .ok (.iand, 1) := by decide +kernel
theorem dL_law_39 : decode mL_law.2.1 39 = .ok (.tableswitch 2057 0 34 #[153, 221, 277, 345, 401, 489, 503, 559, 603, 659, 672, 685, 699, 743, 823, 879, 935, 1003, 1087, 1155, 1239, 1347, 1427, 1495, 1551, 1607, 1687, 1700, 1756, 1812, 1875, 1888, 1944, 2000, 2014], 153) := by decide +kernel
theorem dL_law_192 : decode mL_law.2.1 192 = .ok (.aload_n 1, 1) := by decide +kernel
theorem dL_law_193 : decode mL_law.2.1 193 = .ok (.aload_n 0, 1) := by decide +kernel
theorem dL_law_194 : decode mL_law.2.1 194 = .ok (.iload 4, 2) := by decide +kernel
theorem dL_law_196 : decode mL_law.2.1 196 = .ok (.iconst 1, 1) := by decide +kernel
theorem dL_law_197 : decode mL_law.2.1 197 = .ok (.iadd, 1) := by decide +kernel
theorem dL_law_198 : decode mL_law.2.1 198 = .ok (.iaload, 1) := by decide +kernel
theorem dL_law_199 : decode mL_law.2.1 199 = .ok (.aload_n 0, 1) := by decide +kernel
theorem dL_law_200 : decode mL_law.2.1 200 = .ok (.iload 4, 2) := by decide +kernel
theorem dL_law_202 : decode mL_law.2.1 202 = .ok (.iconst 2, 1) := by decide +kernel
theorem dL_law_203 : decode mL_law.2.1 203 = .ok (.iadd, 1) := by decide +kernel
theorem dL_law_204 : decode mL_law.2.1 204 = .ok (.iaload, 1) := by decide +kernel
theorem dL_law_205 : decode mL_law.2.1 205 = .ok (.aload_n 3, 1) := by decide +kernel
theorem dL_law_206 : decode mL_law.2.1 206 = .ok (.invokestatic 116, 3) := by decide +kernel
theorem dL_law_209 : decode mL_law.2.1 209 = .ok (.istore 5, 2) := by decide +kernel
theorem dL_law_211 : decode mL_law.2.1 211 = .ok (.aload_n 2, 1) := by decide +kernel
theorem dL_law_212 : decode mL_law.2.1 212 = .ok (.aload_n 0, 1) := by decide +kernel
theorem dL_law_213 : decode mL_law.2.1 213 = .ok (.iload 4, 2) := by decide +kernel
theorem dL_law_215 : decode mL_law.2.1 215 = .ok (.iconst 1, 1) := by decide +kernel
theorem dL_law_216 : decode mL_law.2.1 216 = .ok (.iadd, 1) := by decide +kernel
theorem dL_law_217 : decode mL_law.2.1 217 = .ok (.iaload, 1) := by decide +kernel
theorem dL_law_218 : decode mL_law.2.1 218 = .ok (.aload_n 0, 1) := by decide +kernel
theorem dL_law_219 : decode mL_law.2.1 219 = .ok (.iload 4, 2) := by decide +kernel
theorem dL_law_221 : decode mL_law.2.1 221 = .ok (.iconst 2, 1) := by decide +kernel
theorem dL_law_222 : decode mL_law.2.1 222 = .ok (.iadd, 1) := by decide +kernel
theorem dL_law_223 : decode mL_law.2.1 223 = .ok (.iaload, 1) := by decide +kernel
theorem dL_law_224 : decode mL_law.2.1 224 = .ok (.invokevirtual 121, 3) := by decide +kernel
theorem dL_law_227 : decode mL_law.2.1 227 = .ok (.istore 6, 2) := by decide +kernel
theorem dL_law_229 : decode mL_law.2.1 229 = .ok (.aload_n 2, 1) := by decide +kernel
theorem dL_law_230 : decode mL_law.2.1 230 = .ok (.invokevirtual 122, 3) := by decide +kernel
theorem dL_law_233 : decode mL_law.2.1 233 = .ok (.iload 5, 2) := by decide +kernel
theorem dL_law_235 : decode mL_law.2.1 235 = .ok (.if_icmp .eq 5, 3) := by decide +kernel
theorem dL_law_238 : decode mL_law.2.1 238 = .ok (.iconst 0, 1) := by decide +kernel
theorem dL_law_239 : decode mL_law.2.1 239 = .ok (.ireturn, 1) := by decide +kernel
theorem dL_law_240 : decode mL_law.2.1 240 = .ok (.iload 5, 2) := by decide +kernel
theorem dL_law_242 : decode mL_law.2.1 242 = .ok (.ifCond .ne 15, 3) := by decide +kernel
theorem dL_law_245 : decode mL_law.2.1 245 = .ok (.aload_n 3, 1) := by decide +kernel
theorem dL_law_246 : decode mL_law.2.1 246 = .ok (.iconst 0, 1) := by decide +kernel
theorem dL_law_247 : decode mL_law.2.1 247 = .ok (.laload, 1) := by decide +kernel
theorem dL_law_248 : decode mL_law.2.1 248 = .ok (.iload 6, 2) := by decide +kernel
theorem dL_law_250 : decode mL_law.2.1 250 = .ok (.i2l, 1) := by decide +kernel
theorem dL_law_251 : decode mL_law.2.1 251 = .ok (.lcmp, 1) := by decide +kernel
theorem dL_law_252 : decode mL_law.2.1 252 = .ok (.ifCond .eq 5, 3) := by decide +kernel
theorem dL_law_255 : decode mL_law.2.1 255 = .ok (.iconst 0, 1) := by decide +kernel
theorem dL_law_256 : decode mL_law.2.1 256 = .ok (.ireturn, 1) := by decide +kernel
theorem dL_law_257 : decode mL_law.2.1 257 = .ok (.goto 1839, 3) := by decide +kernel
theorem dL_law_260 : decode mL_law.2.1 260 = .ok (.aload_n 1, 1) := by decide +kernel
theorem dL_law_261 : decode mL_law.2.1 261 = .ok (.aload_n 0, 1) := by decide +kernel
theorem dL_law_262 : decode mL_law.2.1 262 = .ok (.iload 4, 2) := by decide +kernel
theorem dL_law_264 : decode mL_law.2.1 264 = .ok (.iconst 1, 1) := by decide +kernel
theorem dL_law_265 : decode mL_law.2.1 265 = .ok (.iadd, 1) := by decide +kernel
theorem dL_law_266 : decode mL_law.2.1 266 = .ok (.iaload, 1) := by decide +kernel
theorem dL_law_267 : decode mL_law.2.1 267 = .ok (.aload_n 3, 1) := by decide +kernel
theorem dL_law_268 : decode mL_law.2.1 268 = .ok (.invokestatic 125, 3) := by decide +kernel
theorem dL_law_271 : decode mL_law.2.1 271 = .ok (.istore 5, 2) := by decide +kernel
theorem dL_law_273 : decode mL_law.2.1 273 = .ok (.aload_n 2, 1) := by decide +kernel
theorem dL_law_274 : decode mL_law.2.1 274 = .ok (.aload_n 0, 1) := by decide +kernel
theorem dL_law_275 : decode mL_law.2.1 275 = .ok (.iload 4, 2) := by decide +kernel
theorem dL_law_277 : decode mL_law.2.1 277 = .ok (.iconst 1, 1) := by decide +kernel
theorem dL_law_278 : decode mL_law.2.1 278 = .ok (.iadd, 1) := by decide +kernel
theorem dL_law_279 : decode mL_law.2.1 279 = .ok (.iaload, 1) := by decide +kernel
theorem dL_law_280 : decode mL_law.2.1 280 = .ok (.invokevirtual 128, 3) := by decide +kernel
theorem dL_law_283 : decode mL_law.2.1 283 = .ok (.istore 6, 2) := by decide +kernel
theorem dL_law_285 : decode mL_law.2.1 285 = .ok (.aload_n 2, 1) := by decide +kernel
theorem dL_law_286 : decode mL_law.2.1 286 = .ok (.invokevirtual 122, 3) := by decide +kernel
theorem dL_law_289 : decode mL_law.2.1 289 = .ok (.iload 5, 2) := by decide +kernel
theorem dL_law_291 : decode mL_law.2.1 291 = .ok (.if_icmp .eq 5, 3) := by decide +kernel
theorem dL_law_294 : decode mL_law.2.1 294 = .ok (.iconst 0, 1) := by decide +kernel
theorem dL_law_295 : decode mL_law.2.1 295 = .ok (.ireturn, 1) := by decide +kernel
theorem dL_law_296 : decode mL_law.2.1 296 = .ok (.iload 5, 2) := by decide +kernel
theorem dL_law_298 : decode mL_law.2.1 298 = .ok (.ifCond .ne 15, 3) := by decide +kernel
theorem dL_law_301 : decode mL_law.2.1 301 = .ok (.aload_n 3, 1) := by decide +kernel
theorem dL_law_302 : decode mL_law.2.1 302 = .ok (.iconst 0, 1) := by decide +kernel
theorem dL_law_303 : decode mL_law.2.1 303 = .ok (.laload, 1) := by decide +kernel
theorem dL_law_304 : decode mL_law.2.1 304 = .ok (.iload 6, 2) := by decide +kernel
theorem dL_law_306 : decode mL_law.2.1 306 = .ok (.i2l, 1) := by decide +kernel
theorem dL_law_307 : decode mL_law.2.1 307 = .ok (.lcmp, 1) := by decide +kernel
theorem dL_law_308 : decode mL_law.2.1 308 = .ok (.ifCond .eq 5, 3) := by decide +kernel
theorem dL_law_311 : decode mL_law.2.1 311 = .ok (.iconst 0, 1) := by decide +kernel
theorem dL_law_312 : decode mL_law.2.1 312 = .ok (.ireturn, 1) := by decide +kernel
theorem dL_law_313 : decode mL_law.2.1 313 = .ok (.goto 1783, 3) := by decide +kernel
theorem dL_law_316 : decode mL_law.2.1 316 = .ok (.aload_n 1, 1) := by decide +kernel
theorem dL_law_317 : decode mL_law.2.1 317 = .ok (.aload_n 0, 1) := by decide +kernel
theorem dL_law_318 : decode mL_law.2.1 318 = .ok (.iload 4, 2) := by decide +kernel
theorem dL_law_320 : decode mL_law.2.1 320 = .ok (.iconst 1, 1) := by decide +kernel
theorem dL_law_321 : decode mL_law.2.1 321 = .ok (.iadd, 1) := by decide +kernel
theorem dL_law_322 : decode mL_law.2.1 322 = .ok (.iaload, 1) := by decide +kernel
theorem dL_law_323 : decode mL_law.2.1 323 = .ok (.aload_n 0, 1) := by decide +kernel
theorem dL_law_324 : decode mL_law.2.1 324 = .ok (.iload 4, 2) := by decide +kernel
theorem dL_law_326 : decode mL_law.2.1 326 = .ok (.iconst 2, 1) := by decide +kernel
theorem dL_law_327 : decode mL_law.2.1 327 = .ok (.iadd, 1) := by decide +kernel
theorem dL_law_328 : decode mL_law.2.1 328 = .ok (.iaload, 1) := by decide +kernel
theorem dL_law_329 : decode mL_law.2.1 329 = .ok (.aload_n 3, 1) := by decide +kernel
theorem dL_law_330 : decode mL_law.2.1 330 = .ok (.invokestatic 129, 3) := by decide +kernel
theorem dL_law_333 : decode mL_law.2.1 333 = .ok (.istore 5, 2) := by decide +kernel
theorem dL_law_335 : decode mL_law.2.1 335 = .ok (.aload_n 2, 1) := by decide +kernel
theorem dL_law_336 : decode mL_law.2.1 336 = .ok (.aload_n 0, 1) := by decide +kernel
theorem dL_law_337 : decode mL_law.2.1 337 = .ok (.iload 4, 2) := by decide +kernel
theorem dL_law_339 : decode mL_law.2.1 339 = .ok (.iconst 1, 1) := by decide +kernel
theorem dL_law_340 : decode mL_law.2.1 340 = .ok (.iadd, 1) := by decide +kernel
theorem dL_law_341 : decode mL_law.2.1 341 = .ok (.iaload, 1) := by decide +kernel
theorem dL_law_342 : decode mL_law.2.1 342 = .ok (.aload_n 0, 1) := by decide +kernel
theorem dL_law_343 : decode mL_law.2.1 343 = .ok (.iload 4, 2) := by decide +kernel
theorem dL_law_345 : decode mL_law.2.1 345 = .ok (.iconst 2, 1) := by decide +kernel
theorem dL_law_346 : decode mL_law.2.1 346 = .ok (.iadd, 1) := by decide +kernel
theorem dL_law_347 : decode mL_law.2.1 347 = .ok (.iaload, 1) := by decide +kernel
theorem dL_law_348 : decode mL_law.2.1 348 = .ok (.invokevirtual 131, 3) := by decide +kernel
theorem dL_law_351 : decode mL_law.2.1 351 = .ok (.istore 6, 2) := by decide +kernel
theorem dL_law_353 : decode mL_law.2.1 353 = .ok (.aload_n 2, 1) := by decide +kernel
theorem dL_law_354 : decode mL_law.2.1 354 = .ok (.invokevirtual 122, 3) := by decide +kernel
theorem dL_law_357 : decode mL_law.2.1 357 = .ok (.iload 5, 2) := by decide +kernel
theorem dL_law_359 : decode mL_law.2.1 359 = .ok (.if_icmp .eq 5, 3) := by decide +kernel
theorem dL_law_362 : decode mL_law.2.1 362 = .ok (.iconst 0, 1) := by decide +kernel
theorem dL_law_363 : decode mL_law.2.1 363 = .ok (.ireturn, 1) := by decide +kernel
theorem dL_law_364 : decode mL_law.2.1 364 = .ok (.iload 5, 2) := by decide +kernel
theorem dL_law_366 : decode mL_law.2.1 366 = .ok (.ifCond .ne 15, 3) := by decide +kernel
theorem dL_law_369 : decode mL_law.2.1 369 = .ok (.aload_n 3, 1) := by decide +kernel
theorem dL_law_370 : decode mL_law.2.1 370 = .ok (.iconst 0, 1) := by decide +kernel
theorem dL_law_371 : decode mL_law.2.1 371 = .ok (.laload, 1) := by decide +kernel
theorem dL_law_372 : decode mL_law.2.1 372 = .ok (.iload 6, 2) := by decide +kernel
theorem dL_law_374 : decode mL_law.2.1 374 = .ok (.i2l, 1) := by decide +kernel
theorem dL_law_375 : decode mL_law.2.1 375 = .ok (.lcmp, 1) := by decide +kernel
theorem dL_law_376 : decode mL_law.2.1 376 = .ok (.ifCond .eq 5, 3) := by decide +kernel
theorem dL_law_379 : decode mL_law.2.1 379 = .ok (.iconst 0, 1) := by decide +kernel
theorem dL_law_380 : decode mL_law.2.1 380 = .ok (.ireturn, 1) := by decide +kernel
theorem dL_law_381 : decode mL_law.2.1 381 = .ok (.goto 1715, 3) := by decide +kernel
theorem dL_law_384 : decode mL_law.2.1 384 = .ok (.aload_n 1, 1) := by decide +kernel
theorem dL_law_385 : decode mL_law.2.1 385 = .ok (.aload_n 0, 1) := by decide +kernel
theorem dL_law_386 : decode mL_law.2.1 386 = .ok (.iload 4, 2) := by decide +kernel
theorem dL_law_388 : decode mL_law.2.1 388 = .ok (.iconst 1, 1) := by decide +kernel
theorem dL_law_389 : decode mL_law.2.1 389 = .ok (.iadd, 1) := by decide +kernel
theorem dL_law_390 : decode mL_law.2.1 390 = .ok (.iaload, 1) := by decide +kernel
theorem dL_law_391 : decode mL_law.2.1 391 = .ok (.aload_n 3, 1) := by decide +kernel
theorem dL_law_392 : decode mL_law.2.1 392 = .ok (.invokestatic 132, 3) := by decide +kernel
theorem dL_law_395 : decode mL_law.2.1 395 = .ok (.istore 5, 2) := by decide +kernel
theorem dL_law_397 : decode mL_law.2.1 397 = .ok (.aload_n 2, 1) := by decide +kernel
theorem dL_law_398 : decode mL_law.2.1 398 = .ok (.aload_n 0, 1) := by decide +kernel
theorem dL_law_399 : decode mL_law.2.1 399 = .ok (.iload 4, 2) := by decide +kernel
theorem dL_law_401 : decode mL_law.2.1 401 = .ok (.iconst 1, 1) := by decide +kernel
theorem dL_law_402 : decode mL_law.2.1 402 = .ok (.iadd, 1) := by decide +kernel
theorem dL_law_403 : decode mL_law.2.1 403 = .ok (.iaload, 1) := by decide +kernel
theorem dL_law_404 : decode mL_law.2.1 404 = .ok (.invokevirtual 134, 3) := by decide +kernel
theorem dL_law_407 : decode mL_law.2.1 407 = .ok (.istore 6, 2) := by decide +kernel
theorem dL_law_409 : decode mL_law.2.1 409 = .ok (.aload_n 2, 1) := by decide +kernel
theorem dL_law_410 : decode mL_law.2.1 410 = .ok (.invokevirtual 122, 3) := by decide +kernel
theorem dL_law_413 : decode mL_law.2.1 413 = .ok (.iload 5, 2) := by decide +kernel
theorem dL_law_415 : decode mL_law.2.1 415 = .ok (.if_icmp .eq 5, 3) := by decide +kernel
theorem dL_law_418 : decode mL_law.2.1 418 = .ok (.iconst 0, 1) := by decide +kernel
theorem dL_law_419 : decode mL_law.2.1 419 = .ok (.ireturn, 1) := by decide +kernel
theorem dL_law_420 : decode mL_law.2.1 420 = .ok (.iload 5, 2) := by decide +kernel
theorem dL_law_422 : decode mL_law.2.1 422 = .ok (.ifCond .ne 15, 3) := by decide +kernel
theorem dL_law_425 : decode mL_law.2.1 425 = .ok (.aload_n 3, 1) := by decide +kernel
theorem dL_law_426 : decode mL_law.2.1 426 = .ok (.iconst 0, 1) := by decide +kernel
theorem dL_law_427 : decode mL_law.2.1 427 = .ok (.laload, 1) := by decide +kernel
theorem dL_law_428 : decode mL_law.2.1 428 = .ok (.iload 6, 2) := by decide +kernel
theorem dL_law_430 : decode mL_law.2.1 430 = .ok (.i2l, 1) := by decide +kernel
theorem dL_law_431 : decode mL_law.2.1 431 = .ok (.lcmp, 1) := by decide +kernel
theorem dL_law_432 : decode mL_law.2.1 432 = .ok (.ifCond .eq 5, 3) := by decide +kernel
theorem dL_law_435 : decode mL_law.2.1 435 = .ok (.iconst 0, 1) := by decide +kernel
theorem dL_law_436 : decode mL_law.2.1 436 = .ok (.ireturn, 1) := by decide +kernel
theorem dL_law_437 : decode mL_law.2.1 437 = .ok (.goto 1659, 3) := by decide +kernel
theorem dL_law_440 : decode mL_law.2.1 440 = .ok (.aload_n 1, 1) := by decide +kernel
theorem dL_law_441 : decode mL_law.2.1 441 = .ok (.aload_n 0, 1) := by decide +kernel
theorem dL_law_442 : decode mL_law.2.1 442 = .ok (.iload 4, 2) := by decide +kernel
theorem dL_law_444 : decode mL_law.2.1 444 = .ok (.iconst 1, 1) := by decide +kernel
theorem dL_law_445 : decode mL_law.2.1 445 = .ok (.iadd, 1) := by decide +kernel
theorem dL_law_446 : decode mL_law.2.1 446 = .ok (.iaload, 1) := by decide +kernel
theorem dL_law_447 : decode mL_law.2.1 447 = .ok (.i2l, 1) := by decide +kernel
theorem dL_law_448 : decode mL_law.2.1 448 = .ok (.bipush 32, 2) := by decide +kernel
theorem dL_law_450 : decode mL_law.2.1 450 = .ok (.lshl, 1) := by decide +kernel
theorem dL_law_451 : decode mL_law.2.1 451 = .ok (.aload_n 0, 1) := by decide +kernel
theorem dL_law_452 : decode mL_law.2.1 452 = .ok (.iload 4, 2) := by decide +kernel
theorem dL_law_454 : decode mL_law.2.1 454 = .ok (.iconst 2, 1) := by decide +kernel
theorem dL_law_455 : decode mL_law.2.1 455 = .ok (.iadd, 1) := by decide +kernel
theorem dL_law_456 : decode mL_law.2.1 456 = .ok (.iaload, 1) := by decide +kernel
theorem dL_law_457 : decode mL_law.2.1 457 = .ok (.i2l, 1) := by decide +kernel
theorem dL_law_458 : decode mL_law.2.1 458 = .ok (.ldc2_w 135, 3) := by decide +kernel
theorem dL_law_461 : decode mL_law.2.1 461 = .ok (.land, 1) := by decide +kernel
theorem dL_law_462 : decode mL_law.2.1 462 = .ok (.lor, 1) := by decide +kernel
theorem dL_law_463 : decode mL_law.2.1 463 = .ok (.aload_n 3, 1) := by decide +kernel
theorem dL_law_464 : decode mL_law.2.1 464 = .ok (.invokestatic 137, 3) := by decide +kernel
theorem dL_law_467 : decode mL_law.2.1 467 = .ok (.istore 5, 2) := by decide +kernel
theorem dL_law_469 : decode mL_law.2.1 469 = .ok (.aload_n 2, 1) := by decide +kernel
theorem dL_law_470 : decode mL_law.2.1 470 = .ok (.aload_n 0, 1) := by decide +kernel
theorem dL_law_471 : decode mL_law.2.1 471 = .ok (.iload 4, 2) := by decide +kernel
theorem dL_law_473 : decode mL_law.2.1 473 = .ok (.iconst 1, 1) := by decide +kernel
theorem dL_law_474 : decode mL_law.2.1 474 = .ok (.iadd, 1) := by decide +kernel
theorem dL_law_475 : decode mL_law.2.1 475 = .ok (.iaload, 1) := by decide +kernel
theorem dL_law_476 : decode mL_law.2.1 476 = .ok (.i2l, 1) := by decide +kernel
theorem dL_law_477 : decode mL_law.2.1 477 = .ok (.bipush 32, 2) := by decide +kernel
theorem dL_law_479 : decode mL_law.2.1 479 = .ok (.lshl, 1) := by decide +kernel
theorem dL_law_480 : decode mL_law.2.1 480 = .ok (.aload_n 0, 1) := by decide +kernel
theorem dL_law_481 : decode mL_law.2.1 481 = .ok (.iload 4, 2) := by decide +kernel
theorem dL_law_483 : decode mL_law.2.1 483 = .ok (.iconst 2, 1) := by decide +kernel
theorem dL_law_484 : decode mL_law.2.1 484 = .ok (.iadd, 1) := by decide +kernel
theorem dL_law_485 : decode mL_law.2.1 485 = .ok (.iaload, 1) := by decide +kernel
theorem dL_law_486 : decode mL_law.2.1 486 = .ok (.i2l, 1) := by decide +kernel
theorem dL_law_487 : decode mL_law.2.1 487 = .ok (.ldc2_w 135, 3) := by decide +kernel
theorem dL_law_490 : decode mL_law.2.1 490 = .ok (.land, 1) := by decide +kernel
theorem dL_law_491 : decode mL_law.2.1 491 = .ok (.lor, 1) := by decide +kernel
theorem dL_law_492 : decode mL_law.2.1 492 = .ok (.invokevirtual 140, 3) := by decide +kernel
theorem dL_law_495 : decode mL_law.2.1 495 = .ok (.istore 6, 2) := by decide +kernel
theorem dL_law_497 : decode mL_law.2.1 497 = .ok (.aload_n 2, 1) := by decide +kernel
theorem dL_law_498 : decode mL_law.2.1 498 = .ok (.invokevirtual 122, 3) := by decide +kernel
theorem dL_law_501 : decode mL_law.2.1 501 = .ok (.iload 5, 2) := by decide +kernel
theorem dL_law_503 : decode mL_law.2.1 503 = .ok (.if_icmp .eq 5, 3) := by decide +kernel
theorem dL_law_506 : decode mL_law.2.1 506 = .ok (.iconst 0, 1) := by decide +kernel
theorem dL_law_507 : decode mL_law.2.1 507 = .ok (.ireturn, 1) := by decide +kernel
theorem dL_law_508 : decode mL_law.2.1 508 = .ok (.iload 5, 2) := by decide +kernel
theorem dL_law_510 : decode mL_law.2.1 510 = .ok (.ifCond .ne 15, 3) := by decide +kernel
theorem dL_law_513 : decode mL_law.2.1 513 = .ok (.aload_n 3, 1) := by decide +kernel
theorem dL_law_514 : decode mL_law.2.1 514 = .ok (.iconst 0, 1) := by decide +kernel
theorem dL_law_515 : decode mL_law.2.1 515 = .ok (.laload, 1) := by decide +kernel
theorem dL_law_516 : decode mL_law.2.1 516 = .ok (.iload 6, 2) := by decide +kernel
theorem dL_law_518 : decode mL_law.2.1 518 = .ok (.i2l, 1) := by decide +kernel
theorem dL_law_519 : decode mL_law.2.1 519 = .ok (.lcmp, 1) := by decide +kernel
theorem dL_law_520 : decode mL_law.2.1 520 = .ok (.ifCond .eq 5, 3) := by decide +kernel
theorem dL_law_523 : decode mL_law.2.1 523 = .ok (.iconst 0, 1) := by decide +kernel
theorem dL_law_524 : decode mL_law.2.1 524 = .ok (.ireturn, 1) := by decide +kernel
theorem dL_law_525 : decode mL_law.2.1 525 = .ok (.goto 1571, 3) := by decide +kernel
theorem dL_law_528 : decode mL_law.2.1 528 = .ok (.aload_n 1, 1) := by decide +kernel
theorem dL_law_529 : decode mL_law.2.1 529 = .ok (.invokevirtual 141, 3) := by decide +kernel
theorem dL_law_532 : decode mL_law.2.1 532 = .ok (.aload_n 2, 1) := by decide +kernel
theorem dL_law_533 : decode mL_law.2.1 533 = .ok (.invokevirtual 144, 3) := by decide +kernel
theorem dL_law_536 : decode mL_law.2.1 536 = .ok (.lcmp, 1) := by decide +kernel
theorem dL_law_537 : decode mL_law.2.1 537 = .ok (.ifCond .eq 1559, 3) := by decide +kernel
theorem dL_law_540 : decode mL_law.2.1 540 = .ok (.iconst 0, 1) := by decide +kernel
theorem dL_law_541 : decode mL_law.2.1 541 = .ok (.ireturn, 1) := by decide +kernel
theorem dL_law_542 : decode mL_law.2.1 542 = .ok (.aload_n 1, 1) := by decide +kernel
theorem dL_law_543 : decode mL_law.2.1 543 = .ok (.aload_n 0, 1) := by decide +kernel
theorem dL_law_544 : decode mL_law.2.1 544 = .ok (.iload 4, 2) := by decide +kernel
theorem dL_law_546 : decode mL_law.2.1 546 = .ok (.iconst 1, 1) := by decide +kernel
theorem dL_law_547 : decode mL_law.2.1 547 = .ok (.iadd, 1) := by decide +kernel
theorem dL_law_548 : decode mL_law.2.1 548 = .ok (.iaload, 1) := by decide +kernel
theorem dL_law_549 : decode mL_law.2.1 549 = .ok (.aload_n 3, 1) := by decide +kernel
theorem dL_law_550 : decode mL_law.2.1 550 = .ok (.invokestatic 145, 3) := by decide +kernel
theorem dL_law_553 : decode mL_law.2.1 553 = .ok (.istore 5, 2) := by decide +kernel
theorem dL_law_555 : decode mL_law.2.1 555 = .ok (.aload_n 2, 1) := by decide +kernel
theorem dL_law_556 : decode mL_law.2.1 556 = .ok (.aload_n 0, 1) := by decide +kernel
theorem dL_law_557 : decode mL_law.2.1 557 = .ok (.iload 4, 2) := by decide +kernel
theorem dL_law_559 : decode mL_law.2.1 559 = .ok (.iconst 1, 1) := by decide +kernel
theorem dL_law_560 : decode mL_law.2.1 560 = .ok (.iadd, 1) := by decide +kernel
theorem dL_law_561 : decode mL_law.2.1 561 = .ok (.iaload, 1) := by decide +kernel
theorem dL_law_562 : decode mL_law.2.1 562 = .ok (.invokevirtual 147, 3) := by decide +kernel
theorem dL_law_565 : decode mL_law.2.1 565 = .ok (.istore 6, 2) := by decide +kernel
theorem dL_law_567 : decode mL_law.2.1 567 = .ok (.aload_n 2, 1) := by decide +kernel
theorem dL_law_568 : decode mL_law.2.1 568 = .ok (.invokevirtual 122, 3) := by decide +kernel
theorem dL_law_571 : decode mL_law.2.1 571 = .ok (.iload 5, 2) := by decide +kernel
theorem dL_law_573 : decode mL_law.2.1 573 = .ok (.if_icmp .eq 5, 3) := by decide +kernel
theorem dL_law_576 : decode mL_law.2.1 576 = .ok (.iconst 0, 1) := by decide +kernel
theorem dL_law_577 : decode mL_law.2.1 577 = .ok (.ireturn, 1) := by decide +kernel
theorem dL_law_578 : decode mL_law.2.1 578 = .ok (.iload 5, 2) := by decide +kernel
theorem dL_law_580 : decode mL_law.2.1 580 = .ok (.ifCond .ne 15, 3) := by decide +kernel
theorem dL_law_583 : decode mL_law.2.1 583 = .ok (.aload_n 3, 1) := by decide +kernel
theorem dL_law_584 : decode mL_law.2.1 584 = .ok (.iconst 0, 1) := by decide +kernel
theorem dL_law_585 : decode mL_law.2.1 585 = .ok (.laload, 1) := by decide +kernel
theorem dL_law_586 : decode mL_law.2.1 586 = .ok (.iload 6, 2) := by decide +kernel
theorem dL_law_588 : decode mL_law.2.1 588 = .ok (.i2l, 1) := by decide +kernel
theorem dL_law_589 : decode mL_law.2.1 589 = .ok (.lcmp, 1) := by decide +kernel
theorem dL_law_590 : decode mL_law.2.1 590 = .ok (.ifCond .eq 5, 3) := by decide +kernel
theorem dL_law_593 : decode mL_law.2.1 593 = .ok (.iconst 0, 1) := by decide +kernel
theorem dL_law_594 : decode mL_law.2.1 594 = .ok (.ireturn, 1) := by decide +kernel
theorem dL_law_595 : decode mL_law.2.1 595 = .ok (.goto 1501, 3) := by decide +kernel
theorem dL_law_598 : decode mL_law.2.1 598 = .ok (.aload_n 1, 1) := by decide +kernel
theorem dL_law_599 : decode mL_law.2.1 599 = .ok (.aload_n 3, 1) := by decide +kernel
theorem dL_law_600 : decode mL_law.2.1 600 = .ok (.invokestatic 148, 3) := by decide +kernel
theorem dL_law_603 : decode mL_law.2.1 603 = .ok (.istore 5, 2) := by decide +kernel
theorem dL_law_605 : decode mL_law.2.1 605 = .ok (.aload_n 2, 1) := by decide +kernel
theorem dL_law_606 : decode mL_law.2.1 606 = .ok (.invokevirtual 151, 3) := by decide +kernel
theorem dL_law_609 : decode mL_law.2.1 609 = .ok (.istore 6, 2) := by decide +kernel
theorem dL_law_611 : decode mL_law.2.1 611 = .ok (.aload_n 2, 1) := by decide +kernel
theorem dL_law_612 : decode mL_law.2.1 612 = .ok (.invokevirtual 122, 3) := by decide +kernel
theorem dL_law_615 : decode mL_law.2.1 615 = .ok (.iload 5, 2) := by decide +kernel
theorem dL_law_617 : decode mL_law.2.1 617 = .ok (.if_icmp .eq 5, 3) := by decide +kernel
theorem dL_law_620 : decode mL_law.2.1 620 = .ok (.iconst 0, 1) := by decide +kernel
theorem dL_law_621 : decode mL_law.2.1 621 = .ok (.ireturn, 1) := by decide +kernel
theorem dL_law_622 : decode mL_law.2.1 622 = .ok (.iload 5, 2) := by decide +kernel
theorem dL_law_624 : decode mL_law.2.1 624 = .ok (.ifCond .ne 15, 3) := by decide +kernel
theorem dL_law_627 : decode mL_law.2.1 627 = .ok (.aload_n 3, 1) := by decide +kernel
theorem dL_law_628 : decode mL_law.2.1 628 = .ok (.iconst 0, 1) := by decide +kernel
theorem dL_law_629 : decode mL_law.2.1 629 = .ok (.laload, 1) := by decide +kernel
theorem dL_law_630 : decode mL_law.2.1 630 = .ok (.iload 6, 2) := by decide +kernel
theorem dL_law_632 : decode mL_law.2.1 632 = .ok (.i2l, 1) := by decide +kernel
theorem dL_law_633 : decode mL_law.2.1 633 = .ok (.lcmp, 1) := by decide +kernel
theorem dL_law_634 : decode mL_law.2.1 634 = .ok (.ifCond .eq 5, 3) := by decide +kernel
theorem dL_law_637 : decode mL_law.2.1 637 = .ok (.iconst 0, 1) := by decide +kernel
theorem dL_law_638 : decode mL_law.2.1 638 = .ok (.ireturn, 1) := by decide +kernel
theorem dL_law_639 : decode mL_law.2.1 639 = .ok (.goto 1457, 3) := by decide +kernel
theorem dL_law_642 : decode mL_law.2.1 642 = .ok (.aload_n 1, 1) := by decide +kernel
theorem dL_law_643 : decode mL_law.2.1 643 = .ok (.aload_n 0, 1) := by decide +kernel
theorem dL_law_644 : decode mL_law.2.1 644 = .ok (.iload 4, 2) := by decide +kernel
theorem dL_law_646 : decode mL_law.2.1 646 = .ok (.iconst 1, 1) := by decide +kernel
theorem dL_law_647 : decode mL_law.2.1 647 = .ok (.iadd, 1) := by decide +kernel
theorem dL_law_648 : decode mL_law.2.1 648 = .ok (.iaload, 1) := by decide +kernel
theorem dL_law_649 : decode mL_law.2.1 649 = .ok (.aload_n 3, 1) := by decide +kernel
theorem dL_law_650 : decode mL_law.2.1 650 = .ok (.invokestatic 152, 3) := by decide +kernel
theorem dL_law_653 : decode mL_law.2.1 653 = .ok (.istore 5, 2) := by decide +kernel
theorem dL_law_655 : decode mL_law.2.1 655 = .ok (.aload_n 2, 1) := by decide +kernel
theorem dL_law_656 : decode mL_law.2.1 656 = .ok (.aload_n 0, 1) := by decide +kernel
theorem dL_law_657 : decode mL_law.2.1 657 = .ok (.iload 4, 2) := by decide +kernel
theorem dL_law_659 : decode mL_law.2.1 659 = .ok (.iconst 1, 1) := by decide +kernel
theorem dL_law_660 : decode mL_law.2.1 660 = .ok (.iadd, 1) := by decide +kernel
theorem dL_law_661 : decode mL_law.2.1 661 = .ok (.iaload, 1) := by decide +kernel
theorem dL_law_662 : decode mL_law.2.1 662 = .ok (.invokevirtual 154, 3) := by decide +kernel
theorem dL_law_665 : decode mL_law.2.1 665 = .ok (.istore 6, 2) := by decide +kernel
theorem dL_law_667 : decode mL_law.2.1 667 = .ok (.aload_n 2, 1) := by decide +kernel
theorem dL_law_668 : decode mL_law.2.1 668 = .ok (.invokevirtual 122, 3) := by decide +kernel
theorem dL_law_671 : decode mL_law.2.1 671 = .ok (.iload 5, 2) := by decide +kernel
theorem dL_law_673 : decode mL_law.2.1 673 = .ok (.if_icmp .eq 5, 3) := by decide +kernel
theorem dL_law_676 : decode mL_law.2.1 676 = .ok (.iconst 0, 1) := by decide +kernel
theorem dL_law_677 : decode mL_law.2.1 677 = .ok (.ireturn, 1) := by decide +kernel
theorem dL_law_678 : decode mL_law.2.1 678 = .ok (.iload 5, 2) := by decide +kernel
theorem dL_law_680 : decode mL_law.2.1 680 = .ok (.ifCond .ne 15, 3) := by decide +kernel
theorem dL_law_683 : decode mL_law.2.1 683 = .ok (.aload_n 3, 1) := by decide +kernel
theorem dL_law_684 : decode mL_law.2.1 684 = .ok (.iconst 0, 1) := by decide +kernel
theorem dL_law_685 : decode mL_law.2.1 685 = .ok (.laload, 1) := by decide +kernel
theorem dL_law_686 : decode mL_law.2.1 686 = .ok (.iload 6, 2) := by decide +kernel
theorem dL_law_688 : decode mL_law.2.1 688 = .ok (.i2l, 1) := by decide +kernel
theorem dL_law_689 : decode mL_law.2.1 689 = .ok (.lcmp, 1) := by decide +kernel
theorem dL_law_690 : decode mL_law.2.1 690 = .ok (.ifCond .eq 5, 3) := by decide +kernel
theorem dL_law_693 : decode mL_law.2.1 693 = .ok (.iconst 0, 1) := by decide +kernel
theorem dL_law_694 : decode mL_law.2.1 694 = .ok (.ireturn, 1) := by decide +kernel
theorem dL_law_695 : decode mL_law.2.1 695 = .ok (.goto 1401, 3) := by decide +kernel
theorem dL_law_698 : decode mL_law.2.1 698 = .ok (.aload_n 1, 1) := by decide +kernel
theorem dL_law_699 : decode mL_law.2.1 699 = .ok (.invokevirtual 155, 3) := by decide +kernel
theorem dL_law_702 : decode mL_law.2.1 702 = .ok (.aload_n 2, 1) := by decide +kernel
theorem dL_law_703 : decode mL_law.2.1 703 = .ok (.invokevirtual 158, 3) := by decide +kernel
theorem dL_law_706 : decode mL_law.2.1 706 = .ok (.if_icmp .eq 1390, 3) := by decide +kernel
theorem dL_law_709 : decode mL_law.2.1 709 = .ok (.iconst 0, 1) := by decide +kernel
theorem dL_law_710 : decode mL_law.2.1 710 = .ok (.ireturn, 1) := by decide +kernel
theorem dL_law_711 : decode mL_law.2.1 711 = .ok (.aload_n 1, 1) := by decide +kernel
theorem dL_law_712 : decode mL_law.2.1 712 = .ok (.invokevirtual 159, 3) := by decide +kernel
theorem dL_law_715 : decode mL_law.2.1 715 = .ok (.aload_n 2, 1) := by decide +kernel
theorem dL_law_716 : decode mL_law.2.1 716 = .ok (.invokevirtual 162, 3) := by decide +kernel
theorem dL_law_719 : decode mL_law.2.1 719 = .ok (.if_icmp .eq 1377, 3) := by decide +kernel
theorem dL_law_722 : decode mL_law.2.1 722 = .ok (.iconst 0, 1) := by decide +kernel
theorem dL_law_723 : decode mL_law.2.1 723 = .ok (.ireturn, 1) := by decide +kernel
theorem dL_law_724 : decode mL_law.2.1 724 = .ok (.aload_n 1, 1) := by decide +kernel
theorem dL_law_725 : decode mL_law.2.1 725 = .ok (.invokevirtual 163, 3) := by decide +kernel
theorem dL_law_728 : decode mL_law.2.1 728 = .ok (.aload_n 2, 1) := by decide +kernel
theorem dL_law_729 : decode mL_law.2.1 729 = .ok (.invokevirtual 166, 3) := by decide +kernel
theorem dL_law_732 : decode mL_law.2.1 732 = .ok (.lcmp, 1) := by decide +kernel
theorem dL_law_733 : decode mL_law.2.1 733 = .ok (.ifCond .eq 1363, 3) := by decide +kernel
theorem dL_law_736 : decode mL_law.2.1 736 = .ok (.iconst 0, 1) := by decide +kernel
theorem dL_law_737 : decode mL_law.2.1 737 = .ok (.ireturn, 1) := by decide +kernel
theorem dL_law_738 : decode mL_law.2.1 738 = .ok (.aload_n 1, 1) := by decide +kernel
theorem dL_law_739 : decode mL_law.2.1 739 = .ok (.aload_n 3, 1) := by decide +kernel
theorem dL_law_740 : decode mL_law.2.1 740 = .ok (.invokestatic 167, 3) := by decide +kernel
theorem dL_law_743 : decode mL_law.2.1 743 = .ok (.istore 5, 2) := by decide +kernel
theorem dL_law_745 : decode mL_law.2.1 745 = .ok (.aload_n 2, 1) := by decide +kernel
theorem dL_law_746 : decode mL_law.2.1 746 = .ok (.invokevirtual 169, 3) := by decide +kernel
theorem dL_law_749 : decode mL_law.2.1 749 = .ok (.istore 6, 2) := by decide +kernel
theorem dL_law_751 : decode mL_law.2.1 751 = .ok (.aload_n 2, 1) := by decide +kernel
theorem dL_law_752 : decode mL_law.2.1 752 = .ok (.invokevirtual 122, 3) := by decide +kernel
theorem dL_law_755 : decode mL_law.2.1 755 = .ok (.iload 5, 2) := by decide +kernel
theorem dL_law_757 : decode mL_law.2.1 757 = .ok (.if_icmp .eq 5, 3) := by decide +kernel
theorem dL_law_760 : decode mL_law.2.1 760 = .ok (.iconst 0, 1) := by decide +kernel
theorem dL_law_761 : decode mL_law.2.1 761 = .ok (.ireturn, 1) := by decide +kernel
theorem dL_law_762 : decode mL_law.2.1 762 = .ok (.iload 5, 2) := by decide +kernel
theorem dL_law_764 : decode mL_law.2.1 764 = .ok (.ifCond .ne 15, 3) := by decide +kernel
theorem dL_law_767 : decode mL_law.2.1 767 = .ok (.aload_n 3, 1) := by decide +kernel
theorem dL_law_768 : decode mL_law.2.1 768 = .ok (.iconst 0, 1) := by decide +kernel
theorem dL_law_769 : decode mL_law.2.1 769 = .ok (.laload, 1) := by decide +kernel
theorem dL_law_770 : decode mL_law.2.1 770 = .ok (.iload 6, 2) := by decide +kernel
theorem dL_law_772 : decode mL_law.2.1 772 = .ok (.i2l, 1) := by decide +kernel
theorem dL_law_773 : decode mL_law.2.1 773 = .ok (.lcmp, 1) := by decide +kernel
theorem dL_law_774 : decode mL_law.2.1 774 = .ok (.ifCond .eq 5, 3) := by decide +kernel
theorem dL_law_777 : decode mL_law.2.1 777 = .ok (.iconst 0, 1) := by decide +kernel
theorem dL_law_778 : decode mL_law.2.1 778 = .ok (.ireturn, 1) := by decide +kernel
theorem dL_law_779 : decode mL_law.2.1 779 = .ok (.goto 1317, 3) := by decide +kernel
theorem dL_law_782 : decode mL_law.2.1 782 = .ok (.aload_n 1, 1) := by decide +kernel
theorem dL_law_783 : decode mL_law.2.1 783 = .ok (.aload_n 0, 1) := by decide +kernel
theorem dL_law_784 : decode mL_law.2.1 784 = .ok (.iload 4, 2) := by decide +kernel
theorem dL_law_786 : decode mL_law.2.1 786 = .ok (.iconst 1, 1) := by decide +kernel
theorem dL_law_787 : decode mL_law.2.1 787 = .ok (.iadd, 1) := by decide +kernel
theorem dL_law_788 : decode mL_law.2.1 788 = .ok (.iaload, 1) := by decide +kernel
theorem dL_law_789 : decode mL_law.2.1 789 = .ok (.aload_n 0, 1) := by decide +kernel
theorem dL_law_790 : decode mL_law.2.1 790 = .ok (.iload 4, 2) := by decide +kernel
theorem dL_law_792 : decode mL_law.2.1 792 = .ok (.iconst 2, 1) := by decide +kernel
theorem dL_law_793 : decode mL_law.2.1 793 = .ok (.iadd, 1) := by decide +kernel
theorem dL_law_794 : decode mL_law.2.1 794 = .ok (.iaload, 1) := by decide +kernel
theorem dL_law_795 : decode mL_law.2.1 795 = .ok (.aload_n 0, 1) := by decide +kernel
theorem dL_law_796 : decode mL_law.2.1 796 = .ok (.iload 4, 2) := by decide +kernel
theorem dL_law_798 : decode mL_law.2.1 798 = .ok (.iconst 3, 1) := by decide +kernel
theorem dL_law_799 : decode mL_law.2.1 799 = .ok (.iadd, 1) := by decide +kernel
theorem dL_law_800 : decode mL_law.2.1 800 = .ok (.iaload, 1) := by decide +kernel
theorem dL_law_801 : decode mL_law.2.1 801 = .ok (.aload_n 3, 1) := by decide +kernel
theorem dL_law_802 : decode mL_law.2.1 802 = .ok (.invokestatic 170, 3) := by decide +kernel
theorem dL_law_805 : decode mL_law.2.1 805 = .ok (.istore 5, 2) := by decide +kernel
theorem dL_law_807 : decode mL_law.2.1 807 = .ok (.aload_n 2, 1) := by decide +kernel
theorem dL_law_808 : decode mL_law.2.1 808 = .ok (.aload_n 0, 1) := by decide +kernel
theorem dL_law_809 : decode mL_law.2.1 809 = .ok (.iload 4, 2) := by decide +kernel
theorem dL_law_811 : decode mL_law.2.1 811 = .ok (.iconst 1, 1) := by decide +kernel
theorem dL_law_812 : decode mL_law.2.1 812 = .ok (.iadd, 1) := by decide +kernel
theorem dL_law_813 : decode mL_law.2.1 813 = .ok (.iaload, 1) := by decide +kernel
theorem dL_law_814 : decode mL_law.2.1 814 = .ok (.aload_n 0, 1) := by decide +kernel
theorem dL_law_815 : decode mL_law.2.1 815 = .ok (.iload 4, 2) := by decide +kernel
theorem dL_law_817 : decode mL_law.2.1 817 = .ok (.iconst 2, 1) := by decide +kernel
theorem dL_law_818 : decode mL_law.2.1 818 = .ok (.iadd, 1) := by decide +kernel
theorem dL_law_819 : decode mL_law.2.1 819 = .ok (.iaload, 1) := by decide +kernel
theorem dL_law_820 : decode mL_law.2.1 820 = .ok (.aload_n 0, 1) := by decide +kernel
theorem dL_law_821 : decode mL_law.2.1 821 = .ok (.iload 4, 2) := by decide +kernel
theorem dL_law_823 : decode mL_law.2.1 823 = .ok (.iconst 3, 1) := by decide +kernel
theorem dL_law_824 : decode mL_law.2.1 824 = .ok (.iadd, 1) := by decide +kernel
theorem dL_law_825 : decode mL_law.2.1 825 = .ok (.iaload, 1) := by decide +kernel
theorem dL_law_826 : decode mL_law.2.1 826 = .ok (.invokevirtual 173, 3) := by decide +kernel
theorem dL_law_829 : decode mL_law.2.1 829 = .ok (.istore 6, 2) := by decide +kernel
theorem dL_law_831 : decode mL_law.2.1 831 = .ok (.aload_n 2, 1) := by decide +kernel
theorem dL_law_832 : decode mL_law.2.1 832 = .ok (.invokevirtual 122, 3) := by decide +kernel
theorem dL_law_835 : decode mL_law.2.1 835 = .ok (.iload 5, 2) := by decide +kernel
theorem dL_law_837 : decode mL_law.2.1 837 = .ok (.if_icmp .eq 5, 3) := by decide +kernel
theorem dL_law_840 : decode mL_law.2.1 840 = .ok (.iconst 0, 1) := by decide +kernel
theorem dL_law_841 : decode mL_law.2.1 841 = .ok (.ireturn, 1) := by decide +kernel
theorem dL_law_842 : decode mL_law.2.1 842 = .ok (.iload 5, 2) := by decide +kernel
theorem dL_law_844 : decode mL_law.2.1 844 = .ok (.ifCond .ne 15, 3) := by decide +kernel
theorem dL_law_847 : decode mL_law.2.1 847 = .ok (.aload_n 3, 1) := by decide +kernel
theorem dL_law_848 : decode mL_law.2.1 848 = .ok (.iconst 0, 1) := by decide +kernel
theorem dL_law_849 : decode mL_law.2.1 849 = .ok (.laload, 1) := by decide +kernel
theorem dL_law_850 : decode mL_law.2.1 850 = .ok (.iload 6, 2) := by decide +kernel
theorem dL_law_852 : decode mL_law.2.1 852 = .ok (.i2l, 1) := by decide +kernel
theorem dL_law_853 : decode mL_law.2.1 853 = .ok (.lcmp, 1) := by decide +kernel
theorem dL_law_854 : decode mL_law.2.1 854 = .ok (.ifCond .eq 5, 3) := by decide +kernel
theorem dL_law_857 : decode mL_law.2.1 857 = .ok (.iconst 0, 1) := by decide +kernel
theorem dL_law_858 : decode mL_law.2.1 858 = .ok (.ireturn, 1) := by decide +kernel
theorem dL_law_859 : decode mL_law.2.1 859 = .ok (.goto 1237, 3) := by decide +kernel
theorem dL_law_862 : decode mL_law.2.1 862 = .ok (.aload_n 1, 1) := by decide +kernel
theorem dL_law_863 : decode mL_law.2.1 863 = .ok (.aload_n 0, 1) := by decide +kernel
theorem dL_law_864 : decode mL_law.2.1 864 = .ok (.iload 4, 2) := by decide +kernel
theorem dL_law_866 : decode mL_law.2.1 866 = .ok (.iconst 1, 1) := by decide +kernel
theorem dL_law_867 : decode mL_law.2.1 867 = .ok (.iadd, 1) := by decide +kernel
theorem dL_law_868 : decode mL_law.2.1 868 = .ok (.iaload, 1) := by decide +kernel
theorem dL_law_869 : decode mL_law.2.1 869 = .ok (.aload_n 3, 1) := by decide +kernel
theorem dL_law_870 : decode mL_law.2.1 870 = .ok (.invokestatic 174, 3) := by decide +kernel
theorem dL_law_873 : decode mL_law.2.1 873 = .ok (.istore 5, 2) := by decide +kernel
theorem dL_law_875 : decode mL_law.2.1 875 = .ok (.aload_n 2, 1) := by decide +kernel
theorem dL_law_876 : decode mL_law.2.1 876 = .ok (.aload_n 0, 1) := by decide +kernel
theorem dL_law_877 : decode mL_law.2.1 877 = .ok (.iload 4, 2) := by decide +kernel
theorem dL_law_879 : decode mL_law.2.1 879 = .ok (.iconst 1, 1) := by decide +kernel
theorem dL_law_880 : decode mL_law.2.1 880 = .ok (.iadd, 1) := by decide +kernel
theorem dL_law_881 : decode mL_law.2.1 881 = .ok (.iaload, 1) := by decide +kernel
theorem dL_law_882 : decode mL_law.2.1 882 = .ok (.invokevirtual 176, 3) := by decide +kernel
theorem dL_law_885 : decode mL_law.2.1 885 = .ok (.istore 6, 2) := by decide +kernel
theorem dL_law_887 : decode mL_law.2.1 887 = .ok (.aload_n 2, 1) := by decide +kernel
theorem dL_law_888 : decode mL_law.2.1 888 = .ok (.invokevirtual 122, 3) := by decide +kernel
theorem dL_law_891 : decode mL_law.2.1 891 = .ok (.iload 5, 2) := by decide +kernel
theorem dL_law_893 : decode mL_law.2.1 893 = .ok (.if_icmp .eq 5, 3) := by decide +kernel
theorem dL_law_896 : decode mL_law.2.1 896 = .ok (.iconst 0, 1) := by decide +kernel
theorem dL_law_897 : decode mL_law.2.1 897 = .ok (.ireturn, 1) := by decide +kernel
theorem dL_law_898 : decode mL_law.2.1 898 = .ok (.iload 5, 2) := by decide +kernel
theorem dL_law_900 : decode mL_law.2.1 900 = .ok (.ifCond .ne 15, 3) := by decide +kernel
theorem dL_law_903 : decode mL_law.2.1 903 = .ok (.aload_n 3, 1) := by decide +kernel
theorem dL_law_904 : decode mL_law.2.1 904 = .ok (.iconst 0, 1) := by decide +kernel
theorem dL_law_905 : decode mL_law.2.1 905 = .ok (.laload, 1) := by decide +kernel
theorem dL_law_906 : decode mL_law.2.1 906 = .ok (.iload 6, 2) := by decide +kernel
theorem dL_law_908 : decode mL_law.2.1 908 = .ok (.i2l, 1) := by decide +kernel
theorem dL_law_909 : decode mL_law.2.1 909 = .ok (.lcmp, 1) := by decide +kernel
theorem dL_law_910 : decode mL_law.2.1 910 = .ok (.ifCond .eq 5, 3) := by decide +kernel
theorem dL_law_913 : decode mL_law.2.1 913 = .ok (.iconst 0, 1) := by decide +kernel
theorem dL_law_914 : decode mL_law.2.1 914 = .ok (.ireturn, 1) := by decide +kernel
theorem dL_law_915 : decode mL_law.2.1 915 = .ok (.goto 1181, 3) := by decide +kernel
theorem dL_law_918 : decode mL_law.2.1 918 = .ok (.aload_n 1, 1) := by decide +kernel
theorem dL_law_919 : decode mL_law.2.1 919 = .ok (.aload_n 0, 1) := by decide +kernel
theorem dL_law_920 : decode mL_law.2.1 920 = .ok (.iload 4, 2) := by decide +kernel
theorem dL_law_922 : decode mL_law.2.1 922 = .ok (.iconst 1, 1) := by decide +kernel
theorem dL_law_923 : decode mL_law.2.1 923 = .ok (.iadd, 1) := by decide +kernel
theorem dL_law_924 : decode mL_law.2.1 924 = .ok (.iaload, 1) := by decide +kernel
theorem dL_law_925 : decode mL_law.2.1 925 = .ok (.aload_n 3, 1) := by decide +kernel
theorem dL_law_926 : decode mL_law.2.1 926 = .ok (.invokestatic 177, 3) := by decide +kernel
theorem dL_law_929 : decode mL_law.2.1 929 = .ok (.istore 5, 2) := by decide +kernel
theorem dL_law_931 : decode mL_law.2.1 931 = .ok (.aload_n 2, 1) := by decide +kernel
theorem dL_law_932 : decode mL_law.2.1 932 = .ok (.aload_n 0, 1) := by decide +kernel
theorem dL_law_933 : decode mL_law.2.1 933 = .ok (.iload 4, 2) := by decide +kernel
theorem dL_law_935 : decode mL_law.2.1 935 = .ok (.iconst 1, 1) := by decide +kernel
theorem dL_law_936 : decode mL_law.2.1 936 = .ok (.iadd, 1) := by decide +kernel
theorem dL_law_937 : decode mL_law.2.1 937 = .ok (.iaload, 1) := by decide +kernel
theorem dL_law_938 : decode mL_law.2.1 938 = .ok (.invokevirtual 179, 3) := by decide +kernel
theorem dL_law_941 : decode mL_law.2.1 941 = .ok (.istore 6, 2) := by decide +kernel
theorem dL_law_943 : decode mL_law.2.1 943 = .ok (.aload_n 2, 1) := by decide +kernel
theorem dL_law_944 : decode mL_law.2.1 944 = .ok (.invokevirtual 122, 3) := by decide +kernel
theorem dL_law_947 : decode mL_law.2.1 947 = .ok (.iload 5, 2) := by decide +kernel
theorem dL_law_949 : decode mL_law.2.1 949 = .ok (.if_icmp .eq 5, 3) := by decide +kernel
theorem dL_law_952 : decode mL_law.2.1 952 = .ok (.iconst 0, 1) := by decide +kernel
theorem dL_law_953 : decode mL_law.2.1 953 = .ok (.ireturn, 1) := by decide +kernel
theorem dL_law_954 : decode mL_law.2.1 954 = .ok (.iload 5, 2) := by decide +kernel
theorem dL_law_956 : decode mL_law.2.1 956 = .ok (.ifCond .ne 15, 3) := by decide +kernel
theorem dL_law_959 : decode mL_law.2.1 959 = .ok (.aload_n 3, 1) := by decide +kernel
theorem dL_law_960 : decode mL_law.2.1 960 = .ok (.iconst 0, 1) := by decide +kernel
theorem dL_law_961 : decode mL_law.2.1 961 = .ok (.laload, 1) := by decide +kernel
theorem dL_law_962 : decode mL_law.2.1 962 = .ok (.iload 6, 2) := by decide +kernel
theorem dL_law_964 : decode mL_law.2.1 964 = .ok (.i2l, 1) := by decide +kernel
theorem dL_law_965 : decode mL_law.2.1 965 = .ok (.lcmp, 1) := by decide +kernel
theorem dL_law_966 : decode mL_law.2.1 966 = .ok (.ifCond .eq 5, 3) := by decide +kernel
theorem dL_law_969 : decode mL_law.2.1 969 = .ok (.iconst 0, 1) := by decide +kernel
theorem dL_law_970 : decode mL_law.2.1 970 = .ok (.ireturn, 1) := by decide +kernel
theorem dL_law_971 : decode mL_law.2.1 971 = .ok (.goto 1125, 3) := by decide +kernel
theorem dL_law_974 : decode mL_law.2.1 974 = .ok (.aload_n 1, 1) := by decide +kernel
theorem dL_law_975 : decode mL_law.2.1 975 = .ok (.aload_n 0, 1) := by decide +kernel
theorem dL_law_976 : decode mL_law.2.1 976 = .ok (.iload 4, 2) := by decide +kernel
theorem dL_law_978 : decode mL_law.2.1 978 = .ok (.iconst 1, 1) := by decide +kernel
theorem dL_law_979 : decode mL_law.2.1 979 = .ok (.iadd, 1) := by decide +kernel
theorem dL_law_980 : decode mL_law.2.1 980 = .ok (.iaload, 1) := by decide +kernel
theorem dL_law_981 : decode mL_law.2.1 981 = .ok (.aload_n 0, 1) := by decide +kernel
theorem dL_law_982 : decode mL_law.2.1 982 = .ok (.iload 4, 2) := by decide +kernel
theorem dL_law_984 : decode mL_law.2.1 984 = .ok (.iconst 2, 1) := by decide +kernel
theorem dL_law_985 : decode mL_law.2.1 985 = .ok (.iadd, 1) := by decide +kernel
theorem dL_law_986 : decode mL_law.2.1 986 = .ok (.iaload, 1) := by decide +kernel
theorem dL_law_987 : decode mL_law.2.1 987 = .ok (.aload_n 3, 1) := by decide +kernel
theorem dL_law_988 : decode mL_law.2.1 988 = .ok (.invokestatic 180, 3) := by decide +kernel
theorem dL_law_991 : decode mL_law.2.1 991 = .ok (.istore 5, 2) := by decide +kernel
theorem dL_law_993 : decode mL_law.2.1 993 = .ok (.aload_n 2, 1) := by decide +kernel
theorem dL_law_994 : decode mL_law.2.1 994 = .ok (.aload_n 0, 1) := by decide +kernel
theorem dL_law_995 : decode mL_law.2.1 995 = .ok (.iload 4, 2) := by decide +kernel
theorem dL_law_997 : decode mL_law.2.1 997 = .ok (.iconst 1, 1) := by decide +kernel
theorem dL_law_998 : decode mL_law.2.1 998 = .ok (.iadd, 1) := by decide +kernel
theorem dL_law_999 : decode mL_law.2.1 999 = .ok (.iaload, 1) := by decide +kernel
theorem dL_law_1000 : decode mL_law.2.1 1000 = .ok (.aload_n 0, 1) := by decide +kernel
theorem dL_law_1001 : decode mL_law.2.1 1001 = .ok (.iload 4, 2) := by decide +kernel
theorem dL_law_1003 : decode mL_law.2.1 1003 = .ok (.iconst 2, 1) := by decide +kernel
theorem dL_law_1004 : decode mL_law.2.1 1004 = .ok (.iadd, 1) := by decide +kernel
theorem dL_law_1005 : decode mL_law.2.1 1005 = .ok (.iaload, 1) := by decide +kernel
theorem dL_law_1006 : decode mL_law.2.1 1006 = .ok (.invokevirtual 182, 3) := by decide +kernel
theorem dL_law_1009 : decode mL_law.2.1 1009 = .ok (.istore 6, 2) := by decide +kernel
theorem dL_law_1011 : decode mL_law.2.1 1011 = .ok (.aload_n 2, 1) := by decide +kernel
theorem dL_law_1012 : decode mL_law.2.1 1012 = .ok (.invokevirtual 122, 3) := by decide +kernel
theorem dL_law_1015 : decode mL_law.2.1 1015 = .ok (.iload 5, 2) := by decide +kernel
theorem dL_law_1017 : decode mL_law.2.1 1017 = .ok (.if_icmp .eq 5, 3) := by decide +kernel
theorem dL_law_1020 : decode mL_law.2.1 1020 = .ok (.iconst 0, 1) := by decide +kernel
theorem dL_law_1021 : decode mL_law.2.1 1021 = .ok (.ireturn, 1) := by decide +kernel
theorem dL_law_1022 : decode mL_law.2.1 1022 = .ok (.iload 5, 2) := by decide +kernel
theorem dL_law_1024 : decode mL_law.2.1 1024 = .ok (.ifCond .ne 15, 3) := by decide +kernel
theorem dL_law_1027 : decode mL_law.2.1 1027 = .ok (.aload_n 3, 1) := by decide +kernel
theorem dL_law_1028 : decode mL_law.2.1 1028 = .ok (.iconst 0, 1) := by decide +kernel
theorem dL_law_1029 : decode mL_law.2.1 1029 = .ok (.laload, 1) := by decide +kernel
theorem dL_law_1030 : decode mL_law.2.1 1030 = .ok (.iload 6, 2) := by decide +kernel
theorem dL_law_1032 : decode mL_law.2.1 1032 = .ok (.i2l, 1) := by decide +kernel
theorem dL_law_1033 : decode mL_law.2.1 1033 = .ok (.lcmp, 1) := by decide +kernel
theorem dL_law_1034 : decode mL_law.2.1 1034 = .ok (.ifCond .eq 5, 3) := by decide +kernel
theorem dL_law_1037 : decode mL_law.2.1 1037 = .ok (.iconst 0, 1) := by decide +kernel
theorem dL_law_1038 : decode mL_law.2.1 1038 = .ok (.ireturn, 1) := by decide +kernel
theorem dL_law_1039 : decode mL_law.2.1 1039 = .ok (.goto 1057, 3) := by decide +kernel
theorem dL_law_1042 : decode mL_law.2.1 1042 = .ok (.aload_n 1, 1) := by decide +kernel
theorem dL_law_1043 : decode mL_law.2.1 1043 = .ok (.aload_n 0, 1) := by decide +kernel
theorem dL_law_1044 : decode mL_law.2.1 1044 = .ok (.iload 4, 2) := by decide +kernel
theorem dL_law_1046 : decode mL_law.2.1 1046 = .ok (.iconst 1, 1) := by decide +kernel
theorem dL_law_1047 : decode mL_law.2.1 1047 = .ok (.iadd, 1) := by decide +kernel
theorem dL_law_1048 : decode mL_law.2.1 1048 = .ok (.iaload, 1) := by decide +kernel
theorem dL_law_1049 : decode mL_law.2.1 1049 = .ok (.aload_n 0, 1) := by decide +kernel
theorem dL_law_1050 : decode mL_law.2.1 1050 = .ok (.iload 4, 2) := by decide +kernel
theorem dL_law_1052 : decode mL_law.2.1 1052 = .ok (.iconst 2, 1) := by decide +kernel
theorem dL_law_1053 : decode mL_law.2.1 1053 = .ok (.iadd, 1) := by decide +kernel
theorem dL_law_1054 : decode mL_law.2.1 1054 = .ok (.iaload, 1) := by decide +kernel
theorem dL_law_1055 : decode mL_law.2.1 1055 = .ok (.ifCond .eq 7, 3) := by decide +kernel
theorem dL_law_1058 : decode mL_law.2.1 1058 = .ok (.iconst 1, 1) := by decide +kernel
theorem dL_law_1059 : decode mL_law.2.1 1059 = .ok (.goto 4, 3) := by decide +kernel
theorem dL_law_1062 : decode mL_law.2.1 1062 = .ok (.iconst 0, 1) := by decide +kernel
theorem dL_law_1063 : decode mL_law.2.1 1063 = .ok (.aload_n 3, 1) := by decide +kernel
theorem dL_law_1064 : decode mL_law.2.1 1064 = .ok (.invokestatic 183, 3) := by decide +kernel
theorem dL_law_1067 : decode mL_law.2.1 1067 = .ok (.istore 5, 2) := by decide +kernel
theorem dL_law_1069 : decode mL_law.2.1 1069 = .ok (.aload_n 2, 1) := by decide +kernel
theorem dL_law_1070 : decode mL_law.2.1 1070 = .ok (.aload_n 0, 1) := by decide +kernel
theorem dL_law_1071 : decode mL_law.2.1 1071 = .ok (.iload 4, 2) := by decide +kernel
theorem dL_law_1073 : decode mL_law.2.1 1073 = .ok (.iconst 1, 1) := by decide +kernel
theorem dL_law_1074 : decode mL_law.2.1 1074 = .ok (.iadd, 1) := by decide +kernel
theorem dL_law_1075 : decode mL_law.2.1 1075 = .ok (.iaload, 1) := by decide +kernel
theorem dL_law_1076 : decode mL_law.2.1 1076 = .ok (.aload_n 0, 1) := by decide +kernel
theorem dL_law_1077 : decode mL_law.2.1 1077 = .ok (.iload 4, 2) := by decide +kernel
theorem dL_law_1079 : decode mL_law.2.1 1079 = .ok (.iconst 2, 1) := by decide +kernel
theorem dL_law_1080 : decode mL_law.2.1 1080 = .ok (.iadd, 1) := by decide +kernel
theorem dL_law_1081 : decode mL_law.2.1 1081 = .ok (.iaload, 1) := by decide +kernel
theorem dL_law_1082 : decode mL_law.2.1 1082 = .ok (.ifCond .eq 7, 3) := by decide +kernel
theorem dL_law_1085 : decode mL_law.2.1 1085 = .ok (.iconst 1, 1) := by decide +kernel
theorem dL_law_1086 : decode mL_law.2.1 1086 = .ok (.goto 4, 3) := by decide +kernel
theorem dL_law_1089 : decode mL_law.2.1 1089 = .ok (.iconst 0, 1) := by decide +kernel
theorem dL_law_1090 : decode mL_law.2.1 1090 = .ok (.invokevirtual 186, 3) := by decide +kernel
theorem dL_law_1093 : decode mL_law.2.1 1093 = .ok (.istore 6, 2) := by decide +kernel
theorem dL_law_1095 : decode mL_law.2.1 1095 = .ok (.aload_n 2, 1) := by decide +kernel
theorem dL_law_1096 : decode mL_law.2.1 1096 = .ok (.invokevirtual 122, 3) := by decide +kernel
theorem dL_law_1099 : decode mL_law.2.1 1099 = .ok (.iload 5, 2) := by decide +kernel
theorem dL_law_1101 : decode mL_law.2.1 1101 = .ok (.if_icmp .eq 5, 3) := by decide +kernel
theorem dL_law_1104 : decode mL_law.2.1 1104 = .ok (.iconst 0, 1) := by decide +kernel
theorem dL_law_1105 : decode mL_law.2.1 1105 = .ok (.ireturn, 1) := by decide +kernel
theorem dL_law_1106 : decode mL_law.2.1 1106 = .ok (.iload 5, 2) := by decide +kernel
theorem dL_law_1108 : decode mL_law.2.1 1108 = .ok (.ifCond .ne 15, 3) := by decide +kernel
theorem dL_law_1111 : decode mL_law.2.1 1111 = .ok (.aload_n 3, 1) := by decide +kernel
theorem dL_law_1112 : decode mL_law.2.1 1112 = .ok (.iconst 0, 1) := by decide +kernel
theorem dL_law_1113 : decode mL_law.2.1 1113 = .ok (.laload, 1) := by decide +kernel
theorem dL_law_1114 : decode mL_law.2.1 1114 = .ok (.iload 6, 2) := by decide +kernel
theorem dL_law_1116 : decode mL_law.2.1 1116 = .ok (.i2l, 1) := by decide +kernel
theorem dL_law_1117 : decode mL_law.2.1 1117 = .ok (.lcmp, 1) := by decide +kernel
theorem dL_law_1118 : decode mL_law.2.1 1118 = .ok (.ifCond .eq 5, 3) := by decide +kernel
theorem dL_law_1121 : decode mL_law.2.1 1121 = .ok (.iconst 0, 1) := by decide +kernel
theorem dL_law_1122 : decode mL_law.2.1 1122 = .ok (.ireturn, 1) := by decide +kernel
theorem dL_law_1123 : decode mL_law.2.1 1123 = .ok (.goto 973, 3) := by decide +kernel
theorem dL_law_1126 : decode mL_law.2.1 1126 = .ok (.aload_n 1, 1) := by decide +kernel
theorem dL_law_1127 : decode mL_law.2.1 1127 = .ok (.aload_n 0, 1) := by decide +kernel
theorem dL_law_1128 : decode mL_law.2.1 1128 = .ok (.iload 4, 2) := by decide +kernel
theorem dL_law_1130 : decode mL_law.2.1 1130 = .ok (.iconst 1, 1) := by decide +kernel
theorem dL_law_1131 : decode mL_law.2.1 1131 = .ok (.iadd, 1) := by decide +kernel
theorem dL_law_1132 : decode mL_law.2.1 1132 = .ok (.iaload, 1) := by decide +kernel
theorem dL_law_1133 : decode mL_law.2.1 1133 = .ok (.aload_n 0, 1) := by decide +kernel
theorem dL_law_1134 : decode mL_law.2.1 1134 = .ok (.iload 4, 2) := by decide +kernel
theorem dL_law_1136 : decode mL_law.2.1 1136 = .ok (.iconst 2, 1) := by decide +kernel
theorem dL_law_1137 : decode mL_law.2.1 1137 = .ok (.iadd, 1) := by decide +kernel
theorem dL_law_1138 : decode mL_law.2.1 1138 = .ok (.iaload, 1) := by decide +kernel
theorem dL_law_1139 : decode mL_law.2.1 1139 = .ok (.aload_n 3, 1) := by decide +kernel
theorem dL_law_1140 : decode mL_law.2.1 1140 = .ok (.invokestatic 187, 3) := by decide +kernel
theorem dL_law_1143 : decode mL_law.2.1 1143 = .ok (.istore 5, 2) := by decide +kernel
theorem dL_law_1145 : decode mL_law.2.1 1145 = .ok (.aload_n 2, 1) := by decide +kernel
theorem dL_law_1146 : decode mL_law.2.1 1146 = .ok (.aload_n 0, 1) := by decide +kernel
theorem dL_law_1147 : decode mL_law.2.1 1147 = .ok (.iload 4, 2) := by decide +kernel
theorem dL_law_1149 : decode mL_law.2.1 1149 = .ok (.iconst 1, 1) := by decide +kernel
theorem dL_law_1150 : decode mL_law.2.1 1150 = .ok (.iadd, 1) := by decide +kernel
theorem dL_law_1151 : decode mL_law.2.1 1151 = .ok (.iaload, 1) := by decide +kernel
theorem dL_law_1152 : decode mL_law.2.1 1152 = .ok (.aload_n 0, 1) := by decide +kernel
theorem dL_law_1153 : decode mL_law.2.1 1153 = .ok (.iload 4, 2) := by decide +kernel
theorem dL_law_1155 : decode mL_law.2.1 1155 = .ok (.iconst 2, 1) := by decide +kernel
theorem dL_law_1156 : decode mL_law.2.1 1156 = .ok (.iadd, 1) := by decide +kernel
theorem dL_law_1157 : decode mL_law.2.1 1157 = .ok (.iaload, 1) := by decide +kernel
theorem dL_law_1158 : decode mL_law.2.1 1158 = .ok (.invokevirtual 189, 3) := by decide +kernel
theorem dL_law_1161 : decode mL_law.2.1 1161 = .ok (.istore 6, 2) := by decide +kernel
theorem dL_law_1163 : decode mL_law.2.1 1163 = .ok (.aload_n 2, 1) := by decide +kernel
theorem dL_law_1164 : decode mL_law.2.1 1164 = .ok (.invokevirtual 122, 3) := by decide +kernel
theorem dL_law_1167 : decode mL_law.2.1 1167 = .ok (.iload 5, 2) := by decide +kernel
theorem dL_law_1169 : decode mL_law.2.1 1169 = .ok (.if_icmp .eq 5, 3) := by decide +kernel
theorem dL_law_1172 : decode mL_law.2.1 1172 = .ok (.iconst 0, 1) := by decide +kernel
theorem dL_law_1173 : decode mL_law.2.1 1173 = .ok (.ireturn, 1) := by decide +kernel
theorem dL_law_1174 : decode mL_law.2.1 1174 = .ok (.iload 5, 2) := by decide +kernel
theorem dL_law_1176 : decode mL_law.2.1 1176 = .ok (.ifCond .ne 15, 3) := by decide +kernel
theorem dL_law_1179 : decode mL_law.2.1 1179 = .ok (.aload_n 3, 1) := by decide +kernel
theorem dL_law_1180 : decode mL_law.2.1 1180 = .ok (.iconst 0, 1) := by decide +kernel
theorem dL_law_1181 : decode mL_law.2.1 1181 = .ok (.laload, 1) := by decide +kernel
theorem dL_law_1182 : decode mL_law.2.1 1182 = .ok (.iload 6, 2) := by decide +kernel
theorem dL_law_1184 : decode mL_law.2.1 1184 = .ok (.i2l, 1) := by decide +kernel
theorem dL_law_1185 : decode mL_law.2.1 1185 = .ok (.lcmp, 1) := by decide +kernel
theorem dL_law_1186 : decode mL_law.2.1 1186 = .ok (.ifCond .eq 5, 3) := by decide +kernel
theorem dL_law_1189 : decode mL_law.2.1 1189 = .ok (.iconst 0, 1) := by decide +kernel
theorem dL_law_1190 : decode mL_law.2.1 1190 = .ok (.ireturn, 1) := by decide +kernel
theorem dL_law_1191 : decode mL_law.2.1 1191 = .ok (.goto 905, 3) := by decide +kernel
theorem dL_law_1194 : decode mL_law.2.1 1194 = .ok (.aload_n 1, 1) := by decide +kernel
theorem dL_law_1195 : decode mL_law.2.1 1195 = .ok (.aload_n 0, 1) := by decide +kernel
theorem dL_law_1196 : decode mL_law.2.1 1196 = .ok (.iload 4, 2) := by decide +kernel
theorem dL_law_1198 : decode mL_law.2.1 1198 = .ok (.iconst 1, 1) := by decide +kernel
theorem dL_law_1199 : decode mL_law.2.1 1199 = .ok (.iadd, 1) := by decide +kernel
theorem dL_law_1200 : decode mL_law.2.1 1200 = .ok (.iaload, 1) := by decide +kernel
theorem dL_law_1201 : decode mL_law.2.1 1201 = .ok (.aload_n 0, 1) := by decide +kernel
theorem dL_law_1202 : decode mL_law.2.1 1202 = .ok (.iload 4, 2) := by decide +kernel
theorem dL_law_1204 : decode mL_law.2.1 1204 = .ok (.iconst 2, 1) := by decide +kernel
theorem dL_law_1205 : decode mL_law.2.1 1205 = .ok (.iadd, 1) := by decide +kernel
theorem dL_law_1206 : decode mL_law.2.1 1206 = .ok (.iaload, 1) := by decide +kernel
theorem dL_law_1207 : decode mL_law.2.1 1207 = .ok (.ifCond .eq 7, 3) := by decide +kernel
theorem dL_law_1210 : decode mL_law.2.1 1210 = .ok (.iconst 1, 1) := by decide +kernel
theorem dL_law_1211 : decode mL_law.2.1 1211 = .ok (.goto 4, 3) := by decide +kernel
theorem dL_law_1214 : decode mL_law.2.1 1214 = .ok (.iconst 0, 1) := by decide +kernel
theorem dL_law_1215 : decode mL_law.2.1 1215 = .ok (.aload_n 3, 1) := by decide +kernel
theorem dL_law_1216 : decode mL_law.2.1 1216 = .ok (.invokestatic 190, 3) := by decide +kernel
theorem dL_law_1219 : decode mL_law.2.1 1219 = .ok (.istore 5, 2) := by decide +kernel
theorem dL_law_1221 : decode mL_law.2.1 1221 = .ok (.aload_n 2, 1) := by decide +kernel
theorem dL_law_1222 : decode mL_law.2.1 1222 = .ok (.aload_n 0, 1) := by decide +kernel
theorem dL_law_1223 : decode mL_law.2.1 1223 = .ok (.iload 4, 2) := by decide +kernel
theorem dL_law_1225 : decode mL_law.2.1 1225 = .ok (.iconst 1, 1) := by decide +kernel
theorem dL_law_1226 : decode mL_law.2.1 1226 = .ok (.iadd, 1) := by decide +kernel
theorem dL_law_1227 : decode mL_law.2.1 1227 = .ok (.iaload, 1) := by decide +kernel
theorem dL_law_1228 : decode mL_law.2.1 1228 = .ok (.aload_n 0, 1) := by decide +kernel
theorem dL_law_1229 : decode mL_law.2.1 1229 = .ok (.iload 4, 2) := by decide +kernel
theorem dL_law_1231 : decode mL_law.2.1 1231 = .ok (.iconst 2, 1) := by decide +kernel
theorem dL_law_1232 : decode mL_law.2.1 1232 = .ok (.iadd, 1) := by decide +kernel
theorem dL_law_1233 : decode mL_law.2.1 1233 = .ok (.iaload, 1) := by decide +kernel
theorem dL_law_1234 : decode mL_law.2.1 1234 = .ok (.ifCond .eq 7, 3) := by decide +kernel
theorem dL_law_1237 : decode mL_law.2.1 1237 = .ok (.iconst 1, 1) := by decide +kernel
theorem dL_law_1238 : decode mL_law.2.1 1238 = .ok (.goto 4, 3) := by decide +kernel
theorem dL_law_1241 : decode mL_law.2.1 1241 = .ok (.iconst 0, 1) := by decide +kernel
theorem dL_law_1242 : decode mL_law.2.1 1242 = .ok (.invokevirtual 192, 3) := by decide +kernel
theorem dL_law_1245 : decode mL_law.2.1 1245 = .ok (.istore 6, 2) := by decide +kernel
theorem dL_law_1247 : decode mL_law.2.1 1247 = .ok (.aload_n 2, 1) := by decide +kernel
theorem dL_law_1248 : decode mL_law.2.1 1248 = .ok (.invokevirtual 122, 3) := by decide +kernel
theorem dL_law_1251 : decode mL_law.2.1 1251 = .ok (.iload 5, 2) := by decide +kernel
theorem dL_law_1253 : decode mL_law.2.1 1253 = .ok (.if_icmp .eq 5, 3) := by decide +kernel
theorem dL_law_1256 : decode mL_law.2.1 1256 = .ok (.iconst 0, 1) := by decide +kernel
theorem dL_law_1257 : decode mL_law.2.1 1257 = .ok (.ireturn, 1) := by decide +kernel
theorem dL_law_1258 : decode mL_law.2.1 1258 = .ok (.iload 5, 2) := by decide +kernel
theorem dL_law_1260 : decode mL_law.2.1 1260 = .ok (.ifCond .ne 15, 3) := by decide +kernel
theorem dL_law_1263 : decode mL_law.2.1 1263 = .ok (.aload_n 3, 1) := by decide +kernel
theorem dL_law_1264 : decode mL_law.2.1 1264 = .ok (.iconst 0, 1) := by decide +kernel
theorem dL_law_1265 : decode mL_law.2.1 1265 = .ok (.laload, 1) := by decide +kernel
theorem dL_law_1266 : decode mL_law.2.1 1266 = .ok (.iload 6, 2) := by decide +kernel
theorem dL_law_1268 : decode mL_law.2.1 1268 = .ok (.i2l, 1) := by decide +kernel
theorem dL_law_1269 : decode mL_law.2.1 1269 = .ok (.lcmp, 1) := by decide +kernel
theorem dL_law_1270 : decode mL_law.2.1 1270 = .ok (.ifCond .eq 5, 3) := by decide +kernel
theorem dL_law_1273 : decode mL_law.2.1 1273 = .ok (.iconst 0, 1) := by decide +kernel
theorem dL_law_1274 : decode mL_law.2.1 1274 = .ok (.ireturn, 1) := by decide +kernel
theorem dL_law_1275 : decode mL_law.2.1 1275 = .ok (.goto 821, 3) := by decide +kernel
theorem dL_law_1278 : decode mL_law.2.1 1278 = .ok (.aload_n 1, 1) := by decide +kernel
theorem dL_law_1279 : decode mL_law.2.1 1279 = .ok (.aload_n 0, 1) := by decide +kernel
theorem dL_law_1280 : decode mL_law.2.1 1280 = .ok (.iload 4, 2) := by decide +kernel
theorem dL_law_1282 : decode mL_law.2.1 1282 = .ok (.iconst 1, 1) := by decide +kernel
theorem dL_law_1283 : decode mL_law.2.1 1283 = .ok (.iadd, 1) := by decide +kernel
theorem dL_law_1284 : decode mL_law.2.1 1284 = .ok (.iaload, 1) := by decide +kernel
theorem dL_law_1285 : decode mL_law.2.1 1285 = .ok (.aload_n 0, 1) := by decide +kernel
theorem dL_law_1286 : decode mL_law.2.1 1286 = .ok (.iload 4, 2) := by decide +kernel
theorem dL_law_1288 : decode mL_law.2.1 1288 = .ok (.iconst 2, 1) := by decide +kernel
theorem dL_law_1289 : decode mL_law.2.1 1289 = .ok (.iadd, 1) := by decide +kernel
theorem dL_law_1290 : decode mL_law.2.1 1290 = .ok (.iaload, 1) := by decide +kernel
theorem dL_law_1291 : decode mL_law.2.1 1291 = .ok (.ifCond .eq 7, 3) := by decide +kernel
theorem dL_law_1294 : decode mL_law.2.1 1294 = .ok (.iconst 1, 1) := by decide +kernel
theorem dL_law_1295 : decode mL_law.2.1 1295 = .ok (.goto 4, 3) := by decide +kernel
theorem dL_law_1298 : decode mL_law.2.1 1298 = .ok (.iconst 0, 1) := by decide +kernel
theorem dL_law_1299 : decode mL_law.2.1 1299 = .ok (.aload_n 0, 1) := by decide +kernel
theorem dL_law_1300 : decode mL_law.2.1 1300 = .ok (.iload 4, 2) := by decide +kernel
theorem dL_law_1302 : decode mL_law.2.1 1302 = .ok (.iconst 3, 1) := by decide +kernel
theorem dL_law_1303 : decode mL_law.2.1 1303 = .ok (.iadd, 1) := by decide +kernel
theorem dL_law_1304 : decode mL_law.2.1 1304 = .ok (.iaload, 1) := by decide +kernel
theorem dL_law_1305 : decode mL_law.2.1 1305 = .ok (.aload_n 0, 1) := by decide +kernel
theorem dL_law_1306 : decode mL_law.2.1 1306 = .ok (.iload 4, 2) := by decide +kernel
theorem dL_law_1308 : decode mL_law.2.1 1308 = .ok (.iconst 4, 1) := by decide +kernel
theorem dL_law_1309 : decode mL_law.2.1 1309 = .ok (.iadd, 1) := by decide +kernel
theorem dL_law_1310 : decode mL_law.2.1 1310 = .ok (.iaload, 1) := by decide +kernel
theorem dL_law_1311 : decode mL_law.2.1 1311 = .ok (.aload_n 3, 1) := by decide +kernel
theorem dL_law_1312 : decode mL_law.2.1 1312 = .ok (.invokestatic 193, 3) := by decide +kernel
theorem dL_law_1315 : decode mL_law.2.1 1315 = .ok (.istore 5, 2) := by decide +kernel
theorem dL_law_1317 : decode mL_law.2.1 1317 = .ok (.aload_n 2, 1) := by decide +kernel
theorem dL_law_1318 : decode mL_law.2.1 1318 = .ok (.aload_n 0, 1) := by decide +kernel
theorem dL_law_1319 : decode mL_law.2.1 1319 = .ok (.iload 4, 2) := by decide +kernel
theorem dL_law_1321 : decode mL_law.2.1 1321 = .ok (.iconst 1, 1) := by decide +kernel
theorem dL_law_1322 : decode mL_law.2.1 1322 = .ok (.iadd, 1) := by decide +kernel
theorem dL_law_1323 : decode mL_law.2.1 1323 = .ok (.iaload, 1) := by decide +kernel
theorem dL_law_1324 : decode mL_law.2.1 1324 = .ok (.aload_n 0, 1) := by decide +kernel
theorem dL_law_1325 : decode mL_law.2.1 1325 = .ok (.iload 4, 2) := by decide +kernel
theorem dL_law_1327 : decode mL_law.2.1 1327 = .ok (.iconst 2, 1) := by decide +kernel
theorem dL_law_1328 : decode mL_law.2.1 1328 = .ok (.iadd, 1) := by decide +kernel
theorem dL_law_1329 : decode mL_law.2.1 1329 = .ok (.iaload, 1) := by decide +kernel
theorem dL_law_1330 : decode mL_law.2.1 1330 = .ok (.ifCond .eq 7, 3) := by decide +kernel
theorem dL_law_1333 : decode mL_law.2.1 1333 = .ok (.iconst 1, 1) := by decide +kernel
theorem dL_law_1334 : decode mL_law.2.1 1334 = .ok (.goto 4, 3) := by decide +kernel
theorem dL_law_1337 : decode mL_law.2.1 1337 = .ok (.iconst 0, 1) := by decide +kernel
theorem dL_law_1338 : decode mL_law.2.1 1338 = .ok (.aload_n 0, 1) := by decide +kernel
theorem dL_law_1339 : decode mL_law.2.1 1339 = .ok (.iload 4, 2) := by decide +kernel
theorem dL_law_1341 : decode mL_law.2.1 1341 = .ok (.iconst 3, 1) := by decide +kernel
theorem dL_law_1342 : decode mL_law.2.1 1342 = .ok (.iadd, 1) := by decide +kernel
theorem dL_law_1343 : decode mL_law.2.1 1343 = .ok (.iaload, 1) := by decide +kernel
theorem dL_law_1344 : decode mL_law.2.1 1344 = .ok (.aload_n 0, 1) := by decide +kernel
theorem dL_law_1345 : decode mL_law.2.1 1345 = .ok (.iload 4, 2) := by decide +kernel
theorem dL_law_1347 : decode mL_law.2.1 1347 = .ok (.iconst 4, 1) := by decide +kernel
theorem dL_law_1348 : decode mL_law.2.1 1348 = .ok (.iadd, 1) := by decide +kernel
theorem dL_law_1349 : decode mL_law.2.1 1349 = .ok (.iaload, 1) := by decide +kernel
theorem dL_law_1350 : decode mL_law.2.1 1350 = .ok (.invokevirtual 196, 3) := by decide +kernel
theorem dL_law_1353 : decode mL_law.2.1 1353 = .ok (.istore 6, 2) := by decide +kernel
theorem dL_law_1355 : decode mL_law.2.1 1355 = .ok (.aload_n 2, 1) := by decide +kernel
theorem dL_law_1356 : decode mL_law.2.1 1356 = .ok (.invokevirtual 122, 3) := by decide +kernel
theorem dL_law_1359 : decode mL_law.2.1 1359 = .ok (.iload 5, 2) := by decide +kernel
theorem dL_law_1361 : decode mL_law.2.1 1361 = .ok (.if_icmp .eq 5, 3) := by decide +kernel
theorem dL_law_1364 : decode mL_law.2.1 1364 = .ok (.iconst 0, 1) := by decide +kernel
theorem dL_law_1365 : decode mL_law.2.1 1365 = .ok (.ireturn, 1) := by decide +kernel
theorem dL_law_1366 : decode mL_law.2.1 1366 = .ok (.iload 5, 2) := by decide +kernel
theorem dL_law_1368 : decode mL_law.2.1 1368 = .ok (.ifCond .ne 15, 3) := by decide +kernel
theorem dL_law_1371 : decode mL_law.2.1 1371 = .ok (.aload_n 3, 1) := by decide +kernel
theorem dL_law_1372 : decode mL_law.2.1 1372 = .ok (.iconst 0, 1) := by decide +kernel
theorem dL_law_1373 : decode mL_law.2.1 1373 = .ok (.laload, 1) := by decide +kernel
theorem dL_law_1374 : decode mL_law.2.1 1374 = .ok (.iload 6, 2) := by decide +kernel
theorem dL_law_1376 : decode mL_law.2.1 1376 = .ok (.i2l, 1) := by decide +kernel
theorem dL_law_1377 : decode mL_law.2.1 1377 = .ok (.lcmp, 1) := by decide +kernel
theorem dL_law_1378 : decode mL_law.2.1 1378 = .ok (.ifCond .eq 5, 3) := by decide +kernel
theorem dL_law_1381 : decode mL_law.2.1 1381 = .ok (.iconst 0, 1) := by decide +kernel
theorem dL_law_1382 : decode mL_law.2.1 1382 = .ok (.ireturn, 1) := by decide +kernel
theorem dL_law_1383 : decode mL_law.2.1 1383 = .ok (.goto 713, 3) := by decide +kernel
theorem dL_law_1386 : decode mL_law.2.1 1386 = .ok (.aload_n 1, 1) := by decide +kernel
theorem dL_law_1387 : decode mL_law.2.1 1387 = .ok (.aload_n 0, 1) := by decide +kernel
theorem dL_law_1388 : decode mL_law.2.1 1388 = .ok (.iload 4, 2) := by decide +kernel
theorem dL_law_1390 : decode mL_law.2.1 1390 = .ok (.iconst 1, 1) := by decide +kernel
theorem dL_law_1391 : decode mL_law.2.1 1391 = .ok (.iadd, 1) := by decide +kernel
theorem dL_law_1392 : decode mL_law.2.1 1392 = .ok (.iaload, 1) := by decide +kernel
theorem dL_law_1393 : decode mL_law.2.1 1393 = .ok (.aload_n 0, 1) := by decide +kernel
theorem dL_law_1394 : decode mL_law.2.1 1394 = .ok (.iload 4, 2) := by decide +kernel
theorem dL_law_1396 : decode mL_law.2.1 1396 = .ok (.iconst 2, 1) := by decide +kernel
theorem dL_law_1397 : decode mL_law.2.1 1397 = .ok (.iadd, 1) := by decide +kernel
theorem dL_law_1398 : decode mL_law.2.1 1398 = .ok (.iaload, 1) := by decide +kernel
theorem dL_law_1399 : decode mL_law.2.1 1399 = .ok (.aload_n 0, 1) := by decide +kernel
theorem dL_law_1400 : decode mL_law.2.1 1400 = .ok (.iload 4, 2) := by decide +kernel
theorem dL_law_1402 : decode mL_law.2.1 1402 = .ok (.iconst 3, 1) := by decide +kernel
theorem dL_law_1403 : decode mL_law.2.1 1403 = .ok (.iadd, 1) := by decide +kernel
theorem dL_law_1404 : decode mL_law.2.1 1404 = .ok (.iaload, 1) := by decide +kernel
theorem dL_law_1405 : decode mL_law.2.1 1405 = .ok (.aload_n 3, 1) := by decide +kernel
theorem dL_law_1406 : decode mL_law.2.1 1406 = .ok (.invokestatic 197, 3) := by decide +kernel
theorem dL_law_1409 : decode mL_law.2.1 1409 = .ok (.istore 5, 2) := by decide +kernel
theorem dL_law_1411 : decode mL_law.2.1 1411 = .ok (.aload_n 2, 1) := by decide +kernel
theorem dL_law_1412 : decode mL_law.2.1 1412 = .ok (.aload_n 0, 1) := by decide +kernel
theorem dL_law_1413 : decode mL_law.2.1 1413 = .ok (.iload 4, 2) := by decide +kernel
theorem dL_law_1415 : decode mL_law.2.1 1415 = .ok (.iconst 1, 1) := by decide +kernel
theorem dL_law_1416 : decode mL_law.2.1 1416 = .ok (.iadd, 1) := by decide +kernel
theorem dL_law_1417 : decode mL_law.2.1 1417 = .ok (.iaload, 1) := by decide +kernel
theorem dL_law_1418 : decode mL_law.2.1 1418 = .ok (.aload_n 0, 1) := by decide +kernel
theorem dL_law_1419 : decode mL_law.2.1 1419 = .ok (.iload 4, 2) := by decide +kernel
theorem dL_law_1421 : decode mL_law.2.1 1421 = .ok (.iconst 2, 1) := by decide +kernel
theorem dL_law_1422 : decode mL_law.2.1 1422 = .ok (.iadd, 1) := by decide +kernel
theorem dL_law_1423 : decode mL_law.2.1 1423 = .ok (.iaload, 1) := by decide +kernel
theorem dL_law_1424 : decode mL_law.2.1 1424 = .ok (.aload_n 0, 1) := by decide +kernel
theorem dL_law_1425 : decode mL_law.2.1 1425 = .ok (.iload 4, 2) := by decide +kernel
theorem dL_law_1427 : decode mL_law.2.1 1427 = .ok (.iconst 3, 1) := by decide +kernel
theorem dL_law_1428 : decode mL_law.2.1 1428 = .ok (.iadd, 1) := by decide +kernel
theorem dL_law_1429 : decode mL_law.2.1 1429 = .ok (.iaload, 1) := by decide +kernel
theorem dL_law_1430 : decode mL_law.2.1 1430 = .ok (.invokevirtual 199, 3) := by decide +kernel
theorem dL_law_1433 : decode mL_law.2.1 1433 = .ok (.istore 6, 2) := by decide +kernel
theorem dL_law_1435 : decode mL_law.2.1 1435 = .ok (.aload_n 2, 1) := by decide +kernel
theorem dL_law_1436 : decode mL_law.2.1 1436 = .ok (.invokevirtual 122, 3) := by decide +kernel
theorem dL_law_1439 : decode mL_law.2.1 1439 = .ok (.iload 5, 2) := by decide +kernel
theorem dL_law_1441 : decode mL_law.2.1 1441 = .ok (.if_icmp .eq 5, 3) := by decide +kernel
theorem dL_law_1444 : decode mL_law.2.1 1444 = .ok (.iconst 0, 1) := by decide +kernel
theorem dL_law_1445 : decode mL_law.2.1 1445 = .ok (.ireturn, 1) := by decide +kernel
theorem dL_law_1446 : decode mL_law.2.1 1446 = .ok (.iload 5, 2) := by decide +kernel
theorem dL_law_1448 : decode mL_law.2.1 1448 = .ok (.ifCond .ne 15, 3) := by decide +kernel
theorem dL_law_1451 : decode mL_law.2.1 1451 = .ok (.aload_n 3, 1) := by decide +kernel
theorem dL_law_1452 : decode mL_law.2.1 1452 = .ok (.iconst 0, 1) := by decide +kernel
theorem dL_law_1453 : decode mL_law.2.1 1453 = .ok (.laload, 1) := by decide +kernel
theorem dL_law_1454 : decode mL_law.2.1 1454 = .ok (.iload 6, 2) := by decide +kernel
theorem dL_law_1456 : decode mL_law.2.1 1456 = .ok (.i2l, 1) := by decide +kernel
theorem dL_law_1457 : decode mL_law.2.1 1457 = .ok (.lcmp, 1) := by decide +kernel
theorem dL_law_1458 : decode mL_law.2.1 1458 = .ok (.ifCond .eq 5, 3) := by decide +kernel
theorem dL_law_1461 : decode mL_law.2.1 1461 = .ok (.iconst 0, 1) := by decide +kernel
theorem dL_law_1462 : decode mL_law.2.1 1462 = .ok (.ireturn, 1) := by decide +kernel
theorem dL_law_1463 : decode mL_law.2.1 1463 = .ok (.goto 633, 3) := by decide +kernel
theorem dL_law_1466 : decode mL_law.2.1 1466 = .ok (.aload_n 1, 1) := by decide +kernel
theorem dL_law_1467 : decode mL_law.2.1 1467 = .ok (.aload_n 0, 1) := by decide +kernel
theorem dL_law_1468 : decode mL_law.2.1 1468 = .ok (.iload 4, 2) := by decide +kernel
theorem dL_law_1470 : decode mL_law.2.1 1470 = .ok (.iconst 1, 1) := by decide +kernel
theorem dL_law_1471 : decode mL_law.2.1 1471 = .ok (.iadd, 1) := by decide +kernel
theorem dL_law_1472 : decode mL_law.2.1 1472 = .ok (.iaload, 1) := by decide +kernel
theorem dL_law_1473 : decode mL_law.2.1 1473 = .ok (.aload_n 0, 1) := by decide +kernel
theorem dL_law_1474 : decode mL_law.2.1 1474 = .ok (.iload 4, 2) := by decide +kernel
theorem dL_law_1476 : decode mL_law.2.1 1476 = .ok (.iconst 2, 1) := by decide +kernel
theorem dL_law_1477 : decode mL_law.2.1 1477 = .ok (.iadd, 1) := by decide +kernel
theorem dL_law_1478 : decode mL_law.2.1 1478 = .ok (.iaload, 1) := by decide +kernel
theorem dL_law_1479 : decode mL_law.2.1 1479 = .ok (.aload_n 3, 1) := by decide +kernel
theorem dL_law_1480 : decode mL_law.2.1 1480 = .ok (.invokestatic 200, 3) := by decide +kernel
theorem dL_law_1483 : decode mL_law.2.1 1483 = .ok (.istore 5, 2) := by decide +kernel
theorem dL_law_1485 : decode mL_law.2.1 1485 = .ok (.aload_n 2, 1) := by decide +kernel
theorem dL_law_1486 : decode mL_law.2.1 1486 = .ok (.aload_n 0, 1) := by decide +kernel
theorem dL_law_1487 : decode mL_law.2.1 1487 = .ok (.iload 4, 2) := by decide +kernel
theorem dL_law_1489 : decode mL_law.2.1 1489 = .ok (.iconst 1, 1) := by decide +kernel
theorem dL_law_1490 : decode mL_law.2.1 1490 = .ok (.iadd, 1) := by decide +kernel
theorem dL_law_1491 : decode mL_law.2.1 1491 = .ok (.iaload, 1) := by decide +kernel
theorem dL_law_1492 : decode mL_law.2.1 1492 = .ok (.aload_n 0, 1) := by decide +kernel
theorem dL_law_1493 : decode mL_law.2.1 1493 = .ok (.iload 4, 2) := by decide +kernel
theorem dL_law_1495 : decode mL_law.2.1 1495 = .ok (.iconst 2, 1) := by decide +kernel
theorem dL_law_1496 : decode mL_law.2.1 1496 = .ok (.iadd, 1) := by decide +kernel
theorem dL_law_1497 : decode mL_law.2.1 1497 = .ok (.iaload, 1) := by decide +kernel
theorem dL_law_1498 : decode mL_law.2.1 1498 = .ok (.invokevirtual 202, 3) := by decide +kernel
theorem dL_law_1501 : decode mL_law.2.1 1501 = .ok (.istore 6, 2) := by decide +kernel
theorem dL_law_1503 : decode mL_law.2.1 1503 = .ok (.aload_n 2, 1) := by decide +kernel
theorem dL_law_1504 : decode mL_law.2.1 1504 = .ok (.invokevirtual 122, 3) := by decide +kernel
theorem dL_law_1507 : decode mL_law.2.1 1507 = .ok (.iload 5, 2) := by decide +kernel
theorem dL_law_1509 : decode mL_law.2.1 1509 = .ok (.if_icmp .eq 5, 3) := by decide +kernel
theorem dL_law_1512 : decode mL_law.2.1 1512 = .ok (.iconst 0, 1) := by decide +kernel
theorem dL_law_1513 : decode mL_law.2.1 1513 = .ok (.ireturn, 1) := by decide +kernel
theorem dL_law_1514 : decode mL_law.2.1 1514 = .ok (.iload 5, 2) := by decide +kernel
theorem dL_law_1516 : decode mL_law.2.1 1516 = .ok (.ifCond .ne 15, 3) := by decide +kernel
theorem dL_law_1519 : decode mL_law.2.1 1519 = .ok (.aload_n 3, 1) := by decide +kernel
theorem dL_law_1520 : decode mL_law.2.1 1520 = .ok (.iconst 0, 1) := by decide +kernel
theorem dL_law_1521 : decode mL_law.2.1 1521 = .ok (.laload, 1) := by decide +kernel
theorem dL_law_1522 : decode mL_law.2.1 1522 = .ok (.iload 6, 2) := by decide +kernel
theorem dL_law_1524 : decode mL_law.2.1 1524 = .ok (.i2l, 1) := by decide +kernel
theorem dL_law_1525 : decode mL_law.2.1 1525 = .ok (.lcmp, 1) := by decide +kernel
theorem dL_law_1526 : decode mL_law.2.1 1526 = .ok (.ifCond .eq 5, 3) := by decide +kernel
theorem dL_law_1529 : decode mL_law.2.1 1529 = .ok (.iconst 0, 1) := by decide +kernel
theorem dL_law_1530 : decode mL_law.2.1 1530 = .ok (.ireturn, 1) := by decide +kernel
theorem dL_law_1531 : decode mL_law.2.1 1531 = .ok (.goto 565, 3) := by decide +kernel
theorem dL_law_1534 : decode mL_law.2.1 1534 = .ok (.aload_n 1, 1) := by decide +kernel
theorem dL_law_1535 : decode mL_law.2.1 1535 = .ok (.aload_n 0, 1) := by decide +kernel
theorem dL_law_1536 : decode mL_law.2.1 1536 = .ok (.iload 4, 2) := by decide +kernel
theorem dL_law_1538 : decode mL_law.2.1 1538 = .ok (.iconst 1, 1) := by decide +kernel
theorem dL_law_1539 : decode mL_law.2.1 1539 = .ok (.iadd, 1) := by decide +kernel
theorem dL_law_1540 : decode mL_law.2.1 1540 = .ok (.iaload, 1) := by decide +kernel
theorem dL_law_1541 : decode mL_law.2.1 1541 = .ok (.aload_n 3, 1) := by decide +kernel
theorem dL_law_1542 : decode mL_law.2.1 1542 = .ok (.invokestatic 203, 3) := by decide +kernel
theorem dL_law_1545 : decode mL_law.2.1 1545 = .ok (.istore 5, 2) := by decide +kernel
theorem dL_law_1547 : decode mL_law.2.1 1547 = .ok (.aload_n 2, 1) := by decide +kernel
theorem dL_law_1548 : decode mL_law.2.1 1548 = .ok (.aload_n 0, 1) := by decide +kernel
theorem dL_law_1549 : decode mL_law.2.1 1549 = .ok (.iload 4, 2) := by decide +kernel
theorem dL_law_1551 : decode mL_law.2.1 1551 = .ok (.iconst 1, 1) := by decide +kernel
theorem dL_law_1552 : decode mL_law.2.1 1552 = .ok (.iadd, 1) := by decide +kernel
theorem dL_law_1553 : decode mL_law.2.1 1553 = .ok (.iaload, 1) := by decide +kernel
theorem dL_law_1554 : decode mL_law.2.1 1554 = .ok (.invokevirtual 205, 3) := by decide +kernel
theorem dL_law_1557 : decode mL_law.2.1 1557 = .ok (.istore 6, 2) := by decide +kernel
theorem dL_law_1559 : decode mL_law.2.1 1559 = .ok (.aload_n 2, 1) := by decide +kernel
theorem dL_law_1560 : decode mL_law.2.1 1560 = .ok (.invokevirtual 122, 3) := by decide +kernel
theorem dL_law_1563 : decode mL_law.2.1 1563 = .ok (.iload 5, 2) := by decide +kernel
theorem dL_law_1565 : decode mL_law.2.1 1565 = .ok (.if_icmp .eq 5, 3) := by decide +kernel
theorem dL_law_1568 : decode mL_law.2.1 1568 = .ok (.iconst 0, 1) := by decide +kernel
theorem dL_law_1569 : decode mL_law.2.1 1569 = .ok (.ireturn, 1) := by decide +kernel
theorem dL_law_1570 : decode mL_law.2.1 1570 = .ok (.iload 5, 2) := by decide +kernel
theorem dL_law_1572 : decode mL_law.2.1 1572 = .ok (.ifCond .ne 15, 3) := by decide +kernel
theorem dL_law_1575 : decode mL_law.2.1 1575 = .ok (.aload_n 3, 1) := by decide +kernel
theorem dL_law_1576 : decode mL_law.2.1 1576 = .ok (.iconst 0, 1) := by decide +kernel
theorem dL_law_1577 : decode mL_law.2.1 1577 = .ok (.laload, 1) := by decide +kernel
theorem dL_law_1578 : decode mL_law.2.1 1578 = .ok (.iload 6, 2) := by decide +kernel
theorem dL_law_1580 : decode mL_law.2.1 1580 = .ok (.i2l, 1) := by decide +kernel
theorem dL_law_1581 : decode mL_law.2.1 1581 = .ok (.lcmp, 1) := by decide +kernel
theorem dL_law_1582 : decode mL_law.2.1 1582 = .ok (.ifCond .eq 5, 3) := by decide +kernel
theorem dL_law_1585 : decode mL_law.2.1 1585 = .ok (.iconst 0, 1) := by decide +kernel
theorem dL_law_1586 : decode mL_law.2.1 1586 = .ok (.ireturn, 1) := by decide +kernel
theorem dL_law_1587 : decode mL_law.2.1 1587 = .ok (.goto 509, 3) := by decide +kernel
theorem dL_law_1590 : decode mL_law.2.1 1590 = .ok (.aload_n 1, 1) := by decide +kernel
theorem dL_law_1591 : decode mL_law.2.1 1591 = .ok (.aload_n 0, 1) := by decide +kernel
theorem dL_law_1592 : decode mL_law.2.1 1592 = .ok (.iload 4, 2) := by decide +kernel
theorem dL_law_1594 : decode mL_law.2.1 1594 = .ok (.iconst 1, 1) := by decide +kernel
theorem dL_law_1595 : decode mL_law.2.1 1595 = .ok (.iadd, 1) := by decide +kernel
theorem dL_law_1596 : decode mL_law.2.1 1596 = .ok (.iaload, 1) := by decide +kernel
theorem dL_law_1597 : decode mL_law.2.1 1597 = .ok (.aload_n 3, 1) := by decide +kernel
theorem dL_law_1598 : decode mL_law.2.1 1598 = .ok (.invokestatic 206, 3) := by decide +kernel
theorem dL_law_1601 : decode mL_law.2.1 1601 = .ok (.istore 5, 2) := by decide +kernel
theorem dL_law_1603 : decode mL_law.2.1 1603 = .ok (.aload_n 2, 1) := by decide +kernel
theorem dL_law_1604 : decode mL_law.2.1 1604 = .ok (.aload_n 0, 1) := by decide +kernel
theorem dL_law_1605 : decode mL_law.2.1 1605 = .ok (.iload 4, 2) := by decide +kernel
theorem dL_law_1607 : decode mL_law.2.1 1607 = .ok (.iconst 1, 1) := by decide +kernel
theorem dL_law_1608 : decode mL_law.2.1 1608 = .ok (.iadd, 1) := by decide +kernel
theorem dL_law_1609 : decode mL_law.2.1 1609 = .ok (.iaload, 1) := by decide +kernel
theorem dL_law_1610 : decode mL_law.2.1 1610 = .ok (.invokevirtual 208, 3) := by decide +kernel
theorem dL_law_1613 : decode mL_law.2.1 1613 = .ok (.istore 6, 2) := by decide +kernel
theorem dL_law_1615 : decode mL_law.2.1 1615 = .ok (.aload_n 2, 1) := by decide +kernel
theorem dL_law_1616 : decode mL_law.2.1 1616 = .ok (.invokevirtual 122, 3) := by decide +kernel
theorem dL_law_1619 : decode mL_law.2.1 1619 = .ok (.iload 5, 2) := by decide +kernel
theorem dL_law_1621 : decode mL_law.2.1 1621 = .ok (.if_icmp .eq 5, 3) := by decide +kernel
theorem dL_law_1624 : decode mL_law.2.1 1624 = .ok (.iconst 0, 1) := by decide +kernel
theorem dL_law_1625 : decode mL_law.2.1 1625 = .ok (.ireturn, 1) := by decide +kernel
theorem dL_law_1626 : decode mL_law.2.1 1626 = .ok (.iload 5, 2) := by decide +kernel
theorem dL_law_1628 : decode mL_law.2.1 1628 = .ok (.ifCond .ne 15, 3) := by decide +kernel
theorem dL_law_1631 : decode mL_law.2.1 1631 = .ok (.aload_n 3, 1) := by decide +kernel
theorem dL_law_1632 : decode mL_law.2.1 1632 = .ok (.iconst 0, 1) := by decide +kernel
theorem dL_law_1633 : decode mL_law.2.1 1633 = .ok (.laload, 1) := by decide +kernel
theorem dL_law_1634 : decode mL_law.2.1 1634 = .ok (.iload 6, 2) := by decide +kernel
theorem dL_law_1636 : decode mL_law.2.1 1636 = .ok (.i2l, 1) := by decide +kernel
theorem dL_law_1637 : decode mL_law.2.1 1637 = .ok (.lcmp, 1) := by decide +kernel
theorem dL_law_1638 : decode mL_law.2.1 1638 = .ok (.ifCond .eq 5, 3) := by decide +kernel
theorem dL_law_1641 : decode mL_law.2.1 1641 = .ok (.iconst 0, 1) := by decide +kernel
theorem dL_law_1642 : decode mL_law.2.1 1642 = .ok (.ireturn, 1) := by decide +kernel
theorem dL_law_1643 : decode mL_law.2.1 1643 = .ok (.goto 453, 3) := by decide +kernel
theorem dL_law_1646 : decode mL_law.2.1 1646 = .ok (.aload_n 1, 1) := by decide +kernel
theorem dL_law_1647 : decode mL_law.2.1 1647 = .ok (.aload_n 0, 1) := by decide +kernel
theorem dL_law_1648 : decode mL_law.2.1 1648 = .ok (.iload 4, 2) := by decide +kernel
theorem dL_law_1650 : decode mL_law.2.1 1650 = .ok (.iconst 1, 1) := by decide +kernel
theorem dL_law_1651 : decode mL_law.2.1 1651 = .ok (.iadd, 1) := by decide +kernel
theorem dL_law_1652 : decode mL_law.2.1 1652 = .ok (.iaload, 1) := by decide +kernel
theorem dL_law_1653 : decode mL_law.2.1 1653 = .ok (.aload_n 0, 1) := by decide +kernel
theorem dL_law_1654 : decode mL_law.2.1 1654 = .ok (.iload 4, 2) := by decide +kernel
theorem dL_law_1656 : decode mL_law.2.1 1656 = .ok (.iconst 2, 1) := by decide +kernel
theorem dL_law_1657 : decode mL_law.2.1 1657 = .ok (.iadd, 1) := by decide +kernel
theorem dL_law_1658 : decode mL_law.2.1 1658 = .ok (.iaload, 1) := by decide +kernel
theorem dL_law_1659 : decode mL_law.2.1 1659 = .ok (.aload_n 0, 1) := by decide +kernel
theorem dL_law_1660 : decode mL_law.2.1 1660 = .ok (.iload 4, 2) := by decide +kernel
theorem dL_law_1662 : decode mL_law.2.1 1662 = .ok (.iconst 3, 1) := by decide +kernel
theorem dL_law_1663 : decode mL_law.2.1 1663 = .ok (.iadd, 1) := by decide +kernel
theorem dL_law_1664 : decode mL_law.2.1 1664 = .ok (.iaload, 1) := by decide +kernel
theorem dL_law_1665 : decode mL_law.2.1 1665 = .ok (.aload_n 3, 1) := by decide +kernel
theorem dL_law_1666 : decode mL_law.2.1 1666 = .ok (.invokestatic 209, 3) := by decide +kernel
theorem dL_law_1669 : decode mL_law.2.1 1669 = .ok (.istore 5, 2) := by decide +kernel
theorem dL_law_1671 : decode mL_law.2.1 1671 = .ok (.aload_n 2, 1) := by decide +kernel
theorem dL_law_1672 : decode mL_law.2.1 1672 = .ok (.aload_n 0, 1) := by decide +kernel
theorem dL_law_1673 : decode mL_law.2.1 1673 = .ok (.iload 4, 2) := by decide +kernel
theorem dL_law_1675 : decode mL_law.2.1 1675 = .ok (.iconst 1, 1) := by decide +kernel
theorem dL_law_1676 : decode mL_law.2.1 1676 = .ok (.iadd, 1) := by decide +kernel
theorem dL_law_1677 : decode mL_law.2.1 1677 = .ok (.iaload, 1) := by decide +kernel
theorem dL_law_1678 : decode mL_law.2.1 1678 = .ok (.aload_n 0, 1) := by decide +kernel
theorem dL_law_1679 : decode mL_law.2.1 1679 = .ok (.iload 4, 2) := by decide +kernel
theorem dL_law_1681 : decode mL_law.2.1 1681 = .ok (.iconst 2, 1) := by decide +kernel
theorem dL_law_1682 : decode mL_law.2.1 1682 = .ok (.iadd, 1) := by decide +kernel
theorem dL_law_1683 : decode mL_law.2.1 1683 = .ok (.iaload, 1) := by decide +kernel
theorem dL_law_1684 : decode mL_law.2.1 1684 = .ok (.aload_n 0, 1) := by decide +kernel
theorem dL_law_1685 : decode mL_law.2.1 1685 = .ok (.iload 4, 2) := by decide +kernel
theorem dL_law_1687 : decode mL_law.2.1 1687 = .ok (.iconst 3, 1) := by decide +kernel
theorem dL_law_1688 : decode mL_law.2.1 1688 = .ok (.iadd, 1) := by decide +kernel
theorem dL_law_1689 : decode mL_law.2.1 1689 = .ok (.iaload, 1) := by decide +kernel
theorem dL_law_1690 : decode mL_law.2.1 1690 = .ok (.invokevirtual 211, 3) := by decide +kernel
theorem dL_law_1693 : decode mL_law.2.1 1693 = .ok (.istore 6, 2) := by decide +kernel
theorem dL_law_1695 : decode mL_law.2.1 1695 = .ok (.aload_n 2, 1) := by decide +kernel
theorem dL_law_1696 : decode mL_law.2.1 1696 = .ok (.invokevirtual 122, 3) := by decide +kernel
theorem dL_law_1699 : decode mL_law.2.1 1699 = .ok (.iload 5, 2) := by decide +kernel
theorem dL_law_1701 : decode mL_law.2.1 1701 = .ok (.if_icmp .eq 5, 3) := by decide +kernel
theorem dL_law_1704 : decode mL_law.2.1 1704 = .ok (.iconst 0, 1) := by decide +kernel
theorem dL_law_1705 : decode mL_law.2.1 1705 = .ok (.ireturn, 1) := by decide +kernel
theorem dL_law_1706 : decode mL_law.2.1 1706 = .ok (.iload 5, 2) := by decide +kernel
theorem dL_law_1708 : decode mL_law.2.1 1708 = .ok (.ifCond .ne 15, 3) := by decide +kernel
theorem dL_law_1711 : decode mL_law.2.1 1711 = .ok (.aload_n 3, 1) := by decide +kernel
theorem dL_law_1712 : decode mL_law.2.1 1712 = .ok (.iconst 0, 1) := by decide +kernel
theorem dL_law_1713 : decode mL_law.2.1 1713 = .ok (.laload, 1) := by decide +kernel
theorem dL_law_1714 : decode mL_law.2.1 1714 = .ok (.iload 6, 2) := by decide +kernel
theorem dL_law_1716 : decode mL_law.2.1 1716 = .ok (.i2l, 1) := by decide +kernel
theorem dL_law_1717 : decode mL_law.2.1 1717 = .ok (.lcmp, 1) := by decide +kernel
theorem dL_law_1718 : decode mL_law.2.1 1718 = .ok (.ifCond .eq 5, 3) := by decide +kernel
theorem dL_law_1721 : decode mL_law.2.1 1721 = .ok (.iconst 0, 1) := by decide +kernel
theorem dL_law_1722 : decode mL_law.2.1 1722 = .ok (.ireturn, 1) := by decide +kernel
theorem dL_law_1723 : decode mL_law.2.1 1723 = .ok (.goto 373, 3) := by decide +kernel
theorem dL_law_1726 : decode mL_law.2.1 1726 = .ok (.aload_n 1, 1) := by decide +kernel
theorem dL_law_1727 : decode mL_law.2.1 1727 = .ok (.invokevirtual 212, 3) := by decide +kernel
theorem dL_law_1730 : decode mL_law.2.1 1730 = .ok (.aload_n 2, 1) := by decide +kernel
theorem dL_law_1731 : decode mL_law.2.1 1731 = .ok (.invokevirtual 215, 3) := by decide +kernel
theorem dL_law_1734 : decode mL_law.2.1 1734 = .ok (.if_icmp .eq 362, 3) := by decide +kernel
theorem dL_law_1737 : decode mL_law.2.1 1737 = .ok (.iconst 0, 1) := by decide +kernel
theorem dL_law_1738 : decode mL_law.2.1 1738 = .ok (.ireturn, 1) := by decide +kernel
theorem dL_law_1739 : decode mL_law.2.1 1739 = .ok (.aload_n 1, 1) := by decide +kernel
theorem dL_law_1740 : decode mL_law.2.1 1740 = .ok (.aload_n 0, 1) := by decide +kernel
theorem dL_law_1741 : decode mL_law.2.1 1741 = .ok (.iload 4, 2) := by decide +kernel
theorem dL_law_1743 : decode mL_law.2.1 1743 = .ok (.iconst 1, 1) := by decide +kernel
theorem dL_law_1744 : decode mL_law.2.1 1744 = .ok (.iadd, 1) := by decide +kernel
theorem dL_law_1745 : decode mL_law.2.1 1745 = .ok (.iaload, 1) := by decide +kernel
theorem dL_law_1746 : decode mL_law.2.1 1746 = .ok (.aload_n 3, 1) := by decide +kernel
theorem dL_law_1747 : decode mL_law.2.1 1747 = .ok (.invokestatic 216, 3) := by decide +kernel
theorem dL_law_1750 : decode mL_law.2.1 1750 = .ok (.istore 5, 2) := by decide +kernel
theorem dL_law_1752 : decode mL_law.2.1 1752 = .ok (.aload_n 2, 1) := by decide +kernel
theorem dL_law_1753 : decode mL_law.2.1 1753 = .ok (.aload_n 0, 1) := by decide +kernel
theorem dL_law_1754 : decode mL_law.2.1 1754 = .ok (.iload 4, 2) := by decide +kernel
theorem dL_law_1756 : decode mL_law.2.1 1756 = .ok (.iconst 1, 1) := by decide +kernel
theorem dL_law_1757 : decode mL_law.2.1 1757 = .ok (.iadd, 1) := by decide +kernel
theorem dL_law_1758 : decode mL_law.2.1 1758 = .ok (.iaload, 1) := by decide +kernel
theorem dL_law_1759 : decode mL_law.2.1 1759 = .ok (.invokevirtual 218, 3) := by decide +kernel
theorem dL_law_1762 : decode mL_law.2.1 1762 = .ok (.istore 6, 2) := by decide +kernel
theorem dL_law_1764 : decode mL_law.2.1 1764 = .ok (.aload_n 2, 1) := by decide +kernel
theorem dL_law_1765 : decode mL_law.2.1 1765 = .ok (.invokevirtual 122, 3) := by decide +kernel
theorem dL_law_1768 : decode mL_law.2.1 1768 = .ok (.iload 5, 2) := by decide +kernel
theorem dL_law_1770 : decode mL_law.2.1 1770 = .ok (.if_icmp .eq 5, 3) := by decide +kernel
theorem dL_law_1773 : decode mL_law.2.1 1773 = .ok (.iconst 0, 1) := by decide +kernel
theorem dL_law_1774 : decode mL_law.2.1 1774 = .ok (.ireturn, 1) := by decide +kernel
theorem dL_law_1775 : decode mL_law.2.1 1775 = .ok (.iload 5, 2) := by decide +kernel
theorem dL_law_1777 : decode mL_law.2.1 1777 = .ok (.ifCond .ne 15, 3) := by decide +kernel
theorem dL_law_1780 : decode mL_law.2.1 1780 = .ok (.aload_n 3, 1) := by decide +kernel
theorem dL_law_1781 : decode mL_law.2.1 1781 = .ok (.iconst 0, 1) := by decide +kernel
theorem dL_law_1782 : decode mL_law.2.1 1782 = .ok (.laload, 1) := by decide +kernel
theorem dL_law_1783 : decode mL_law.2.1 1783 = .ok (.iload 6, 2) := by decide +kernel
theorem dL_law_1785 : decode mL_law.2.1 1785 = .ok (.i2l, 1) := by decide +kernel
theorem dL_law_1786 : decode mL_law.2.1 1786 = .ok (.lcmp, 1) := by decide +kernel
theorem dL_law_1787 : decode mL_law.2.1 1787 = .ok (.ifCond .eq 5, 3) := by decide +kernel
theorem dL_law_1790 : decode mL_law.2.1 1790 = .ok (.iconst 0, 1) := by decide +kernel
theorem dL_law_1791 : decode mL_law.2.1 1791 = .ok (.ireturn, 1) := by decide +kernel
theorem dL_law_1792 : decode mL_law.2.1 1792 = .ok (.goto 304, 3) := by decide +kernel
theorem dL_law_1795 : decode mL_law.2.1 1795 = .ok (.aload_n 1, 1) := by decide +kernel
theorem dL_law_1796 : decode mL_law.2.1 1796 = .ok (.aload_n 0, 1) := by decide +kernel
theorem dL_law_1797 : decode mL_law.2.1 1797 = .ok (.iload 4, 2) := by decide +kernel
theorem dL_law_1799 : decode mL_law.2.1 1799 = .ok (.iconst 1, 1) := by decide +kernel
theorem dL_law_1800 : decode mL_law.2.1 1800 = .ok (.iadd, 1) := by decide +kernel
theorem dL_law_1801 : decode mL_law.2.1 1801 = .ok (.iaload, 1) := by decide +kernel
theorem dL_law_1802 : decode mL_law.2.1 1802 = .ok (.aload_n 3, 1) := by decide +kernel
theorem dL_law_1803 : decode mL_law.2.1 1803 = .ok (.invokestatic 219, 3) := by decide +kernel
theorem dL_law_1806 : decode mL_law.2.1 1806 = .ok (.istore 5, 2) := by decide +kernel
theorem dL_law_1808 : decode mL_law.2.1 1808 = .ok (.aload_n 2, 1) := by decide +kernel
theorem dL_law_1809 : decode mL_law.2.1 1809 = .ok (.aload_n 0, 1) := by decide +kernel
theorem dL_law_1810 : decode mL_law.2.1 1810 = .ok (.iload 4, 2) := by decide +kernel
theorem dL_law_1812 : decode mL_law.2.1 1812 = .ok (.iconst 1, 1) := by decide +kernel
theorem dL_law_1813 : decode mL_law.2.1 1813 = .ok (.iadd, 1) := by decide +kernel
theorem dL_law_1814 : decode mL_law.2.1 1814 = .ok (.iaload, 1) := by decide +kernel
theorem dL_law_1815 : decode mL_law.2.1 1815 = .ok (.invokevirtual 221, 3) := by decide +kernel
theorem dL_law_1818 : decode mL_law.2.1 1818 = .ok (.istore 6, 2) := by decide +kernel
theorem dL_law_1820 : decode mL_law.2.1 1820 = .ok (.aload_n 2, 1) := by decide +kernel
theorem dL_law_1821 : decode mL_law.2.1 1821 = .ok (.invokevirtual 122, 3) := by decide +kernel
theorem dL_law_1824 : decode mL_law.2.1 1824 = .ok (.iload 5, 2) := by decide +kernel
theorem dL_law_1826 : decode mL_law.2.1 1826 = .ok (.if_icmp .eq 5, 3) := by decide +kernel
theorem dL_law_1829 : decode mL_law.2.1 1829 = .ok (.iconst 0, 1) := by decide +kernel
theorem dL_law_1830 : decode mL_law.2.1 1830 = .ok (.ireturn, 1) := by decide +kernel
theorem dL_law_1831 : decode mL_law.2.1 1831 = .ok (.iload 5, 2) := by decide +kernel
theorem dL_law_1833 : decode mL_law.2.1 1833 = .ok (.ifCond .ne 15, 3) := by decide +kernel
theorem dL_law_1836 : decode mL_law.2.1 1836 = .ok (.aload_n 3, 1) := by decide +kernel
theorem dL_law_1837 : decode mL_law.2.1 1837 = .ok (.iconst 0, 1) := by decide +kernel
theorem dL_law_1838 : decode mL_law.2.1 1838 = .ok (.laload, 1) := by decide +kernel
theorem dL_law_1839 : decode mL_law.2.1 1839 = .ok (.iload 6, 2) := by decide +kernel
theorem dL_law_1841 : decode mL_law.2.1 1841 = .ok (.i2l, 1) := by decide +kernel
theorem dL_law_1842 : decode mL_law.2.1 1842 = .ok (.lcmp, 1) := by decide +kernel
theorem dL_law_1843 : decode mL_law.2.1 1843 = .ok (.ifCond .eq 5, 3) := by decide +kernel
theorem dL_law_1846 : decode mL_law.2.1 1846 = .ok (.iconst 0, 1) := by decide +kernel
theorem dL_law_1847 : decode mL_law.2.1 1847 = .ok (.ireturn, 1) := by decide +kernel
theorem dL_law_1848 : decode mL_law.2.1 1848 = .ok (.goto 248, 3) := by decide +kernel
theorem dL_law_1851 : decode mL_law.2.1 1851 = .ok (.aload_n 1, 1) := by decide +kernel
theorem dL_law_1852 : decode mL_law.2.1 1852 = .ok (.aload_n 0, 1) := by decide +kernel
theorem dL_law_1853 : decode mL_law.2.1 1853 = .ok (.iload 4, 2) := by decide +kernel
theorem dL_law_1855 : decode mL_law.2.1 1855 = .ok (.iconst 1, 1) := by decide +kernel
theorem dL_law_1856 : decode mL_law.2.1 1856 = .ok (.iadd, 1) := by decide +kernel
theorem dL_law_1857 : decode mL_law.2.1 1857 = .ok (.iaload, 1) := by decide +kernel
theorem dL_law_1858 : decode mL_law.2.1 1858 = .ok (.aload_n 3, 1) := by decide +kernel
theorem dL_law_1859 : decode mL_law.2.1 1859 = .ok (.invokestatic 222, 3) := by decide +kernel
theorem dL_law_1862 : decode mL_law.2.1 1862 = .ok (.istore 5, 2) := by decide +kernel
theorem dL_law_1864 : decode mL_law.2.1 1864 = .ok (.aload_n 2, 1) := by decide +kernel
theorem dL_law_1865 : decode mL_law.2.1 1865 = .ok (.aload_n 0, 1) := by decide +kernel
theorem dL_law_1866 : decode mL_law.2.1 1866 = .ok (.iload 4, 2) := by decide +kernel
theorem dL_law_1868 : decode mL_law.2.1 1868 = .ok (.iconst 1, 1) := by decide +kernel
theorem dL_law_1869 : decode mL_law.2.1 1869 = .ok (.iadd, 1) := by decide +kernel
theorem dL_law_1870 : decode mL_law.2.1 1870 = .ok (.iaload, 1) := by decide +kernel
theorem dL_law_1871 : decode mL_law.2.1 1871 = .ok (.invokevirtual 224, 3) := by decide +kernel
theorem dL_law_1874 : decode mL_law.2.1 1874 = .ok (.istore 6, 2) := by decide +kernel
theorem dL_law_1876 : decode mL_law.2.1 1876 = .ok (.aload_n 2, 1) := by decide +kernel
theorem dL_law_1877 : decode mL_law.2.1 1877 = .ok (.invokevirtual 122, 3) := by decide +kernel
theorem dL_law_1880 : decode mL_law.2.1 1880 = .ok (.iload 5, 2) := by decide +kernel
theorem dL_law_1882 : decode mL_law.2.1 1882 = .ok (.if_icmp .eq 5, 3) := by decide +kernel
theorem dL_law_1885 : decode mL_law.2.1 1885 = .ok (.iconst 0, 1) := by decide +kernel
theorem dL_law_1886 : decode mL_law.2.1 1886 = .ok (.ireturn, 1) := by decide +kernel
theorem dL_law_1887 : decode mL_law.2.1 1887 = .ok (.iload 5, 2) := by decide +kernel
theorem dL_law_1889 : decode mL_law.2.1 1889 = .ok (.ifCond .ne 22, 3) := by decide +kernel
theorem dL_law_1892 : decode mL_law.2.1 1892 = .ok (.aload_n 3, 1) := by decide +kernel
theorem dL_law_1893 : decode mL_law.2.1 1893 = .ok (.iconst 0, 1) := by decide +kernel
theorem dL_law_1894 : decode mL_law.2.1 1894 = .ok (.laload, 1) := by decide +kernel
theorem dL_law_1895 : decode mL_law.2.1 1895 = .ok (.iload 6, 2) := by decide +kernel
theorem dL_law_1897 : decode mL_law.2.1 1897 = .ok (.ifCond .eq 7, 3) := by decide +kernel
theorem dL_law_1900 : decode mL_law.2.1 1900 = .ok (.lconst 1, 1) := by decide +kernel
theorem dL_law_1901 : decode mL_law.2.1 1901 = .ok (.goto 4, 3) := by decide +kernel
theorem dL_law_1904 : decode mL_law.2.1 1904 = .ok (.lconst 0, 1) := by decide +kernel
theorem dL_law_1905 : decode mL_law.2.1 1905 = .ok (.lcmp, 1) := by decide +kernel
theorem dL_law_1906 : decode mL_law.2.1 1906 = .ok (.ifCond .eq 5, 3) := by decide +kernel
theorem dL_law_1909 : decode mL_law.2.1 1909 = .ok (.iconst 0, 1) := by decide +kernel
theorem dL_law_1910 : decode mL_law.2.1 1910 = .ok (.ireturn, 1) := by decide +kernel
theorem dL_law_1911 : decode mL_law.2.1 1911 = .ok (.goto 185, 3) := by decide +kernel
theorem dL_law_1914 : decode mL_law.2.1 1914 = .ok (.aload_n 1, 1) := by decide +kernel
theorem dL_law_1915 : decode mL_law.2.1 1915 = .ok (.invokevirtual 225, 3) := by decide +kernel
theorem dL_law_1918 : decode mL_law.2.1 1918 = .ok (.aload_n 2, 1) := by decide +kernel
theorem dL_law_1919 : decode mL_law.2.1 1919 = .ok (.invokevirtual 228, 3) := by decide +kernel
theorem dL_law_1922 : decode mL_law.2.1 1922 = .ok (.if_icmp .eq 174, 3) := by decide +kernel
theorem dL_law_1925 : decode mL_law.2.1 1925 = .ok (.iconst 0, 1) := by decide +kernel
theorem dL_law_1926 : decode mL_law.2.1 1926 = .ok (.ireturn, 1) := by decide +kernel
theorem dL_law_1927 : decode mL_law.2.1 1927 = .ok (.aload_n 1, 1) := by decide +kernel
theorem dL_law_1928 : decode mL_law.2.1 1928 = .ok (.aload_n 0, 1) := by decide +kernel
theorem dL_law_1929 : decode mL_law.2.1 1929 = .ok (.iload 4, 2) := by decide +kernel
theorem dL_law_1931 : decode mL_law.2.1 1931 = .ok (.iconst 1, 1) := by decide +kernel
theorem dL_law_1932 : decode mL_law.2.1 1932 = .ok (.iadd, 1) := by decide +kernel
theorem dL_law_1933 : decode mL_law.2.1 1933 = .ok (.iaload, 1) := by decide +kernel
theorem dL_law_1934 : decode mL_law.2.1 1934 = .ok (.aload_n 3, 1) := by decide +kernel
theorem dL_law_1935 : decode mL_law.2.1 1935 = .ok (.invokestatic 229, 3) := by decide +kernel
theorem dL_law_1938 : decode mL_law.2.1 1938 = .ok (.istore 5, 2) := by decide +kernel
theorem dL_law_1940 : decode mL_law.2.1 1940 = .ok (.aload_n 2, 1) := by decide +kernel
theorem dL_law_1941 : decode mL_law.2.1 1941 = .ok (.aload_n 0, 1) := by decide +kernel
theorem dL_law_1942 : decode mL_law.2.1 1942 = .ok (.iload 4, 2) := by decide +kernel
theorem dL_law_1944 : decode mL_law.2.1 1944 = .ok (.iconst 1, 1) := by decide +kernel
theorem dL_law_1945 : decode mL_law.2.1 1945 = .ok (.iadd, 1) := by decide +kernel
theorem dL_law_1946 : decode mL_law.2.1 1946 = .ok (.iaload, 1) := by decide +kernel
theorem dL_law_1947 : decode mL_law.2.1 1947 = .ok (.invokevirtual 231, 3) := by decide +kernel
theorem dL_law_1950 : decode mL_law.2.1 1950 = .ok (.istore 6, 2) := by decide +kernel
theorem dL_law_1952 : decode mL_law.2.1 1952 = .ok (.aload_n 2, 1) := by decide +kernel
theorem dL_law_1953 : decode mL_law.2.1 1953 = .ok (.invokevirtual 122, 3) := by decide +kernel
theorem dL_law_1956 : decode mL_law.2.1 1956 = .ok (.iload 5, 2) := by decide +kernel
theorem dL_law_1958 : decode mL_law.2.1 1958 = .ok (.if_icmp .eq 5, 3) := by decide +kernel
theorem dL_law_1961 : decode mL_law.2.1 1961 = .ok (.iconst 0, 1) := by decide +kernel
theorem dL_law_1962 : decode mL_law.2.1 1962 = .ok (.ireturn, 1) := by decide +kernel
theorem dL_law_1963 : decode mL_law.2.1 1963 = .ok (.iload 5, 2) := by decide +kernel
theorem dL_law_1965 : decode mL_law.2.1 1965 = .ok (.ifCond .ne 15, 3) := by decide +kernel
theorem dL_law_1968 : decode mL_law.2.1 1968 = .ok (.aload_n 3, 1) := by decide +kernel
theorem dL_law_1969 : decode mL_law.2.1 1969 = .ok (.iconst 0, 1) := by decide +kernel
theorem dL_law_1970 : decode mL_law.2.1 1970 = .ok (.laload, 1) := by decide +kernel
theorem dL_law_1971 : decode mL_law.2.1 1971 = .ok (.iload 6, 2) := by decide +kernel
theorem dL_law_1973 : decode mL_law.2.1 1973 = .ok (.i2l, 1) := by decide +kernel
theorem dL_law_1974 : decode mL_law.2.1 1974 = .ok (.lcmp, 1) := by decide +kernel
theorem dL_law_1975 : decode mL_law.2.1 1975 = .ok (.ifCond .eq 5, 3) := by decide +kernel
theorem dL_law_1978 : decode mL_law.2.1 1978 = .ok (.iconst 0, 1) := by decide +kernel
theorem dL_law_1979 : decode mL_law.2.1 1979 = .ok (.ireturn, 1) := by decide +kernel
theorem dL_law_1980 : decode mL_law.2.1 1980 = .ok (.goto 116, 3) := by decide +kernel
theorem dL_law_1983 : decode mL_law.2.1 1983 = .ok (.aload_n 1, 1) := by decide +kernel
theorem dL_law_1984 : decode mL_law.2.1 1984 = .ok (.aload_n 0, 1) := by decide +kernel
theorem dL_law_1985 : decode mL_law.2.1 1985 = .ok (.iload 4, 2) := by decide +kernel
theorem dL_law_1987 : decode mL_law.2.1 1987 = .ok (.iconst 1, 1) := by decide +kernel
theorem dL_law_1988 : decode mL_law.2.1 1988 = .ok (.iadd, 1) := by decide +kernel
theorem dL_law_1989 : decode mL_law.2.1 1989 = .ok (.iaload, 1) := by decide +kernel
theorem dL_law_1990 : decode mL_law.2.1 1990 = .ok (.aload_n 3, 1) := by decide +kernel
theorem dL_law_1991 : decode mL_law.2.1 1991 = .ok (.invokestatic 232, 3) := by decide +kernel
theorem dL_law_1994 : decode mL_law.2.1 1994 = .ok (.istore 5, 2) := by decide +kernel
theorem dL_law_1996 : decode mL_law.2.1 1996 = .ok (.aload_n 2, 1) := by decide +kernel
theorem dL_law_1997 : decode mL_law.2.1 1997 = .ok (.aload_n 0, 1) := by decide +kernel
theorem dL_law_1998 : decode mL_law.2.1 1998 = .ok (.iload 4, 2) := by decide +kernel
theorem dL_law_2000 : decode mL_law.2.1 2000 = .ok (.iconst 1, 1) := by decide +kernel
theorem dL_law_2001 : decode mL_law.2.1 2001 = .ok (.iadd, 1) := by decide +kernel
theorem dL_law_2002 : decode mL_law.2.1 2002 = .ok (.iaload, 1) := by decide +kernel
theorem dL_law_2003 : decode mL_law.2.1 2003 = .ok (.invokevirtual 234, 3) := by decide +kernel
theorem dL_law_2006 : decode mL_law.2.1 2006 = .ok (.istore 6, 2) := by decide +kernel
theorem dL_law_2008 : decode mL_law.2.1 2008 = .ok (.aload_n 2, 1) := by decide +kernel
theorem dL_law_2009 : decode mL_law.2.1 2009 = .ok (.invokevirtual 122, 3) := by decide +kernel
theorem dL_law_2012 : decode mL_law.2.1 2012 = .ok (.iload 5, 2) := by decide +kernel
theorem dL_law_2014 : decode mL_law.2.1 2014 = .ok (.if_icmp .eq 5, 3) := by decide +kernel
theorem dL_law_2017 : decode mL_law.2.1 2017 = .ok (.iconst 0, 1) := by decide +kernel
theorem dL_law_2018 : decode mL_law.2.1 2018 = .ok (.ireturn, 1) := by decide +kernel
theorem dL_law_2019 : decode mL_law.2.1 2019 = .ok (.iload 5, 2) := by decide +kernel
theorem dL_law_2021 : decode mL_law.2.1 2021 = .ok (.ifCond .ne 15, 3) := by decide +kernel
theorem dL_law_2024 : decode mL_law.2.1 2024 = .ok (.aload_n 3, 1) := by decide +kernel
theorem dL_law_2025 : decode mL_law.2.1 2025 = .ok (.iconst 0, 1) := by decide +kernel
theorem dL_law_2026 : decode mL_law.2.1 2026 = .ok (.laload, 1) := by decide +kernel
theorem dL_law_2027 : decode mL_law.2.1 2027 = .ok (.iload 6, 2) := by decide +kernel
theorem dL_law_2029 : decode mL_law.2.1 2029 = .ok (.i2l, 1) := by decide +kernel
theorem dL_law_2030 : decode mL_law.2.1 2030 = .ok (.lcmp, 1) := by decide +kernel
theorem dL_law_2031 : decode mL_law.2.1 2031 = .ok (.ifCond .eq 5, 3) := by decide +kernel
theorem dL_law_2034 : decode mL_law.2.1 2034 = .ok (.iconst 0, 1) := by decide +kernel
theorem dL_law_2035 : decode mL_law.2.1 2035 = .ok (.ireturn, 1) := by decide +kernel
theorem dL_law_2036 : decode mL_law.2.1 2036 = .ok (.goto 60, 3) := by decide +kernel
theorem dL_law_2039 : decode mL_law.2.1 2039 = .ok (.aload_n 1, 1) := by decide +kernel
theorem dL_law_2040 : decode mL_law.2.1 2040 = .ok (.invokevirtual 235, 3) := by decide +kernel
theorem dL_law_2043 : decode mL_law.2.1 2043 = .ok (.aload_n 2, 1) := by decide +kernel
theorem dL_law_2044 : decode mL_law.2.1 2044 = .ok (.invokevirtual 238, 3) := by decide +kernel
theorem dL_law_2047 : decode mL_law.2.1 2047 = .ok (.lcmp, 1) := by decide +kernel
theorem dL_law_2048 : decode mL_law.2.1 2048 = .ok (.ifCond .eq 48, 3) := by decide +kernel
theorem dL_law_2051 : decode mL_law.2.1 2051 = .ok (.iconst 0, 1) := by decide +kernel
theorem dL_law_2052 : decode mL_law.2.1 2052 = .ok (.ireturn, 1) := by decide +kernel
theorem dL_law_2053 : decode mL_law.2.1 2053 = .ok (.aload_n 1, 1) := by decide +kernel
theorem dL_law_2054 : decode mL_law.2.1 2054 = .ok (.aload_n 3, 1) := by decide +kernel
theorem dL_law_2055 : decode mL_law.2.1 2055 = .ok (.invokestatic 239, 3) := by decide +kernel
theorem dL_law_2058 : decode mL_law.2.1 2058 = .ok (.istore 5, 2) := by decide +kernel
theorem dL_law_2060 : decode mL_law.2.1 2060 = .ok (.aload_n 2, 1) := by decide +kernel
theorem dL_law_2061 : decode mL_law.2.1 2061 = .ok (.invokevirtual 241, 3) := by decide +kernel
theorem dL_law_2064 : decode mL_law.2.1 2064 = .ok (.lstore 6, 2) := by decide +kernel
theorem dL_law_2066 : decode mL_law.2.1 2066 = .ok (.aload_n 2, 1) := by decide +kernel
theorem dL_law_2067 : decode mL_law.2.1 2067 = .ok (.invokevirtual 122, 3) := by decide +kernel
theorem dL_law_2070 : decode mL_law.2.1 2070 = .ok (.iload 5, 2) := by decide +kernel
theorem dL_law_2072 : decode mL_law.2.1 2072 = .ok (.if_icmp .eq 5, 3) := by decide +kernel
theorem dL_law_2075 : decode mL_law.2.1 2075 = .ok (.iconst 0, 1) := by decide +kernel
theorem dL_law_2076 : decode mL_law.2.1 2076 = .ok (.ireturn, 1) := by decide +kernel
theorem dL_law_2077 : decode mL_law.2.1 2077 = .ok (.iload 5, 2) := by decide +kernel
theorem dL_law_2079 : decode mL_law.2.1 2079 = .ok (.ifCond .ne 14, 3) := by decide +kernel
theorem dL_law_2082 : decode mL_law.2.1 2082 = .ok (.aload_n 3, 1) := by decide +kernel
theorem dL_law_2083 : decode mL_law.2.1 2083 = .ok (.iconst 0, 1) := by decide +kernel
theorem dL_law_2084 : decode mL_law.2.1 2084 = .ok (.laload, 1) := by decide +kernel
theorem dL_law_2085 : decode mL_law.2.1 2085 = .ok (.lload 6, 2) := by decide +kernel
theorem dL_law_2087 : decode mL_law.2.1 2087 = .ok (.lcmp, 1) := by decide +kernel
theorem dL_law_2088 : decode mL_law.2.1 2088 = .ok (.ifCond .eq 5, 3) := by decide +kernel
theorem dL_law_2091 : decode mL_law.2.1 2091 = .ok (.iconst 0, 1) := by decide +kernel
theorem dL_law_2092 : decode mL_law.2.1 2092 = .ok (.ireturn, 1) := by decide +kernel
theorem dL_law_2093 : decode mL_law.2.1 2093 = .ok (.goto 3, 3) := by decide +kernel
theorem dL_law_2096 : decode mL_law.2.1 2096 = .ok (.iinc 4 5, 3) := by decide +kernel
theorem dL_law_2099 : decode mL_law.2.1 2099 = .ok (.goto (-2076), 3) := by decide +kernel
theorem dL_law_2102 : decode mL_law.2.1 2102 = .ok (.iconst 1, 1) := by decide +kernel
theorem dL_law_2103 : decode mL_law.2.1 2103 = .ok (.ireturn, 1) := by decide +kernel
abbrev LL (i : Nat) : List (Option Value) := [some (.ref 1000), some (.ref 0), some (.ref 62), some (.ref 88), some (.int (nI i)), none, none, none]
theorem vL_121 : MVL mL_law.1.cls 121 mX9_setSize 9 := ⟨kX9_setSize, vX9_setSize, tj7 41 (by rfl) rfl⟩
theorem vL_122 : MVL mL_law.1.cls 122 mX9_thrown 9 := ⟨kX9_thrown, vX9_thrown, tj7 37 (by rfl) rfl⟩
theorem vL_128 : MVL mL_law.1.cls 128 mX9_size 9 := ⟨kX9_size, vX9_size, tj7 63 (by rfl) rfl⟩
theorem vL_131 : MVL mL_law.1.cls 131 mX9_setOutput 9 := ⟨kX9_setOutput, vX9_setOutput, tj7 71 (by rfl) rfl⟩
theorem vL_134 : MVL mL_law.1.cls 134 mX9_output 9 := ⟨kX9_output, vX9_output, tj7 75 (by rfl) rfl⟩
theorem vL_140 : MVL mL_law.1.cls 140 mX9_setNumber 9 := ⟨kX9_setNumber, vX9_setNumber, tj7 79 (by rfl) rfl⟩
theorem vL_141 : MVL mL_law.1.cls 141 mX8_number 8 := ⟨kX8_number, vX8_number, tj2 83 (by rfl) rfl⟩
theorem vL_144 : MVL mL_law.1.cls 144 mX9_number 9 := ⟨kX9_number, vX9_number, tj7 87 (by rfl) rfl⟩
theorem vL_147 : MVL mL_law.1.cls 147 mX9_append 9 := ⟨kX9_append, vX9_append, tj7 127 (by rfl) rfl⟩
theorem vL_151 : MVL mL_law.1.cls 151 mX9_compile 9 := ⟨kX9_compile, vX9_compile, tj7 131 (by rfl) rfl⟩
theorem vL_154 : MVL mL_law.1.cls 154 mX9_error 9 := ⟨kX9_error, vX9_error, tj7 182 (by rfl) rfl⟩
theorem vL_155 : MVL mL_law.1.cls 155 mX8_mirror 8 := ⟨kX8_mirror, vX8_mirror, tj2 91 (by rfl) rfl⟩
theorem vL_158 : MVL mL_law.1.cls 158 mX9_mirror 9 := ⟨kX9_mirror, vX9_mirror, tj7 95 (by rfl) rfl⟩
theorem vL_159 : MVL mL_law.1.cls 159 mX8_complement 8 := ⟨kX8_complement, vX8_complement, tj2 115 (by rfl) rfl⟩
theorem vL_162 : MVL mL_law.1.cls 162 mX9_complement 9 := ⟨kX9_complement, vX9_complement, tj7 107 (by rfl) rfl⟩
theorem vL_163 : MVL mL_law.1.cls 163 mX8_leastNumber 8 := ⟨kX8_leastNumber, vX8_leastNumber, tj2 123 (by rfl) rfl⟩
theorem vL_166 : MVL mL_law.1.cls 166 mX9_leastNumber 9 := ⟨kX9_leastNumber, vX9_leastNumber, tj7 115 (by rfl) rfl⟩
theorem vL_169 : MVL mL_law.1.cls 169 mX9_compose 9 := ⟨kX9_compose, vX9_compose, tj7 119 (by rfl) rfl⟩
theorem vL_173 : MVL mL_law.1.cls 173 mX9_setWord 9 := ⟨kX9_setWord, vX9_setWord, tj7 186 (by rfl) rfl⟩
theorem vL_176 : MVL mL_law.1.cls 176 mX9_wordLength 9 := ⟨kX9_wordLength, vX9_wordLength, tj7 197 (by rfl) rfl⟩
theorem vL_179 : MVL mL_law.1.cls 179 mX9_wordIndex 9 := ⟨kX9_wordIndex, vX9_wordIndex, tj7 201 (by rfl) rfl⟩
theorem vL_182 : MVL mL_law.1.cls 182 mX9_cell 9 := ⟨kX9_cell, vX9_cell, tj7 205 (by rfl) rfl⟩
theorem vL_186 : MVL mL_law.1.cls 186 mX9_apply 9 := ⟨kX9_apply, vX9_apply, tj7 213 (by rfl) rfl⟩
theorem vL_189 : MVL mL_law.1.cls 189 mX9_orbit 9 := ⟨kX9_orbit, vX9_orbit, tj7 221 (by rfl) rfl⟩
theorem vL_192 : MVL mL_law.1.cls 192 mX9_preimageCount 9 := ⟨kX9_preimageCount, vX9_preimageCount, tj7 225 (by rfl) rfl⟩
theorem vL_196 : MVL mL_law.1.cls 196 mX9_preimage 9 := ⟨kX9_preimage, vX9_preimage, tj8 5 (by rfl) rfl⟩
theorem vL_199 : MVL mL_law.1.cls 199 mX9_preimagesBetween 9 := ⟨kX9_preimagesBetween, vX9_preimagesBetween, tj8 17 (by rfl) rfl⟩
theorem vL_202 : MVL mL_law.1.cls 202 mX9_wordsWith 9 := ⟨kX9_wordsWith, vX9_wordsWith, tj8 21 (by rfl) rfl⟩
theorem vL_205 : MVL mL_law.1.cls 205 mX9_mostPreimages 9 := ⟨kX9_mostPreimages, vX9_mostPreimages, tj8 29 (by rfl) rfl⟩
theorem vL_208 : MVL mL_law.1.cls 208 mX9_fixedWords 9 := ⟨kX9_fixedWords, vX9_fixedWords, tj8 33 (by rfl) rfl⟩
theorem vL_211 : MVL mL_law.1.cls 211 mX9_edge 9 := ⟨kX9_edge, vX9_edge, tj8 37 (by rfl) rfl⟩
theorem vL_212 : MVL mL_law.1.cls 212 mX8_subsets 8 := ⟨kX8_subsets, vX8_subsets, tj2 130 (by rfl) rfl⟩
theorem vL_215 : MVL mL_law.1.cls 215 mX9_subsets 9 := ⟨kX9_subsets, vX9_subsets, tj8 41 (by rfl) rfl⟩
theorem vL_218 : MVL mL_law.1.cls 218 mX9_orphans 9 := ⟨kX9_orphans, vX9_orphans, tj8 57 (by rfl) rfl⟩
theorem vL_221 : MVL mL_law.1.cls 221 mX9_shortestOrphan 9 := ⟨kX9_shortestOrphan, vX9_shortestOrphan, tj8 61 (by rfl) rfl⟩
theorem vL_224 : MVL mL_law.1.cls 224 mX9_has 9 := ⟨kX9_has, vX9_has, tj8 73 (by rfl) rfl⟩
theorem vL_225 : MVL mL_law.1.cls 225 mX8_cyclicPairs 8 := ⟨kX8_cyclicPairs, vX8_cyclicPairs, tj2 153 (by rfl) rfl⟩
theorem vL_228 : MVL mL_law.1.cls 228 mX9_cyclicPairs 9 := ⟨kX9_cyclicPairs, vX9_cyclicPairs, tj8 65 (by rfl) rfl⟩
theorem vL_231 : MVL mL_law.1.cls 231 mX9_inverse 9 := ⟨kX9_inverse, vX9_inverse, tj8 89 (by rfl) rfl⟩
theorem vL_234 : MVL mL_law.1.cls 234 mX9_inverseOutput 9 := ⟨kX9_inverseOutput, vX9_inverseOutput, tj8 101 (by rfl) rfl⟩
theorem vL_235 : MVL mL_law.1.cls 235 mX8_save 8 := ⟨kX8_save, vX8_save, tj2 177 (by rfl) rfl⟩
theorem vL_238 : MVL mL_law.1.cls 238 mX9_save 9 := ⟨kX9_save, vX9_save, tj8 105 (by rfl) rfl⟩
theorem vL_241 : MVL mL_law.1.cls 241 mX9_restore 9 := ⟨kX9_restore, vX9_restore, tj8 112 (by rfl) rfl⟩
theorem lc_setSize {X : CT} {o : Oc} {P : Wt → Hp → Prop} (C : Cx X mL_law [] 10 zL o P) {z : Nat × Nat} {w : Wt} {h : Hp} {N i : Nat} {xs : Nat → Int32} {S Z : Sc} {sv : Bool} {F : Sf} (hs : SC X w N xs) (hN : N ≤ 2560) (hi : i + 5 ≤ N) (hz : z.1 + 1 ≤ 603072 ∧ z.2 + 6 ≤ 7157866) (hJ : JI2 h S sv Z F) (K : ∀ h' S' sv' Z' F' z', JI2 h' S' sv' Z' F' → z'.1 ≤ z.1 + 1 ∧ z'.2 ≤ z.2 + 6 → V X z' w h' 2096 (LL i) []) : V X z w h 192 (LL i) [] := by
  obtain ⟨th, hR⟩ := hJ.2.1
  obtain ⟨f, hf⟩ := hJ.2.2
  obtain ⟨S', sv', Z', F', o', z', r, y, j8, j9, hr4, hc⟩ := jm_setSize (w := w) (S := S) (sv := sv) (Z := Z) (F := F) (x := xs (i + 1)) (y := xs (i + 2))
  obtain ⟨d8, P8, hd8, c8, q8⟩ := j8 h hJ.1
  have hz' : z'.1 ≤ 1 ∧ z'.2 ≤ 6 := by rcases hc with ⟨-, -, rfl⟩ | ⟨E, -, -, rfl⟩ <;> decide
  have hJO : JO rwL_setSize o' z' r f P8 (RW h S' sv' Z' F' r y.toInt64) := by
    rcases hc with ⟨rfl, rfl, rfl⟩ | ⟨E, rfl, hE, rfl⟩
    · exact .inl ⟨y, rfl, rfl, rfl, fun h1 p1 => ⟨((q8 h1 p1).gf 88 (by decide)).trans hf, rw_ok (q8 h1 p1)⟩⟩
    · exact .inr ⟨E, rfl, rfl, hE, fun h1 p1 => rw_thr (q8 h1 p1) hf (fun e => by subst e; simp [rwL_setSize] at hE)⟩
  have cw := xL_setSize hJO hJ.1.ob hd8 c8
  refine v_aload_n C dL_law_192 rfl ?_
  refine v_aload_n C dL_law_193 rfl ?_
  refine v_iload C dL_law_194 rfl ?_
  refine v_iconst C dL_law_196 (v := nI 1) rfl ?_
  refine v_iaddN C dL_law_197 ?_
  refine v_sld C hs hN (by omega) dL_law_198 ?_
  refine v_aload_n C dL_law_199 rfl ?_
  refine v_iload C dL_law_200 rfl ?_
  refine v_iconst C dL_law_202 (v := nI 2) rfl ?_
  refine v_iaddN C dL_law_203 ?_
  refine v_sld C hs hN (by omega) dL_law_204 ?_
  refine v_aload_n C dL_law_205 rfl ?_
  refine v_callH C dL_law_206 kL_setSize (tj2 193 (by rfl) rfl) cw rfl rfl rfl ⟨by show z.1 + z'.1 ≤ 603072; omega, by show z.2 + z'.2 ≤ 7157866; omega⟩ rfl rfl (fun _ => rfl) (fun h1 R1 => ?_)
  dsimp only [Option.toList, List.cons_append, List.nil_append]
  obtain ⟨hP1, fr1, f1, hf1, hy1⟩ := R1
  have hR1 := hR.low (h' := h1) (fun j a b => fr1 j (by omega) (by omega))
  obtain ⟨d9, hd9, c9⟩ := j9 h1 _ hR1
  obtain ⟨u1, o1, -⟩ := hR1.o
  refine v_istore C dL_law_209 rfl ?_
  dsimp only [sto1, sto2, killL]
  refine v_aload_n C dL_law_211 rfl ?_
  refine v_aload_n C dL_law_212 rfl ?_
  refine v_iload C dL_law_213 rfl ?_
  refine v_iconst C dL_law_215 (v := nI 1) rfl ?_
  refine v_iaddN C dL_law_216 ?_
  refine v_sld C hs hN (by omega) dL_law_217 ?_
  refine v_aload_n C dL_law_218 rfl ?_
  refine v_iload C dL_law_219 rfl ?_
  refine v_iconst C dL_law_221 (v := nI 2) rfl ?_
  refine v_iaddN C dL_law_222 ?_
  refine v_sld C hs hN (by omega) dL_law_223 ?_
  refine v_callV C dL_law_224 vL_121 o1 c9 rfl (blt10 hd9) rfl ⟨Nat.ble_eq_true_of_le (by show z.1 + z'.1 ≤ 603072; omega), Nat.ble_eq_true_of_le (by show z.2 + z'.2 ≤ 7157866; omega)⟩ rfl rfl (fun _ => rfl) (fun h2 hp => ?_)
  dsimp only [Option.toList, List.cons_append, List.nil_append]
  refine v_istore C dL_law_227 rfl ?_
  dsimp only [sto1, sto2, killL]
  refine v_aload_n C dL_law_229 rfl ?_
  obtain ⟨u2, o2, t2, -⟩ := hp.o
  refine v_callV C dL_law_230 vL_122 o2 (k9_thrown o2) rfl rfl rfl ⟨Nat.ble_eq_true_of_le (by show z.1 + z'.1 ≤ 603072; omega), Nat.ble_eq_true_of_le (by show z.2 + z'.2 ≤ 7157866; omega)⟩ rfl rfl (fun _ => rfl) (fun h3 e3 => ?_)
  rw [show h3 = _ from e3]
  dsimp only [Option.toList, List.cons_append, List.nil_append]
  rw [t2]
  have J2 : JI2 h2 S' sv' Z' F' := ⟨hP1.top (fun j hj => hp.fr j (.inl (by omega))), ⟨_, hp.low (fun _ _ _ => rfl)⟩, f1, (hp.fr 88 (.inr (by decide))).trans hf1⟩
  refine v_iload C dL_law_233 rfl ?_
  refine v_icmp_eqN C dL_law_235 (tgt := 240) (by decide) (by omega) (by omega) (fun _ => ?_) (fun hne => absurd rfl hne)
  refine v_iload C dL_law_240 rfl ?_
  refine v_if_neN C dL_law_242 (tgt := 257) (by decide) (by omega) (fun _ => v_goto C dL_law_257 (tgt := 2096) (by decide) (v_forget _ _ _ _ _ _ _ _ (K h2 S' sv' Z' F' _ J2 ⟨by show z.1 + z'.1 ≤ z.1 + 1; omega, by show z.2 + z'.2 ≤ z.2 + 6; omega⟩))) (fun hr0 => ?_)
  refine v_aload_n C dL_law_245 rfl ?_
  refine v_iconst C dL_law_246 (v := nI 0) rfl ?_
  refine v_lald C dL_law_247 ((hp.fr 88 (.inr (by decide))).trans hf1) (by decide) rfl (j := 0) (by decide) (hy1 hr0) ?_
  refine v_iload C dL_law_248 rfl ?_
  refine v_i2l C dL_law_250 ?_
  refine v_lcmp C dL_law_251 ?_
  exact v_if_eq C dL_law_252 (tgt := 257) (by decide) (fun _ => v_goto C dL_law_257 (tgt := 2096) (by decide) (v_forget _ _ _ _ _ _ _ _ (K h2 S' sv' Z' F' _ J2 ⟨by show z.1 + z'.1 ≤ z.1 + 1; omega, by show z.2 + z'.2 ≤ z.2 + 6; omega⟩))) (fun hne => absurd (cmp_self _) hne)
theorem lc_size {X : CT} {o : Oc} {P : Wt → Hp → Prop} (C : Cx X mL_law [] 10 zL o P) {z : Nat × Nat} {w : Wt} {h : Hp} {N i : Nat} {xs : Nat → Int32} {S Z : Sc} {sv : Bool} {F : Sf} (hs : SC X w N xs) (hN : N ≤ 2560) (hi : i + 5 ≤ N) (hz : z.1 + 1 ≤ 603072 ∧ z.2 + 6 ≤ 7157866) (hJ : JI2 h S sv Z F) (K : ∀ h' S' sv' Z' F' z', JI2 h' S' sv' Z' F' → z'.1 ≤ z.1 + 1 ∧ z'.2 ≤ z.2 + 6 → V X z' w h' 2096 (LL i) []) : V X z w h 260 (LL i) [] := by
  obtain ⟨th, hR⟩ := hJ.2.1
  obtain ⟨f, hf⟩ := hJ.2.2
  obtain ⟨S', sv', Z', F', o', z', r, y, j8, j9, hr4, hc⟩ := jm_size (w := w) (S := S) (sv := sv) (Z := Z) (F := F) (x := xs (i + 1))
  obtain ⟨d8, P8, hd8, c8, q8⟩ := j8 h hJ.1
  have hz' : z'.1 ≤ 1 ∧ z'.2 ≤ 6 := by rcases hc with ⟨-, -, rfl⟩ | ⟨E, -, -, rfl⟩ <;> decide
  have hJO : JO rwL_size o' z' r f P8 (RW h S' sv' Z' F' r y.toInt64) := by
    rcases hc with ⟨rfl, rfl, rfl⟩ | ⟨E, rfl, hE, rfl⟩
    · exact .inl ⟨y, rfl, rfl, rfl, fun h1 p1 => ⟨((q8 h1 p1).gf 88 (by decide)).trans hf, rw_ok (q8 h1 p1)⟩⟩
    · exact .inr ⟨E, rfl, rfl, hE, fun h1 p1 => rw_thr (q8 h1 p1) hf (fun e => by subst e; simp [rwL_size] at hE)⟩
  have cw := xL_size hJO hJ.1.ob hd8 c8
  refine v_aload_n C dL_law_260 rfl ?_
  refine v_aload_n C dL_law_261 rfl ?_
  refine v_iload C dL_law_262 rfl ?_
  refine v_iconst C dL_law_264 (v := nI 1) rfl ?_
  refine v_iaddN C dL_law_265 ?_
  refine v_sld C hs hN (by omega) dL_law_266 ?_
  refine v_aload_n C dL_law_267 rfl ?_
  refine v_callH C dL_law_268 kL_size (tj3 41 (by rfl) rfl) cw rfl rfl rfl ⟨by show z.1 + z'.1 ≤ 603072; omega, by show z.2 + z'.2 ≤ 7157866; omega⟩ rfl rfl (fun _ => rfl) (fun h1 R1 => ?_)
  dsimp only [Option.toList, List.cons_append, List.nil_append]
  obtain ⟨hP1, fr1, f1, hf1, hy1⟩ := R1
  have hR1 := hR.low (h' := h1) (fun j a b => fr1 j (by omega) (by omega))
  obtain ⟨d9, hd9, c9⟩ := j9 h1 _ hR1
  obtain ⟨u1, o1, -⟩ := hR1.o
  refine v_istore C dL_law_271 rfl ?_
  dsimp only [sto1, sto2, killL]
  refine v_aload_n C dL_law_273 rfl ?_
  refine v_aload_n C dL_law_274 rfl ?_
  refine v_iload C dL_law_275 rfl ?_
  refine v_iconst C dL_law_277 (v := nI 1) rfl ?_
  refine v_iaddN C dL_law_278 ?_
  refine v_sld C hs hN (by omega) dL_law_279 ?_
  refine v_callV C dL_law_280 vL_128 o1 c9 rfl (blt10 hd9) rfl ⟨Nat.ble_eq_true_of_le (by show z.1 + z'.1 ≤ 603072; omega), Nat.ble_eq_true_of_le (by show z.2 + z'.2 ≤ 7157866; omega)⟩ rfl rfl (fun _ => rfl) (fun h2 hp => ?_)
  dsimp only [Option.toList, List.cons_append, List.nil_append]
  refine v_istore C dL_law_283 rfl ?_
  dsimp only [sto1, sto2, killL]
  refine v_aload_n C dL_law_285 rfl ?_
  obtain ⟨u2, o2, t2, -⟩ := hp.o
  refine v_callV C dL_law_286 vL_122 o2 (k9_thrown o2) rfl rfl rfl ⟨Nat.ble_eq_true_of_le (by show z.1 + z'.1 ≤ 603072; omega), Nat.ble_eq_true_of_le (by show z.2 + z'.2 ≤ 7157866; omega)⟩ rfl rfl (fun _ => rfl) (fun h3 e3 => ?_)
  rw [show h3 = _ from e3]
  dsimp only [Option.toList, List.cons_append, List.nil_append]
  rw [t2]
  have J2 : JI2 h2 S' sv' Z' F' := ⟨hP1.top (fun j hj => hp.fr j (.inl (by omega))), ⟨_, hp.low (fun _ _ _ => rfl)⟩, f1, (hp.fr 88 (.inr (by decide))).trans hf1⟩
  refine v_iload C dL_law_289 rfl ?_
  refine v_icmp_eqN C dL_law_291 (tgt := 296) (by decide) (by omega) (by omega) (fun _ => ?_) (fun hne => absurd rfl hne)
  refine v_iload C dL_law_296 rfl ?_
  refine v_if_neN C dL_law_298 (tgt := 313) (by decide) (by omega) (fun _ => v_goto C dL_law_313 (tgt := 2096) (by decide) (v_forget _ _ _ _ _ _ _ _ (K h2 S' sv' Z' F' _ J2 ⟨by show z.1 + z'.1 ≤ z.1 + 1; omega, by show z.2 + z'.2 ≤ z.2 + 6; omega⟩))) (fun hr0 => ?_)
  refine v_aload_n C dL_law_301 rfl ?_
  refine v_iconst C dL_law_302 (v := nI 0) rfl ?_
  refine v_lald C dL_law_303 ((hp.fr 88 (.inr (by decide))).trans hf1) (by decide) rfl (j := 0) (by decide) (hy1 hr0) ?_
  refine v_iload C dL_law_304 rfl ?_
  refine v_i2l C dL_law_306 ?_
  refine v_lcmp C dL_law_307 ?_
  exact v_if_eq C dL_law_308 (tgt := 313) (by decide) (fun _ => v_goto C dL_law_313 (tgt := 2096) (by decide) (v_forget _ _ _ _ _ _ _ _ (K h2 S' sv' Z' F' _ J2 ⟨by show z.1 + z'.1 ≤ z.1 + 1; omega, by show z.2 + z'.2 ≤ z.2 + 6; omega⟩))) (fun hne => absurd (cmp_self _) hne)
theorem lc_setOutput {X : CT} {o : Oc} {P : Wt → Hp → Prop} (C : Cx X mL_law [] 10 zL o P) {z : Nat × Nat} {w : Wt} {h : Hp} {N i : Nat} {xs : Nat → Int32} {S Z : Sc} {sv : Bool} {F : Sf} (hs : SC X w N xs) (hN : N ≤ 2560) (hi : i + 5 ≤ N) (hz : z.1 + 1 ≤ 603072 ∧ z.2 + 6 ≤ 7157866) (hJ : JI2 h S sv Z F) (K : ∀ h' S' sv' Z' F' z', JI2 h' S' sv' Z' F' → z'.1 ≤ z.1 + 1 ∧ z'.2 ≤ z.2 + 6 → V X z' w h' 2096 (LL i) []) : V X z w h 316 (LL i) [] := by
  obtain ⟨th, hR⟩ := hJ.2.1
  obtain ⟨f, hf⟩ := hJ.2.2
  obtain ⟨S', sv', Z', F', o', z', r, y, j8, j9, hr4, hc⟩ := jm_setOutput hJ.oks (w := w) (S := S) (sv := sv) (Z := Z) (F := F) (x := xs (i + 1)) (y := xs (i + 2))
  obtain ⟨d8, P8, hd8, c8, q8⟩ := j8 h hJ.1
  have hz' : z'.1 ≤ 1 ∧ z'.2 ≤ 6 := by rcases hc with ⟨-, -, rfl⟩ | ⟨E, -, -, rfl⟩ <;> decide
  have hJO : JO rwL_setOutput o' z' r f P8 (RW h S' sv' Z' F' r y.toInt64) := by
    rcases hc with ⟨rfl, rfl, rfl⟩ | ⟨E, rfl, hE, rfl⟩
    · exact .inl ⟨y, rfl, rfl, rfl, fun h1 p1 => ⟨((q8 h1 p1).gf 88 (by decide)).trans hf, rw_ok (q8 h1 p1)⟩⟩
    · exact .inr ⟨E, rfl, rfl, hE, fun h1 p1 => rw_thr (q8 h1 p1) hf (fun e => by subst e; simp [rwL_setOutput] at hE)⟩
  have cw := xL_setOutput hJO hJ.1.ob hd8 c8
  refine v_aload_n C dL_law_316 rfl ?_
  refine v_aload_n C dL_law_317 rfl ?_
  refine v_iload C dL_law_318 rfl ?_
  refine v_iconst C dL_law_320 (v := nI 1) rfl ?_
  refine v_iaddN C dL_law_321 ?_
  refine v_sld C hs hN (by omega) dL_law_322 ?_
  refine v_aload_n C dL_law_323 rfl ?_
  refine v_iload C dL_law_324 rfl ?_
  refine v_iconst C dL_law_326 (v := nI 2) rfl ?_
  refine v_iaddN C dL_law_327 ?_
  refine v_sld C hs hN (by omega) dL_law_328 ?_
  refine v_aload_n C dL_law_329 rfl ?_
  refine v_callH C dL_law_330 kL_setOutput (tj3 85 (by rfl) rfl) cw rfl rfl rfl ⟨by show z.1 + z'.1 ≤ 603072; omega, by show z.2 + z'.2 ≤ 7157866; omega⟩ rfl rfl (fun _ => rfl) (fun h1 R1 => ?_)
  dsimp only [Option.toList, List.cons_append, List.nil_append]
  obtain ⟨hP1, fr1, f1, hf1, hy1⟩ := R1
  have hR1 := hR.low (h' := h1) (fun j a b => fr1 j (by omega) (by omega))
  obtain ⟨d9, hd9, c9⟩ := j9 h1 _ hR1
  obtain ⟨u1, o1, -⟩ := hR1.o
  refine v_istore C dL_law_333 rfl ?_
  dsimp only [sto1, sto2, killL]
  refine v_aload_n C dL_law_335 rfl ?_
  refine v_aload_n C dL_law_336 rfl ?_
  refine v_iload C dL_law_337 rfl ?_
  refine v_iconst C dL_law_339 (v := nI 1) rfl ?_
  refine v_iaddN C dL_law_340 ?_
  refine v_sld C hs hN (by omega) dL_law_341 ?_
  refine v_aload_n C dL_law_342 rfl ?_
  refine v_iload C dL_law_343 rfl ?_
  refine v_iconst C dL_law_345 (v := nI 2) rfl ?_
  refine v_iaddN C dL_law_346 ?_
  refine v_sld C hs hN (by omega) dL_law_347 ?_
  refine v_callV C dL_law_348 vL_131 o1 c9 rfl (blt10 hd9) rfl ⟨Nat.ble_eq_true_of_le (by show z.1 + z'.1 ≤ 603072; omega), Nat.ble_eq_true_of_le (by show z.2 + z'.2 ≤ 7157866; omega)⟩ rfl rfl (fun _ => rfl) (fun h2 hp => ?_)
  dsimp only [Option.toList, List.cons_append, List.nil_append]
  refine v_istore C dL_law_351 rfl ?_
  dsimp only [sto1, sto2, killL]
  refine v_aload_n C dL_law_353 rfl ?_
  obtain ⟨u2, o2, t2, -⟩ := hp.o
  refine v_callV C dL_law_354 vL_122 o2 (k9_thrown o2) rfl rfl rfl ⟨Nat.ble_eq_true_of_le (by show z.1 + z'.1 ≤ 603072; omega), Nat.ble_eq_true_of_le (by show z.2 + z'.2 ≤ 7157866; omega)⟩ rfl rfl (fun _ => rfl) (fun h3 e3 => ?_)
  rw [show h3 = _ from e3]
  dsimp only [Option.toList, List.cons_append, List.nil_append]
  rw [t2]
  have J2 : JI2 h2 S' sv' Z' F' := ⟨hP1.top (fun j hj => hp.fr j (.inl (by omega))), ⟨_, hp.low (fun _ _ _ => rfl)⟩, f1, (hp.fr 88 (.inr (by decide))).trans hf1⟩
  refine v_iload C dL_law_357 rfl ?_
  refine v_icmp_eqN C dL_law_359 (tgt := 364) (by decide) (by omega) (by omega) (fun _ => ?_) (fun hne => absurd rfl hne)
  refine v_iload C dL_law_364 rfl ?_
  refine v_if_neN C dL_law_366 (tgt := 381) (by decide) (by omega) (fun _ => v_goto C dL_law_381 (tgt := 2096) (by decide) (v_forget _ _ _ _ _ _ _ _ (K h2 S' sv' Z' F' _ J2 ⟨by show z.1 + z'.1 ≤ z.1 + 1; omega, by show z.2 + z'.2 ≤ z.2 + 6; omega⟩))) (fun hr0 => ?_)
  refine v_aload_n C dL_law_369 rfl ?_
  refine v_iconst C dL_law_370 (v := nI 0) rfl ?_
  refine v_lald C dL_law_371 ((hp.fr 88 (.inr (by decide))).trans hf1) (by decide) rfl (j := 0) (by decide) (hy1 hr0) ?_
  refine v_iload C dL_law_372 rfl ?_
  refine v_i2l C dL_law_374 ?_
  refine v_lcmp C dL_law_375 ?_
  exact v_if_eq C dL_law_376 (tgt := 381) (by decide) (fun _ => v_goto C dL_law_381 (tgt := 2096) (by decide) (v_forget _ _ _ _ _ _ _ _ (K h2 S' sv' Z' F' _ J2 ⟨by show z.1 + z'.1 ≤ z.1 + 1; omega, by show z.2 + z'.2 ≤ z.2 + 6; omega⟩))) (fun hne => absurd (cmp_self _) hne)
theorem lc_output {X : CT} {o : Oc} {P : Wt → Hp → Prop} (C : Cx X mL_law [] 10 zL o P) {z : Nat × Nat} {w : Wt} {h : Hp} {N i : Nat} {xs : Nat → Int32} {S Z : Sc} {sv : Bool} {F : Sf} (hs : SC X w N xs) (hN : N ≤ 2560) (hi : i + 5 ≤ N) (hz : z.1 + 1 ≤ 603072 ∧ z.2 + 6 ≤ 7157866) (hJ : JI2 h S sv Z F) (K : ∀ h' S' sv' Z' F' z', JI2 h' S' sv' Z' F' → z'.1 ≤ z.1 + 1 ∧ z'.2 ≤ z.2 + 6 → V X z' w h' 2096 (LL i) []) : V X z w h 384 (LL i) [] := by
  obtain ⟨th, hR⟩ := hJ.2.1
  obtain ⟨f, hf⟩ := hJ.2.2
  obtain ⟨S', sv', Z', F', o', z', r, y, j8, j9, hr4, hc⟩ := jm_output hJ.oks (w := w) (S := S) (sv := sv) (Z := Z) (F := F) (x := xs (i + 1))
  obtain ⟨d8, P8, hd8, c8, q8⟩ := j8 h hJ.1
  have hz' : z'.1 ≤ 1 ∧ z'.2 ≤ 6 := by rcases hc with ⟨-, -, rfl⟩ | ⟨E, -, -, rfl⟩ <;> decide
  have hJO : JO rwL_output o' z' r f P8 (RW h S' sv' Z' F' r y.toInt64) := by
    rcases hc with ⟨rfl, rfl, rfl⟩ | ⟨E, rfl, hE, rfl⟩
    · exact .inl ⟨y, rfl, rfl, rfl, fun h1 p1 => ⟨((q8 h1 p1).gf 88 (by decide)).trans hf, rw_ok (q8 h1 p1)⟩⟩
    · exact .inr ⟨E, rfl, rfl, hE, fun h1 p1 => rw_thr (q8 h1 p1) hf (fun e => by subst e; simp [rwL_output] at hE)⟩
  have cw := xL_output hJO hJ.1.ob hd8 c8
  refine v_aload_n C dL_law_384 rfl ?_
  refine v_aload_n C dL_law_385 rfl ?_
  refine v_iload C dL_law_386 rfl ?_
  refine v_iconst C dL_law_388 (v := nI 1) rfl ?_
  refine v_iaddN C dL_law_389 ?_
  refine v_sld C hs hN (by omega) dL_law_390 ?_
  refine v_aload_n C dL_law_391 rfl ?_
  refine v_callH C dL_law_392 kL_output (tj3 98 (by rfl) rfl) cw rfl rfl rfl ⟨by show z.1 + z'.1 ≤ 603072; omega, by show z.2 + z'.2 ≤ 7157866; omega⟩ rfl rfl (fun _ => rfl) (fun h1 R1 => ?_)
  dsimp only [Option.toList, List.cons_append, List.nil_append]
  obtain ⟨hP1, fr1, f1, hf1, hy1⟩ := R1
  have hR1 := hR.low (h' := h1) (fun j a b => fr1 j (by omega) (by omega))
  obtain ⟨d9, hd9, c9⟩ := j9 h1 _ hR1
  obtain ⟨u1, o1, -⟩ := hR1.o
  refine v_istore C dL_law_395 rfl ?_
  dsimp only [sto1, sto2, killL]
  refine v_aload_n C dL_law_397 rfl ?_
  refine v_aload_n C dL_law_398 rfl ?_
  refine v_iload C dL_law_399 rfl ?_
  refine v_iconst C dL_law_401 (v := nI 1) rfl ?_
  refine v_iaddN C dL_law_402 ?_
  refine v_sld C hs hN (by omega) dL_law_403 ?_
  refine v_callV C dL_law_404 vL_134 o1 c9 rfl (blt10 hd9) rfl ⟨Nat.ble_eq_true_of_le (by show z.1 + z'.1 ≤ 603072; omega), Nat.ble_eq_true_of_le (by show z.2 + z'.2 ≤ 7157866; omega)⟩ rfl rfl (fun _ => rfl) (fun h2 hp => ?_)
  dsimp only [Option.toList, List.cons_append, List.nil_append]
  refine v_istore C dL_law_407 rfl ?_
  dsimp only [sto1, sto2, killL]
  refine v_aload_n C dL_law_409 rfl ?_
  obtain ⟨u2, o2, t2, -⟩ := hp.o
  refine v_callV C dL_law_410 vL_122 o2 (k9_thrown o2) rfl rfl rfl ⟨Nat.ble_eq_true_of_le (by show z.1 + z'.1 ≤ 603072; omega), Nat.ble_eq_true_of_le (by show z.2 + z'.2 ≤ 7157866; omega)⟩ rfl rfl (fun _ => rfl) (fun h3 e3 => ?_)
  rw [show h3 = _ from e3]
  dsimp only [Option.toList, List.cons_append, List.nil_append]
  rw [t2]
  have J2 : JI2 h2 S' sv' Z' F' := ⟨hP1.top (fun j hj => hp.fr j (.inl (by omega))), ⟨_, hp.low (fun _ _ _ => rfl)⟩, f1, (hp.fr 88 (.inr (by decide))).trans hf1⟩
  refine v_iload C dL_law_413 rfl ?_
  refine v_icmp_eqN C dL_law_415 (tgt := 420) (by decide) (by omega) (by omega) (fun _ => ?_) (fun hne => absurd rfl hne)
  refine v_iload C dL_law_420 rfl ?_
  refine v_if_neN C dL_law_422 (tgt := 437) (by decide) (by omega) (fun _ => v_goto C dL_law_437 (tgt := 2096) (by decide) (v_forget _ _ _ _ _ _ _ _ (K h2 S' sv' Z' F' _ J2 ⟨by show z.1 + z'.1 ≤ z.1 + 1; omega, by show z.2 + z'.2 ≤ z.2 + 6; omega⟩))) (fun hr0 => ?_)
  refine v_aload_n C dL_law_425 rfl ?_
  refine v_iconst C dL_law_426 (v := nI 0) rfl ?_
  refine v_lald C dL_law_427 ((hp.fr 88 (.inr (by decide))).trans hf1) (by decide) rfl (j := 0) (by decide) (hy1 hr0) ?_
  refine v_iload C dL_law_428 rfl ?_
  refine v_i2l C dL_law_430 ?_
  refine v_lcmp C dL_law_431 ?_
  exact v_if_eq C dL_law_432 (tgt := 437) (by decide) (fun _ => v_goto C dL_law_437 (tgt := 2096) (by decide) (v_forget _ _ _ _ _ _ _ _ (K h2 S' sv' Z' F' _ J2 ⟨by show z.1 + z'.1 ≤ z.1 + 1; omega, by show z.2 + z'.2 ≤ z.2 + 6; omega⟩))) (fun hne => absurd (cmp_self _) hne)
theorem lc_setNumber {X : CT} {o : Oc} {P : Wt → Hp → Prop} (C : Cx X mL_law [] 10 zL o P) {z : Nat × Nat} {w : Wt} {h : Hp} {N i : Nat} {xs : Nat → Int32} {S Z : Sc} {sv : Bool} {F : Sf} (hs : SC X w N xs) (hN : N ≤ 2560) (hi : i + 5 ≤ N) (hz : z.1 + 1 ≤ 603072 ∧ z.2 + 6 ≤ 7157866) (hJ : JI2 h S sv Z F) (K : ∀ h' S' sv' Z' F' z', JI2 h' S' sv' Z' F' → z'.1 ≤ z.1 + 1 ∧ z'.2 ≤ z.2 + 6 → V X z' w h' 2096 (LL i) []) : V X z w h 440 (LL i) [] := by
  obtain ⟨th, hR⟩ := hJ.2.1
  obtain ⟨f, hf⟩ := hJ.2.2
  obtain ⟨S', sv', Z', F', o', z', r, y, j8, j9, hr4, hc⟩ := jm_setNumber (w := w) (S := S) (sv := sv) (Z := Z) (F := F) (a := ((xs (i + 1)).toInt64 <<< ((nI 32).toInt64 &&& 63)) ||| ((xs (i + 2)).toInt64 &&& 4294967295))
  obtain ⟨d8, P8, hd8, c8, q8⟩ := j8 h hJ.1
  have hz' : z'.1 ≤ 1 ∧ z'.2 ≤ 6 := by rcases hc with ⟨-, -, rfl⟩ | ⟨E, -, -, rfl⟩ <;> decide
  have hJO : JO rwL_setNumber o' z' r f P8 (RW h S' sv' Z' F' r y.toInt64) := by
    rcases hc with ⟨rfl, rfl, rfl⟩ | ⟨E, rfl, hE, rfl⟩
    · exact .inl ⟨y, rfl, rfl, rfl, fun h1 p1 => ⟨((q8 h1 p1).gf 88 (by decide)).trans hf, rw_ok (q8 h1 p1)⟩⟩
    · exact .inr ⟨E, rfl, rfl, hE, fun h1 p1 => rw_thr (q8 h1 p1) hf (fun e => by subst e; simp [rwL_setNumber] at hE)⟩
  have cw := xL_setNumber hJO hJ.1.ob hd8 c8
  refine v_aload_n C dL_law_440 rfl ?_
  refine v_aload_n C dL_law_441 rfl ?_
  refine v_iload C dL_law_442 rfl ?_
  refine v_iconst C dL_law_444 (v := nI 1) rfl ?_
  refine v_iaddN C dL_law_445 ?_
  refine v_sld C hs hN (by omega) dL_law_446 ?_
  refine v_i2l C dL_law_447 ?_
  refine v_bipush C dL_law_448 (v := nI 32) rfl ?_
  refine v_lshl C dL_law_450 ?_
  refine v_aload_n C dL_law_451 rfl ?_
  refine v_iload C dL_law_452 rfl ?_
  refine v_iconst C dL_law_454 (v := nI 2) rfl ?_
  refine v_iaddN C dL_law_455 ?_
  refine v_sld C hs hN (by omega) dL_law_456 ?_
  refine v_i2l C dL_law_457 ?_
  refine v_ldc2 C (v := 4294967295) (tj8 116 (by rfl) rfl) dL_law_458 ?_
  refine v_land C dL_law_461 ?_
  refine v_lor C dL_law_462 ?_
  refine v_aload_n C dL_law_463 rfl ?_
  refine v_callH C dL_law_464 kL_setNumber (tj3 105 (by rfl) rfl) cw rfl rfl rfl ⟨by show z.1 + z'.1 ≤ 603072; omega, by show z.2 + z'.2 ≤ 7157866; omega⟩ rfl rfl (fun _ => rfl) (fun h1 R1 => ?_)
  dsimp only [Option.toList, List.cons_append, List.nil_append]
  obtain ⟨hP1, fr1, f1, hf1, hy1⟩ := R1
  have hR1 := hR.low (h' := h1) (fun j a b => fr1 j (by omega) (by omega))
  obtain ⟨d9, hd9, c9⟩ := j9 h1 _ hR1
  obtain ⟨u1, o1, -⟩ := hR1.o
  refine v_istore C dL_law_467 rfl ?_
  dsimp only [sto1, sto2, killL]
  refine v_aload_n C dL_law_469 rfl ?_
  refine v_aload_n C dL_law_470 rfl ?_
  refine v_iload C dL_law_471 rfl ?_
  refine v_iconst C dL_law_473 (v := nI 1) rfl ?_
  refine v_iaddN C dL_law_474 ?_
  refine v_sld C hs hN (by omega) dL_law_475 ?_
  refine v_i2l C dL_law_476 ?_
  refine v_bipush C dL_law_477 (v := nI 32) rfl ?_
  refine v_lshl C dL_law_479 ?_
  refine v_aload_n C dL_law_480 rfl ?_
  refine v_iload C dL_law_481 rfl ?_
  refine v_iconst C dL_law_483 (v := nI 2) rfl ?_
  refine v_iaddN C dL_law_484 ?_
  refine v_sld C hs hN (by omega) dL_law_485 ?_
  refine v_i2l C dL_law_486 ?_
  refine v_ldc2 C (v := 4294967295) (tj8 116 (by rfl) rfl) dL_law_487 ?_
  refine v_land C dL_law_490 ?_
  refine v_lor C dL_law_491 ?_
  refine v_callV C dL_law_492 vL_140 o1 c9 rfl (blt10 hd9) rfl ⟨Nat.ble_eq_true_of_le (by show z.1 + z'.1 ≤ 603072; omega), Nat.ble_eq_true_of_le (by show z.2 + z'.2 ≤ 7157866; omega)⟩ rfl rfl (fun _ => rfl) (fun h2 hp => ?_)
  dsimp only [Option.toList, List.cons_append, List.nil_append]
  refine v_istore C dL_law_495 rfl ?_
  dsimp only [sto1, sto2, killL]
  refine v_aload_n C dL_law_497 rfl ?_
  obtain ⟨u2, o2, t2, -⟩ := hp.o
  refine v_callV C dL_law_498 vL_122 o2 (k9_thrown o2) rfl rfl rfl ⟨Nat.ble_eq_true_of_le (by show z.1 + z'.1 ≤ 603072; omega), Nat.ble_eq_true_of_le (by show z.2 + z'.2 ≤ 7157866; omega)⟩ rfl rfl (fun _ => rfl) (fun h3 e3 => ?_)
  rw [show h3 = _ from e3]
  dsimp only [Option.toList, List.cons_append, List.nil_append]
  rw [t2]
  have J2 : JI2 h2 S' sv' Z' F' := ⟨hP1.top (fun j hj => hp.fr j (.inl (by omega))), ⟨_, hp.low (fun _ _ _ => rfl)⟩, f1, (hp.fr 88 (.inr (by decide))).trans hf1⟩
  refine v_iload C dL_law_501 rfl ?_
  refine v_icmp_eqN C dL_law_503 (tgt := 508) (by decide) (by omega) (by omega) (fun _ => ?_) (fun hne => absurd rfl hne)
  refine v_iload C dL_law_508 rfl ?_
  refine v_if_neN C dL_law_510 (tgt := 525) (by decide) (by omega) (fun _ => v_goto C dL_law_525 (tgt := 2096) (by decide) (v_forget _ _ _ _ _ _ _ _ (K h2 S' sv' Z' F' _ J2 ⟨by show z.1 + z'.1 ≤ z.1 + 1; omega, by show z.2 + z'.2 ≤ z.2 + 6; omega⟩))) (fun hr0 => ?_)
  refine v_aload_n C dL_law_513 rfl ?_
  refine v_iconst C dL_law_514 (v := nI 0) rfl ?_
  refine v_lald C dL_law_515 ((hp.fr 88 (.inr (by decide))).trans hf1) (by decide) rfl (j := 0) (by decide) (hy1 hr0) ?_
  refine v_iload C dL_law_516 rfl ?_
  refine v_i2l C dL_law_518 ?_
  refine v_lcmp C dL_law_519 ?_
  exact v_if_eq C dL_law_520 (tgt := 525) (by decide) (fun _ => v_goto C dL_law_525 (tgt := 2096) (by decide) (v_forget _ _ _ _ _ _ _ _ (K h2 S' sv' Z' F' _ J2 ⟨by show z.1 + z'.1 ≤ z.1 + 1; omega, by show z.2 + z'.2 ≤ z.2 + 6; omega⟩))) (fun hne => absurd (cmp_self _) hne)
theorem lc_number {X : CT} {o : Oc} {P : Wt → Hp → Prop} (C : Cx X mL_law [] 10 zL o P) {z : Nat × Nat} {w : Wt} {h : Hp} {N i : Nat} {xs : Nat → Int32} {S Z : Sc} {sv : Bool} {F : Sf} (hs : SC X w N xs) (hN : N ≤ 2560) (hi : i + 5 ≤ N) (hz : z.1 + 1 ≤ 603072 ∧ z.2 + 6 ≤ 7157866) (hJ : JI2 h S sv Z F) (K : ∀ h' S' sv' Z' F' z', JI2 h' S' sv' Z' F' → z'.1 ≤ z.1 + 1 ∧ z'.2 ≤ z.2 + 6 → V X z' w h' 2096 (LL i) []) : V X z w h 528 (LL i) [] := by
  obtain ⟨th, hR⟩ := hJ.2.1
  obtain ⟨f, hf⟩ := hJ.2.2
  obtain ⟨S', sv', Z', F', r, j8, j9⟩ := jd_number (w := w) (S := S) (sv := sv) (Z := Z) (F := F)
  obtain ⟨d8, P8, hd8, c8, q8⟩ := j8 h hJ.1
  refine v_aload_n C dL_law_528 rfl ?_
  refine v_callV C dL_law_529 vL_141 hJ.1.ob c8 rfl (blt10 hd8) rfl ⟨Nat.ble_eq_true_of_le (by show z.1 ≤ 603072; omega), Nat.ble_eq_true_of_le (by show z.2 ≤ 7157866; omega)⟩ rfl rfl (fun _ => rfl) (fun h1 p1 => ?_)
  dsimp only [Option.toList, List.cons_append, List.nil_append]
  have hP1 := q8 h1 p1
  have hR1 := hR.low (h' := h1) (fun j a b => hP1.gf j (by omega))
  obtain ⟨d9, hd9, c9⟩ := j9 h1 _ hR1
  obtain ⟨u1, o1, -⟩ := hR1.o
  refine v_aload_n C dL_law_532 rfl ?_
  refine v_callV C dL_law_533 vL_144 o1 c9 rfl (blt10 hd9) rfl ⟨Nat.ble_eq_true_of_le (by show z.1 ≤ 603072; omega), Nat.ble_eq_true_of_le (by show z.2 ≤ 7157866; omega)⟩ rfl rfl (fun _ => rfl) (fun h2 hp => ?_)
  dsimp only [Option.toList, List.cons_append, List.nil_append]
  refine v_lcmp C dL_law_536 ?_
  exact v_if_eq C dL_law_537 (tgt := 2096) (by decide) (fun _ => K h2 S' sv' Z' F' _ ⟨hP1.top (fun j hj => hp.fr j (.inl (by omega))), ⟨_, hp.low (fun _ _ _ => rfl)⟩, f, (hp.fr 88 (.inr (by decide))).trans ((hP1.gf 88 (by decide)).trans hf)⟩ ⟨by omega, by omega⟩) (fun hne => absurd (cmp_self _) hne)
theorem lc_append {X : CT} {o : Oc} {P : Wt → Hp → Prop} (C : Cx X mL_law [] 10 zL o P) {z : Nat × Nat} {w : Wt} {h : Hp} {N i : Nat} {xs : Nat → Int32} {S Z : Sc} {sv : Bool} {F : Sf} (hs : SC X w N xs) (hN : N ≤ 2560) (hi : i + 5 ≤ N) (hz : z.1 + 1 ≤ 603072 ∧ z.2 + 6 ≤ 7157866) (hJ : JI2 h S sv Z F) (K : ∀ h' S' sv' Z' F' z', JI2 h' S' sv' Z' F' → z'.1 ≤ z.1 + 1 ∧ z'.2 ≤ z.2 + 6 → V X z' w h' 2096 (LL i) []) : V X z w h 542 (LL i) [] := by
  obtain ⟨th, hR⟩ := hJ.2.1
  obtain ⟨f, hf⟩ := hJ.2.2
  obtain ⟨S', sv', Z', F', o', z', r, y, j8, j9, hr4, hc⟩ := jm_append (w := w) (S := S) (sv := sv) (Z := Z) (F := F) (x := xs (i + 1))
  obtain ⟨d8, P8, hd8, c8, q8⟩ := j8 h hJ.1
  have hz' : z'.1 ≤ 1 ∧ z'.2 ≤ 6 := by rcases hc with ⟨-, -, rfl⟩ | ⟨E, -, -, rfl⟩ <;> decide
  have hJO : JO rwL_append o' z' r f P8 (RW h S' sv' Z' F' r y.toInt64) := by
    rcases hc with ⟨rfl, rfl, rfl⟩ | ⟨E, rfl, hE, rfl⟩
    · exact .inl ⟨y, rfl, rfl, rfl, fun h1 p1 => ⟨((q8 h1 p1).gf 88 (by decide)).trans hf, rw_ok (q8 h1 p1)⟩⟩
    · exact .inr ⟨E, rfl, rfl, hE, fun h1 p1 => rw_thr (q8 h1 p1) hf (fun e => by subst e; simp [rwL_append] at hE)⟩
  have cw := xL_append hJO hJ.1.ob hd8 c8
  refine v_aload_n C dL_law_542 rfl ?_
  refine v_aload_n C dL_law_543 rfl ?_
  refine v_iload C dL_law_544 rfl ?_
  refine v_iconst C dL_law_546 (v := nI 1) rfl ?_
  refine v_iaddN C dL_law_547 ?_
  refine v_sld C hs hN (by omega) dL_law_548 ?_
  refine v_aload_n C dL_law_549 rfl ?_
  refine v_callH C dL_law_550 kL_append (tj3 123 (by rfl) rfl) cw rfl rfl rfl ⟨by show z.1 + z'.1 ≤ 603072; omega, by show z.2 + z'.2 ≤ 7157866; omega⟩ rfl rfl (fun _ => rfl) (fun h1 R1 => ?_)
  dsimp only [Option.toList, List.cons_append, List.nil_append]
  obtain ⟨hP1, fr1, f1, hf1, hy1⟩ := R1
  have hR1 := hR.low (h' := h1) (fun j a b => fr1 j (by omega) (by omega))
  obtain ⟨d9, hd9, c9⟩ := j9 h1 _ hR1
  obtain ⟨u1, o1, -⟩ := hR1.o
  refine v_istore C dL_law_553 rfl ?_
  dsimp only [sto1, sto2, killL]
  refine v_aload_n C dL_law_555 rfl ?_
  refine v_aload_n C dL_law_556 rfl ?_
  refine v_iload C dL_law_557 rfl ?_
  refine v_iconst C dL_law_559 (v := nI 1) rfl ?_
  refine v_iaddN C dL_law_560 ?_
  refine v_sld C hs hN (by omega) dL_law_561 ?_
  refine v_callV C dL_law_562 vL_147 o1 c9 rfl (blt10 hd9) rfl ⟨Nat.ble_eq_true_of_le (by show z.1 + z'.1 ≤ 603072; omega), Nat.ble_eq_true_of_le (by show z.2 + z'.2 ≤ 7157866; omega)⟩ rfl rfl (fun _ => rfl) (fun h2 hp => ?_)
  dsimp only [Option.toList, List.cons_append, List.nil_append]
  refine v_istore C dL_law_565 rfl ?_
  dsimp only [sto1, sto2, killL]
  refine v_aload_n C dL_law_567 rfl ?_
  obtain ⟨u2, o2, t2, -⟩ := hp.o
  refine v_callV C dL_law_568 vL_122 o2 (k9_thrown o2) rfl rfl rfl ⟨Nat.ble_eq_true_of_le (by show z.1 + z'.1 ≤ 603072; omega), Nat.ble_eq_true_of_le (by show z.2 + z'.2 ≤ 7157866; omega)⟩ rfl rfl (fun _ => rfl) (fun h3 e3 => ?_)
  rw [show h3 = _ from e3]
  dsimp only [Option.toList, List.cons_append, List.nil_append]
  rw [t2]
  have J2 : JI2 h2 S' sv' Z' F' := ⟨hP1.top (fun j hj => hp.fr j (.inl (by omega))), ⟨_, hp.low (fun _ _ _ => rfl)⟩, f1, (hp.fr 88 (.inr (by decide))).trans hf1⟩
  refine v_iload C dL_law_571 rfl ?_
  refine v_icmp_eqN C dL_law_573 (tgt := 578) (by decide) (by omega) (by omega) (fun _ => ?_) (fun hne => absurd rfl hne)
  refine v_iload C dL_law_578 rfl ?_
  refine v_if_neN C dL_law_580 (tgt := 595) (by decide) (by omega) (fun _ => v_goto C dL_law_595 (tgt := 2096) (by decide) (v_forget _ _ _ _ _ _ _ _ (K h2 S' sv' Z' F' _ J2 ⟨by show z.1 + z'.1 ≤ z.1 + 1; omega, by show z.2 + z'.2 ≤ z.2 + 6; omega⟩))) (fun hr0 => ?_)
  refine v_aload_n C dL_law_583 rfl ?_
  refine v_iconst C dL_law_584 (v := nI 0) rfl ?_
  refine v_lald C dL_law_585 ((hp.fr 88 (.inr (by decide))).trans hf1) (by decide) rfl (j := 0) (by decide) (hy1 hr0) ?_
  refine v_iload C dL_law_586 rfl ?_
  refine v_i2l C dL_law_588 ?_
  refine v_lcmp C dL_law_589 ?_
  exact v_if_eq C dL_law_590 (tgt := 595) (by decide) (fun _ => v_goto C dL_law_595 (tgt := 2096) (by decide) (v_forget _ _ _ _ _ _ _ _ (K h2 S' sv' Z' F' _ J2 ⟨by show z.1 + z'.1 ≤ z.1 + 1; omega, by show z.2 + z'.2 ≤ z.2 + 6; omega⟩))) (fun hne => absurd (cmp_self _) hne)
theorem lc_compile {X : CT} {o : Oc} {P : Wt → Hp → Prop} (C : Cx X mL_law [] 10 zL o P) {z : Nat × Nat} {w : Wt} {h : Hp} {N i : Nat} {xs : Nat → Int32} {S Z : Sc} {sv : Bool} {F : Sf} (hs : SC X w N xs) (hN : N ≤ 2560) (hi : i + 5 ≤ N) (hz : z.1 + 1 ≤ 603072 ∧ z.2 + 6 ≤ 7157866) (hJ : JI2 h S sv Z F) (K : ∀ h' S' sv' Z' F' z', JI2 h' S' sv' Z' F' → z'.1 ≤ z.1 + 1 ∧ z'.2 ≤ z.2 + 6 → V X z' w h' 2096 (LL i) []) : V X z w h 598 (LL i) [] := by
  obtain ⟨th, hR⟩ := hJ.2.1
  obtain ⟨f, hf⟩ := hJ.2.2
  obtain ⟨S', sv', Z', F', o', z', r, y, j8, j9, hr4, hc⟩ := jm_compile (w := w) (S := S) (sv := sv) (Z := Z) (F := F) 
  obtain ⟨d8, P8, hd8, c8, q8⟩ := j8 h hJ.1
  have hz' : z'.1 ≤ 1 ∧ z'.2 ≤ 6 := by rcases hc with ⟨-, -, rfl⟩ | ⟨E, -, -, rfl⟩ <;> decide
  have hJO : JO rwL_compile o' z' r f P8 (RW h S' sv' Z' F' r y.toInt64) := by
    rcases hc with ⟨rfl, rfl, rfl⟩ | ⟨E, rfl, hE, rfl⟩
    · exact .inl ⟨y, rfl, rfl, rfl, fun h1 p1 => ⟨((q8 h1 p1).gf 88 (by decide)).trans hf, rw_ok (q8 h1 p1)⟩⟩
    · exact .inr ⟨E, rfl, rfl, hE, fun h1 p1 => rw_thr (q8 h1 p1) hf (fun e => by subst e; simp [rwL_compile] at hE)⟩
  have cw := xL_compile hJO hJ.1.ob hd8 c8
  refine v_aload_n C dL_law_598 rfl ?_
  refine v_aload_n C dL_law_599 rfl ?_
  refine v_callH C dL_law_600 kL_compile (tj3 155 (by rfl) rfl) cw rfl rfl rfl ⟨by show z.1 + z'.1 ≤ 603072; omega, by show z.2 + z'.2 ≤ 7157866; omega⟩ rfl rfl (fun _ => rfl) (fun h1 R1 => ?_)
  dsimp only [Option.toList, List.cons_append, List.nil_append]
  obtain ⟨hP1, fr1, f1, hf1, hy1⟩ := R1
  have hR1 := hR.low (h' := h1) (fun j a b => fr1 j (by omega) (by omega))
  obtain ⟨d9, hd9, c9⟩ := j9 h1 _ hR1
  obtain ⟨u1, o1, -⟩ := hR1.o
  refine v_istore C dL_law_603 rfl ?_
  dsimp only [sto1, sto2, killL]
  refine v_aload_n C dL_law_605 rfl ?_
  refine v_callV C dL_law_606 vL_151 o1 c9 rfl (blt10 hd9) rfl ⟨Nat.ble_eq_true_of_le (by show z.1 + z'.1 ≤ 603072; omega), Nat.ble_eq_true_of_le (by show z.2 + z'.2 ≤ 7157866; omega)⟩ rfl rfl (fun _ => rfl) (fun h2 hp => ?_)
  dsimp only [Option.toList, List.cons_append, List.nil_append]
  refine v_istore C dL_law_609 rfl ?_
  dsimp only [sto1, sto2, killL]
  refine v_aload_n C dL_law_611 rfl ?_
  obtain ⟨u2, o2, t2, -⟩ := hp.o
  refine v_callV C dL_law_612 vL_122 o2 (k9_thrown o2) rfl rfl rfl ⟨Nat.ble_eq_true_of_le (by show z.1 + z'.1 ≤ 603072; omega), Nat.ble_eq_true_of_le (by show z.2 + z'.2 ≤ 7157866; omega)⟩ rfl rfl (fun _ => rfl) (fun h3 e3 => ?_)
  rw [show h3 = _ from e3]
  dsimp only [Option.toList, List.cons_append, List.nil_append]
  rw [t2]
  have J2 : JI2 h2 S' sv' Z' F' := ⟨hP1.top (fun j hj => hp.fr j (.inl (by omega))), ⟨_, hp.low (fun _ _ _ => rfl)⟩, f1, (hp.fr 88 (.inr (by decide))).trans hf1⟩
  refine v_iload C dL_law_615 rfl ?_
  refine v_icmp_eqN C dL_law_617 (tgt := 622) (by decide) (by omega) (by omega) (fun _ => ?_) (fun hne => absurd rfl hne)
  refine v_iload C dL_law_622 rfl ?_
  refine v_if_neN C dL_law_624 (tgt := 639) (by decide) (by omega) (fun _ => v_goto C dL_law_639 (tgt := 2096) (by decide) (v_forget _ _ _ _ _ _ _ _ (K h2 S' sv' Z' F' _ J2 ⟨by show z.1 + z'.1 ≤ z.1 + 1; omega, by show z.2 + z'.2 ≤ z.2 + 6; omega⟩))) (fun hr0 => ?_)
  refine v_aload_n C dL_law_627 rfl ?_
  refine v_iconst C dL_law_628 (v := nI 0) rfl ?_
  refine v_lald C dL_law_629 ((hp.fr 88 (.inr (by decide))).trans hf1) (by decide) rfl (j := 0) (by decide) (hy1 hr0) ?_
  refine v_iload C dL_law_630 rfl ?_
  refine v_i2l C dL_law_632 ?_
  refine v_lcmp C dL_law_633 ?_
  exact v_if_eq C dL_law_634 (tgt := 639) (by decide) (fun _ => v_goto C dL_law_639 (tgt := 2096) (by decide) (v_forget _ _ _ _ _ _ _ _ (K h2 S' sv' Z' F' _ J2 ⟨by show z.1 + z'.1 ≤ z.1 + 1; omega, by show z.2 + z'.2 ≤ z.2 + 6; omega⟩))) (fun hne => absurd (cmp_self _) hne)
theorem lc_error {X : CT} {o : Oc} {P : Wt → Hp → Prop} (C : Cx X mL_law [] 10 zL o P) {z : Nat × Nat} {w : Wt} {h : Hp} {N i : Nat} {xs : Nat → Int32} {S Z : Sc} {sv : Bool} {F : Sf} (hs : SC X w N xs) (hN : N ≤ 2560) (hi : i + 5 ≤ N) (hz : z.1 + 1 ≤ 603072 ∧ z.2 + 6 ≤ 7157866) (hJ : JI2 h S sv Z F) (K : ∀ h' S' sv' Z' F' z', JI2 h' S' sv' Z' F' → z'.1 ≤ z.1 + 1 ∧ z'.2 ≤ z.2 + 6 → V X z' w h' 2096 (LL i) []) : V X z w h 642 (LL i) [] := by
  obtain ⟨th, hR⟩ := hJ.2.1
  obtain ⟨f, hf⟩ := hJ.2.2
  obtain ⟨S', sv', Z', F', o', z', r, y, j8, j9, hr4, hc⟩ := jm_error (w := w) (S := S) (sv := sv) (Z := Z) (F := F) (x := xs (i + 1))
  obtain ⟨d8, P8, hd8, c8, q8⟩ := j8 h hJ.1
  have hz' : z'.1 ≤ 1 ∧ z'.2 ≤ 6 := by rcases hc with ⟨-, -, rfl⟩ | ⟨E, -, -, rfl⟩ <;> decide
  have hJO : JO rwL_error o' z' r f P8 (RW h S' sv' Z' F' r y.toInt64) := by
    rcases hc with ⟨rfl, rfl, rfl⟩ | ⟨E, rfl, hE, rfl⟩
    · exact .inl ⟨y, rfl, rfl, rfl, fun h1 p1 => ⟨((q8 h1 p1).gf 88 (by decide)).trans hf, rw_ok (q8 h1 p1)⟩⟩
    · exact .inr ⟨E, rfl, rfl, hE, fun h1 p1 => rw_thr (q8 h1 p1) hf (fun e => by subst e; simp [rwL_error] at hE)⟩
  have cw := xL_error hJO hJ.1.ob hd8 c8
  refine v_aload_n C dL_law_642 rfl ?_
  refine v_aload_n C dL_law_643 rfl ?_
  refine v_iload C dL_law_644 rfl ?_
  refine v_iconst C dL_law_646 (v := nI 1) rfl ?_
  refine v_iaddN C dL_law_647 ?_
  refine v_sld C hs hN (by omega) dL_law_648 ?_
  refine v_aload_n C dL_law_649 rfl ?_
  refine v_callH C dL_law_650 kL_error (tj4 1 (by rfl) rfl) cw rfl rfl rfl ⟨by show z.1 + z'.1 ≤ 603072; omega, by show z.2 + z'.2 ≤ 7157866; omega⟩ rfl rfl (fun _ => rfl) (fun h1 R1 => ?_)
  dsimp only [Option.toList, List.cons_append, List.nil_append]
  obtain ⟨hP1, fr1, f1, hf1, hy1⟩ := R1
  have hR1 := hR.low (h' := h1) (fun j a b => fr1 j (by omega) (by omega))
  obtain ⟨d9, hd9, c9⟩ := j9 h1 _ hR1
  obtain ⟨u1, o1, -⟩ := hR1.o
  refine v_istore C dL_law_653 rfl ?_
  dsimp only [sto1, sto2, killL]
  refine v_aload_n C dL_law_655 rfl ?_
  refine v_aload_n C dL_law_656 rfl ?_
  refine v_iload C dL_law_657 rfl ?_
  refine v_iconst C dL_law_659 (v := nI 1) rfl ?_
  refine v_iaddN C dL_law_660 ?_
  refine v_sld C hs hN (by omega) dL_law_661 ?_
  refine v_callV C dL_law_662 vL_154 o1 c9 rfl (blt10 hd9) rfl ⟨Nat.ble_eq_true_of_le (by show z.1 + z'.1 ≤ 603072; omega), Nat.ble_eq_true_of_le (by show z.2 + z'.2 ≤ 7157866; omega)⟩ rfl rfl (fun _ => rfl) (fun h2 hp => ?_)
  dsimp only [Option.toList, List.cons_append, List.nil_append]
  refine v_istore C dL_law_665 rfl ?_
  dsimp only [sto1, sto2, killL]
  refine v_aload_n C dL_law_667 rfl ?_
  obtain ⟨u2, o2, t2, -⟩ := hp.o
  refine v_callV C dL_law_668 vL_122 o2 (k9_thrown o2) rfl rfl rfl ⟨Nat.ble_eq_true_of_le (by show z.1 + z'.1 ≤ 603072; omega), Nat.ble_eq_true_of_le (by show z.2 + z'.2 ≤ 7157866; omega)⟩ rfl rfl (fun _ => rfl) (fun h3 e3 => ?_)
  rw [show h3 = _ from e3]
  dsimp only [Option.toList, List.cons_append, List.nil_append]
  rw [t2]
  have J2 : JI2 h2 S' sv' Z' F' := ⟨hP1.top (fun j hj => hp.fr j (.inl (by omega))), ⟨_, hp.low (fun _ _ _ => rfl)⟩, f1, (hp.fr 88 (.inr (by decide))).trans hf1⟩
  refine v_iload C dL_law_671 rfl ?_
  refine v_icmp_eqN C dL_law_673 (tgt := 678) (by decide) (by omega) (by omega) (fun _ => ?_) (fun hne => absurd rfl hne)
  refine v_iload C dL_law_678 rfl ?_
  refine v_if_neN C dL_law_680 (tgt := 695) (by decide) (by omega) (fun _ => v_goto C dL_law_695 (tgt := 2096) (by decide) (v_forget _ _ _ _ _ _ _ _ (K h2 S' sv' Z' F' _ J2 ⟨by show z.1 + z'.1 ≤ z.1 + 1; omega, by show z.2 + z'.2 ≤ z.2 + 6; omega⟩))) (fun hr0 => ?_)
  refine v_aload_n C dL_law_683 rfl ?_
  refine v_iconst C dL_law_684 (v := nI 0) rfl ?_
  refine v_lald C dL_law_685 ((hp.fr 88 (.inr (by decide))).trans hf1) (by decide) rfl (j := 0) (by decide) (hy1 hr0) ?_
  refine v_iload C dL_law_686 rfl ?_
  refine v_i2l C dL_law_688 ?_
  refine v_lcmp C dL_law_689 ?_
  exact v_if_eq C dL_law_690 (tgt := 695) (by decide) (fun _ => v_goto C dL_law_695 (tgt := 2096) (by decide) (v_forget _ _ _ _ _ _ _ _ (K h2 S' sv' Z' F' _ J2 ⟨by show z.1 + z'.1 ≤ z.1 + 1; omega, by show z.2 + z'.2 ≤ z.2 + 6; omega⟩))) (fun hne => absurd (cmp_self _) hne)
theorem lc_mirror {X : CT} {o : Oc} {P : Wt → Hp → Prop} (C : Cx X mL_law [] 10 zL o P) {z : Nat × Nat} {w : Wt} {h : Hp} {N i : Nat} {xs : Nat → Int32} {S Z : Sc} {sv : Bool} {F : Sf} (hs : SC X w N xs) (hN : N ≤ 2560) (hi : i + 5 ≤ N) (hz : z.1 + 1 ≤ 603072 ∧ z.2 + 6 ≤ 7157866) (hJ : JI2 h S sv Z F) (K : ∀ h' S' sv' Z' F' z', JI2 h' S' sv' Z' F' → z'.1 ≤ z.1 + 1 ∧ z'.2 ≤ z.2 + 6 → V X z' w h' 2096 (LL i) []) : V X z w h 698 (LL i) [] := by
  obtain ⟨th, hR⟩ := hJ.2.1
  obtain ⟨f, hf⟩ := hJ.2.2
  obtain ⟨S', sv', Z', F', r, j8, j9⟩ := jd_mirror (w := w) (S := S) (sv := sv) (Z := Z) (F := F)
  obtain ⟨d8, P8, hd8, c8, q8⟩ := j8 h hJ.1
  refine v_aload_n C dL_law_698 rfl ?_
  refine v_callV C dL_law_699 vL_155 hJ.1.ob c8 rfl (blt10 hd8) rfl ⟨Nat.ble_eq_true_of_le (by show z.1 ≤ 603072; omega), Nat.ble_eq_true_of_le (by show z.2 ≤ 7157866; omega)⟩ rfl rfl (fun _ => rfl) (fun h1 p1 => ?_)
  dsimp only [Option.toList, List.cons_append, List.nil_append]
  have hP1 := q8 h1 p1
  have hR1 := hR.low (h' := h1) (fun j a b => hP1.gf j (by omega))
  obtain ⟨d9, hd9, c9⟩ := j9 h1 _ hR1
  obtain ⟨u1, o1, -⟩ := hR1.o
  refine v_aload_n C dL_law_702 rfl ?_
  refine v_callV C dL_law_703 vL_158 o1 c9 rfl (blt10 hd9) rfl ⟨Nat.ble_eq_true_of_le (by show z.1 ≤ 603072; omega), Nat.ble_eq_true_of_le (by show z.2 ≤ 7157866; omega)⟩ rfl rfl (fun _ => rfl) (fun h2 hp => ?_)
  dsimp only [Option.toList, List.cons_append, List.nil_append]
  exact v_icmp_eq C dL_law_706 (tgt := 2096) (by decide) (fun _ => K h2 S' sv' Z' F' _ ⟨hP1.top (fun j hj => hp.fr j (.inl (by omega))), ⟨_, hp.low (fun _ _ _ => rfl)⟩, f, (hp.fr 88 (.inr (by decide))).trans ((hP1.gf 88 (by decide)).trans hf)⟩ ⟨by omega, by omega⟩) (fun hne => absurd rfl hne)
theorem lc_complement {X : CT} {o : Oc} {P : Wt → Hp → Prop} (C : Cx X mL_law [] 10 zL o P) {z : Nat × Nat} {w : Wt} {h : Hp} {N i : Nat} {xs : Nat → Int32} {S Z : Sc} {sv : Bool} {F : Sf} (hs : SC X w N xs) (hN : N ≤ 2560) (hi : i + 5 ≤ N) (hz : z.1 + 1 ≤ 603072 ∧ z.2 + 6 ≤ 7157866) (hJ : JI2 h S sv Z F) (K : ∀ h' S' sv' Z' F' z', JI2 h' S' sv' Z' F' → z'.1 ≤ z.1 + 1 ∧ z'.2 ≤ z.2 + 6 → V X z' w h' 2096 (LL i) []) : V X z w h 711 (LL i) [] := by
  obtain ⟨th, hR⟩ := hJ.2.1
  obtain ⟨f, hf⟩ := hJ.2.2
  obtain ⟨S', sv', Z', F', r, j8, j9⟩ := jd_complement (w := w) (S := S) (sv := sv) (Z := Z) (F := F)
  obtain ⟨d8, P8, hd8, c8, q8⟩ := j8 h hJ.1
  refine v_aload_n C dL_law_711 rfl ?_
  refine v_callV C dL_law_712 vL_159 hJ.1.ob c8 rfl (blt10 hd8) rfl ⟨Nat.ble_eq_true_of_le (by show z.1 ≤ 603072; omega), Nat.ble_eq_true_of_le (by show z.2 ≤ 7157866; omega)⟩ rfl rfl (fun _ => rfl) (fun h1 p1 => ?_)
  dsimp only [Option.toList, List.cons_append, List.nil_append]
  have hP1 := q8 h1 p1
  have hR1 := hR.low (h' := h1) (fun j a b => hP1.gf j (by omega))
  obtain ⟨d9, hd9, c9⟩ := j9 h1 _ hR1
  obtain ⟨u1, o1, -⟩ := hR1.o
  refine v_aload_n C dL_law_715 rfl ?_
  refine v_callV C dL_law_716 vL_162 o1 c9 rfl (blt10 hd9) rfl ⟨Nat.ble_eq_true_of_le (by show z.1 ≤ 603072; omega), Nat.ble_eq_true_of_le (by show z.2 ≤ 7157866; omega)⟩ rfl rfl (fun _ => rfl) (fun h2 hp => ?_)
  dsimp only [Option.toList, List.cons_append, List.nil_append]
  exact v_icmp_eq C dL_law_719 (tgt := 2096) (by decide) (fun _ => K h2 S' sv' Z' F' _ ⟨hP1.top (fun j hj => hp.fr j (.inl (by omega))), ⟨_, hp.low (fun _ _ _ => rfl)⟩, f, (hp.fr 88 (.inr (by decide))).trans ((hP1.gf 88 (by decide)).trans hf)⟩ ⟨by omega, by omega⟩) (fun hne => absurd rfl hne)
theorem lc_leastNumber {X : CT} {o : Oc} {P : Wt → Hp → Prop} (C : Cx X mL_law [] 10 zL o P) {z : Nat × Nat} {w : Wt} {h : Hp} {N i : Nat} {xs : Nat → Int32} {S Z : Sc} {sv : Bool} {F : Sf} (hs : SC X w N xs) (hN : N ≤ 2560) (hi : i + 5 ≤ N) (hz : z.1 + 1 ≤ 603072 ∧ z.2 + 6 ≤ 7157866) (hJ : JI2 h S sv Z F) (K : ∀ h' S' sv' Z' F' z', JI2 h' S' sv' Z' F' → z'.1 ≤ z.1 + 1 ∧ z'.2 ≤ z.2 + 6 → V X z' w h' 2096 (LL i) []) : V X z w h 724 (LL i) [] := by
  obtain ⟨th, hR⟩ := hJ.2.1
  obtain ⟨f, hf⟩ := hJ.2.2
  obtain ⟨S', sv', Z', F', r, j8, j9⟩ := jd_leastNumber (w := w) (S := S) (sv := sv) (Z := Z) (F := F)
  obtain ⟨d8, P8, hd8, c8, q8⟩ := j8 h hJ.1
  refine v_aload_n C dL_law_724 rfl ?_
  refine v_callV C dL_law_725 vL_163 hJ.1.ob c8 rfl (blt10 hd8) rfl ⟨Nat.ble_eq_true_of_le (by show z.1 ≤ 603072; omega), Nat.ble_eq_true_of_le (by show z.2 ≤ 7157866; omega)⟩ rfl rfl (fun _ => rfl) (fun h1 p1 => ?_)
  dsimp only [Option.toList, List.cons_append, List.nil_append]
  have hP1 := q8 h1 p1
  have hR1 := hR.low (h' := h1) (fun j a b => hP1.gf j (by omega))
  obtain ⟨d9, hd9, c9⟩ := j9 h1 _ hR1
  obtain ⟨u1, o1, -⟩ := hR1.o
  refine v_aload_n C dL_law_728 rfl ?_
  refine v_callV C dL_law_729 vL_166 o1 c9 rfl (blt10 hd9) rfl ⟨Nat.ble_eq_true_of_le (by show z.1 ≤ 603072; omega), Nat.ble_eq_true_of_le (by show z.2 ≤ 7157866; omega)⟩ rfl rfl (fun _ => rfl) (fun h2 hp => ?_)
  dsimp only [Option.toList, List.cons_append, List.nil_append]
  refine v_lcmp C dL_law_732 ?_
  exact v_if_eq C dL_law_733 (tgt := 2096) (by decide) (fun _ => K h2 S' sv' Z' F' _ ⟨hP1.top (fun j hj => hp.fr j (.inl (by omega))), ⟨_, hp.low (fun _ _ _ => rfl)⟩, f, (hp.fr 88 (.inr (by decide))).trans ((hP1.gf 88 (by decide)).trans hf)⟩ ⟨by omega, by omega⟩) (fun hne => absurd (cmp_self _) hne)
theorem lc_compose {X : CT} {o : Oc} {P : Wt → Hp → Prop} (C : Cx X mL_law [] 10 zL o P) {z : Nat × Nat} {w : Wt} {h : Hp} {N i : Nat} {xs : Nat → Int32} {S Z : Sc} {sv : Bool} {F : Sf} (hs : SC X w N xs) (hN : N ≤ 2560) (hi : i + 5 ≤ N) (hz : z.1 + 1 ≤ 603072 ∧ z.2 + 6 ≤ 7157866) (hJ : JI2 h S sv Z F) (K : ∀ h' S' sv' Z' F' z', JI2 h' S' sv' Z' F' → z'.1 ≤ z.1 + 1 ∧ z'.2 ≤ z.2 + 6 → V X z' w h' 2096 (LL i) []) : V X z w h 738 (LL i) [] := by
  obtain ⟨th, hR⟩ := hJ.2.1
  obtain ⟨f, hf⟩ := hJ.2.2
  obtain ⟨S', sv', Z', F', o', z', r, y, j8, j9, hr4, hc⟩ := jm_compose hJ.oks (w := w) (S := S) (sv := sv) (Z := Z) (F := F) 
  obtain ⟨d8, P8, hd8, c8, q8⟩ := j8 h hJ.1
  have hz' : z'.1 ≤ 1 ∧ z'.2 ≤ 6 := by rcases hc with ⟨-, -, rfl⟩ | ⟨E, -, -, rfl⟩ <;> decide
  have hJO : JO rwL_compose o' z' r f P8 (RW h S' sv' Z' F' r y.toInt64) := by
    rcases hc with ⟨rfl, rfl, rfl⟩ | ⟨E, rfl, hE, rfl⟩
    · exact .inl ⟨y, rfl, rfl, rfl, fun h1 p1 => ⟨((q8 h1 p1).gf 88 (by decide)).trans hf, rw_ok (q8 h1 p1)⟩⟩
    · exact .inr ⟨E, rfl, rfl, hE, fun h1 p1 => rw_thr (q8 h1 p1) hf (fun e => by subst e; simp [rwL_compose] at hE)⟩
  have cw := xL_compose hJO hJ.1.ob hd8 c8
  refine v_aload_n C dL_law_738 rfl ?_
  refine v_aload_n C dL_law_739 rfl ?_
  refine v_callH C dL_law_740 kL_compose (tj4 12 (by rfl) rfl) cw rfl rfl rfl ⟨by show z.1 + z'.1 ≤ 603072; omega, by show z.2 + z'.2 ≤ 7157866; omega⟩ rfl rfl (fun _ => rfl) (fun h1 R1 => ?_)
  dsimp only [Option.toList, List.cons_append, List.nil_append]
  obtain ⟨hP1, fr1, f1, hf1, hy1⟩ := R1
  have hR1 := hR.low (h' := h1) (fun j a b => fr1 j (by omega) (by omega))
  obtain ⟨d9, hd9, c9⟩ := j9 h1 _ hR1
  obtain ⟨u1, o1, -⟩ := hR1.o
  refine v_istore C dL_law_743 rfl ?_
  dsimp only [sto1, sto2, killL]
  refine v_aload_n C dL_law_745 rfl ?_
  refine v_callV C dL_law_746 vL_169 o1 c9 rfl (blt10 hd9) rfl ⟨Nat.ble_eq_true_of_le (by show z.1 + z'.1 ≤ 603072; omega), Nat.ble_eq_true_of_le (by show z.2 + z'.2 ≤ 7157866; omega)⟩ rfl rfl (fun _ => rfl) (fun h2 hp => ?_)
  dsimp only [Option.toList, List.cons_append, List.nil_append]
  refine v_istore C dL_law_749 rfl ?_
  dsimp only [sto1, sto2, killL]
  refine v_aload_n C dL_law_751 rfl ?_
  obtain ⟨u2, o2, t2, -⟩ := hp.o
  refine v_callV C dL_law_752 vL_122 o2 (k9_thrown o2) rfl rfl rfl ⟨Nat.ble_eq_true_of_le (by show z.1 + z'.1 ≤ 603072; omega), Nat.ble_eq_true_of_le (by show z.2 + z'.2 ≤ 7157866; omega)⟩ rfl rfl (fun _ => rfl) (fun h3 e3 => ?_)
  rw [show h3 = _ from e3]
  dsimp only [Option.toList, List.cons_append, List.nil_append]
  rw [t2]
  have J2 : JI2 h2 S' sv' Z' F' := ⟨hP1.top (fun j hj => hp.fr j (.inl (by omega))), ⟨_, hp.low (fun _ _ _ => rfl)⟩, f1, (hp.fr 88 (.inr (by decide))).trans hf1⟩
  refine v_iload C dL_law_755 rfl ?_
  refine v_icmp_eqN C dL_law_757 (tgt := 762) (by decide) (by omega) (by omega) (fun _ => ?_) (fun hne => absurd rfl hne)
  refine v_iload C dL_law_762 rfl ?_
  refine v_if_neN C dL_law_764 (tgt := 779) (by decide) (by omega) (fun _ => v_goto C dL_law_779 (tgt := 2096) (by decide) (v_forget _ _ _ _ _ _ _ _ (K h2 S' sv' Z' F' _ J2 ⟨by show z.1 + z'.1 ≤ z.1 + 1; omega, by show z.2 + z'.2 ≤ z.2 + 6; omega⟩))) (fun hr0 => ?_)
  refine v_aload_n C dL_law_767 rfl ?_
  refine v_iconst C dL_law_768 (v := nI 0) rfl ?_
  refine v_lald C dL_law_769 ((hp.fr 88 (.inr (by decide))).trans hf1) (by decide) rfl (j := 0) (by decide) (hy1 hr0) ?_
  refine v_iload C dL_law_770 rfl ?_
  refine v_i2l C dL_law_772 ?_
  refine v_lcmp C dL_law_773 ?_
  exact v_if_eq C dL_law_774 (tgt := 779) (by decide) (fun _ => v_goto C dL_law_779 (tgt := 2096) (by decide) (v_forget _ _ _ _ _ _ _ _ (K h2 S' sv' Z' F' _ J2 ⟨by show z.1 + z'.1 ≤ z.1 + 1; omega, by show z.2 + z'.2 ≤ z.2 + 6; omega⟩))) (fun hne => absurd (cmp_self _) hne)
theorem lc_setWord {X : CT} {o : Oc} {P : Wt → Hp → Prop} (C : Cx X mL_law [] 10 zL o P) {z : Nat × Nat} {w : Wt} {h : Hp} {N i : Nat} {xs : Nat → Int32} {S Z : Sc} {sv : Bool} {F : Sf} (hs : SC X w N xs) (hN : N ≤ 2560) (hi : i + 5 ≤ N) (hz : z.1 + 1 ≤ 603072 ∧ z.2 + 6 ≤ 7157866) (hJ : JI2 h S sv Z F) (K : ∀ h' S' sv' Z' F' z', JI2 h' S' sv' Z' F' → z'.1 ≤ z.1 + 1 ∧ z'.2 ≤ z.2 + 6 → V X z' w h' 2096 (LL i) []) : V X z w h 782 (LL i) [] := by
  obtain ⟨th, hR⟩ := hJ.2.1
  obtain ⟨f, hf⟩ := hJ.2.2
  obtain ⟨S', sv', Z', F', o', z', r, y, j8, j9, hr4, hc⟩ := jm_setWord hJ.oks (w := w) (S := S) (sv := sv) (Z := Z) (F := F) (x := xs (i + 1)) (y := xs (i + 2)) (v := xs (i + 3))
  obtain ⟨d8, P8, hd8, c8, q8⟩ := j8 h hJ.1
  have hz' : z'.1 ≤ 1 ∧ z'.2 ≤ 6 := by rcases hc with ⟨-, -, rfl⟩ | ⟨E, -, -, rfl⟩ <;> decide
  have hJO : JO rwL_setWord o' z' r f P8 (RW h S' sv' Z' F' r y.toInt64) := by
    rcases hc with ⟨rfl, rfl, rfl⟩ | ⟨E, rfl, hE, rfl⟩
    · exact .inl ⟨y, rfl, rfl, rfl, fun h1 p1 => ⟨((q8 h1 p1).gf 88 (by decide)).trans hf, rw_ok (q8 h1 p1)⟩⟩
    · exact .inr ⟨E, rfl, rfl, hE, fun h1 p1 => rw_thr (q8 h1 p1) hf (fun e => by subst e; simp [rwL_setWord] at hE)⟩
  have cw := xL_setWord hJO hJ.1.ob hd8 c8
  refine v_aload_n C dL_law_782 rfl ?_
  refine v_aload_n C dL_law_783 rfl ?_
  refine v_iload C dL_law_784 rfl ?_
  refine v_iconst C dL_law_786 (v := nI 1) rfl ?_
  refine v_iaddN C dL_law_787 ?_
  refine v_sld C hs hN (by omega) dL_law_788 ?_
  refine v_aload_n C dL_law_789 rfl ?_
  refine v_iload C dL_law_790 rfl ?_
  refine v_iconst C dL_law_792 (v := nI 2) rfl ?_
  refine v_iaddN C dL_law_793 ?_
  refine v_sld C hs hN (by omega) dL_law_794 ?_
  refine v_aload_n C dL_law_795 rfl ?_
  refine v_iload C dL_law_796 rfl ?_
  refine v_iconst C dL_law_798 (v := nI 3) rfl ?_
  refine v_iaddN C dL_law_799 ?_
  refine v_sld C hs hN (by omega) dL_law_800 ?_
  refine v_aload_n C dL_law_801 rfl ?_
  refine v_callH C dL_law_802 kL_setWord (tj4 31 (by rfl) rfl) cw rfl rfl rfl ⟨by show z.1 + z'.1 ≤ 603072; omega, by show z.2 + z'.2 ≤ 7157866; omega⟩ rfl rfl (fun _ => rfl) (fun h1 R1 => ?_)
  dsimp only [Option.toList, List.cons_append, List.nil_append]
  obtain ⟨hP1, fr1, f1, hf1, hy1⟩ := R1
  have hR1 := hR.low (h' := h1) (fun j a b => fr1 j (by omega) (by omega))
  obtain ⟨d9, hd9, c9⟩ := j9 h1 _ hR1
  obtain ⟨u1, o1, -⟩ := hR1.o
  refine v_istore C dL_law_805 rfl ?_
  dsimp only [sto1, sto2, killL]
  refine v_aload_n C dL_law_807 rfl ?_
  refine v_aload_n C dL_law_808 rfl ?_
  refine v_iload C dL_law_809 rfl ?_
  refine v_iconst C dL_law_811 (v := nI 1) rfl ?_
  refine v_iaddN C dL_law_812 ?_
  refine v_sld C hs hN (by omega) dL_law_813 ?_
  refine v_aload_n C dL_law_814 rfl ?_
  refine v_iload C dL_law_815 rfl ?_
  refine v_iconst C dL_law_817 (v := nI 2) rfl ?_
  refine v_iaddN C dL_law_818 ?_
  refine v_sld C hs hN (by omega) dL_law_819 ?_
  refine v_aload_n C dL_law_820 rfl ?_
  refine v_iload C dL_law_821 rfl ?_
  refine v_iconst C dL_law_823 (v := nI 3) rfl ?_
  refine v_iaddN C dL_law_824 ?_
  refine v_sld C hs hN (by omega) dL_law_825 ?_
  refine v_callV C dL_law_826 vL_173 o1 c9 rfl (blt10 hd9) rfl ⟨Nat.ble_eq_true_of_le (by show z.1 + z'.1 ≤ 603072; omega), Nat.ble_eq_true_of_le (by show z.2 + z'.2 ≤ 7157866; omega)⟩ rfl rfl (fun _ => rfl) (fun h2 hp => ?_)
  dsimp only [Option.toList, List.cons_append, List.nil_append]
  refine v_istore C dL_law_829 rfl ?_
  dsimp only [sto1, sto2, killL]
  refine v_aload_n C dL_law_831 rfl ?_
  obtain ⟨u2, o2, t2, -⟩ := hp.o
  refine v_callV C dL_law_832 vL_122 o2 (k9_thrown o2) rfl rfl rfl ⟨Nat.ble_eq_true_of_le (by show z.1 + z'.1 ≤ 603072; omega), Nat.ble_eq_true_of_le (by show z.2 + z'.2 ≤ 7157866; omega)⟩ rfl rfl (fun _ => rfl) (fun h3 e3 => ?_)
  rw [show h3 = _ from e3]
  dsimp only [Option.toList, List.cons_append, List.nil_append]
  rw [t2]
  have J2 : JI2 h2 S' sv' Z' F' := ⟨hP1.top (fun j hj => hp.fr j (.inl (by omega))), ⟨_, hp.low (fun _ _ _ => rfl)⟩, f1, (hp.fr 88 (.inr (by decide))).trans hf1⟩
  refine v_iload C dL_law_835 rfl ?_
  refine v_icmp_eqN C dL_law_837 (tgt := 842) (by decide) (by omega) (by omega) (fun _ => ?_) (fun hne => absurd rfl hne)
  refine v_iload C dL_law_842 rfl ?_
  refine v_if_neN C dL_law_844 (tgt := 859) (by decide) (by omega) (fun _ => v_goto C dL_law_859 (tgt := 2096) (by decide) (v_forget _ _ _ _ _ _ _ _ (K h2 S' sv' Z' F' _ J2 ⟨by show z.1 + z'.1 ≤ z.1 + 1; omega, by show z.2 + z'.2 ≤ z.2 + 6; omega⟩))) (fun hr0 => ?_)
  refine v_aload_n C dL_law_847 rfl ?_
  refine v_iconst C dL_law_848 (v := nI 0) rfl ?_
  refine v_lald C dL_law_849 ((hp.fr 88 (.inr (by decide))).trans hf1) (by decide) rfl (j := 0) (by decide) (hy1 hr0) ?_
  refine v_iload C dL_law_850 rfl ?_
  refine v_i2l C dL_law_852 ?_
  refine v_lcmp C dL_law_853 ?_
  exact v_if_eq C dL_law_854 (tgt := 859) (by decide) (fun _ => v_goto C dL_law_859 (tgt := 2096) (by decide) (v_forget _ _ _ _ _ _ _ _ (K h2 S' sv' Z' F' _ J2 ⟨by show z.1 + z'.1 ≤ z.1 + 1; omega, by show z.2 + z'.2 ≤ z.2 + 6; omega⟩))) (fun hne => absurd (cmp_self _) hne)
theorem lc_wordLength {X : CT} {o : Oc} {P : Wt → Hp → Prop} (C : Cx X mL_law [] 10 zL o P) {z : Nat × Nat} {w : Wt} {h : Hp} {N i : Nat} {xs : Nat → Int32} {S Z : Sc} {sv : Bool} {F : Sf} (hs : SC X w N xs) (hN : N ≤ 2560) (hi : i + 5 ≤ N) (hz : z.1 + 1 ≤ 603072 ∧ z.2 + 6 ≤ 7157866) (hJ : JI2 h S sv Z F) (K : ∀ h' S' sv' Z' F' z', JI2 h' S' sv' Z' F' → z'.1 ≤ z.1 + 1 ∧ z'.2 ≤ z.2 + 6 → V X z' w h' 2096 (LL i) []) : V X z w h 862 (LL i) [] := by
  obtain ⟨th, hR⟩ := hJ.2.1
  obtain ⟨f, hf⟩ := hJ.2.2
  obtain ⟨S', sv', Z', F', o', z', r, y, j8, j9, hr4, hc⟩ := jm_wordLength (w := w) (S := S) (sv := sv) (Z := Z) (F := F) (x := xs (i + 1))
  obtain ⟨d8, P8, hd8, c8, q8⟩ := j8 h hJ.1
  have hz' : z'.1 ≤ 1 ∧ z'.2 ≤ 6 := by rcases hc with ⟨-, -, rfl⟩ | ⟨E, -, -, rfl⟩ <;> decide
  have hJO : JO rwL_wordLength o' z' r f P8 (RW h S' sv' Z' F' r y.toInt64) := by
    rcases hc with ⟨rfl, rfl, rfl⟩ | ⟨E, rfl, hE, rfl⟩
    · exact .inl ⟨y, rfl, rfl, rfl, fun h1 p1 => ⟨((q8 h1 p1).gf 88 (by decide)).trans hf, rw_ok (q8 h1 p1)⟩⟩
    · exact .inr ⟨E, rfl, rfl, hE, fun h1 p1 => rw_thr (q8 h1 p1) hf (fun e => by subst e; simp [rwL_wordLength] at hE)⟩
  have cw := xL_wordLength hJO hJ.1.ob hd8 c8
  refine v_aload_n C dL_law_862 rfl ?_
  refine v_aload_n C dL_law_863 rfl ?_
  refine v_iload C dL_law_864 rfl ?_
  refine v_iconst C dL_law_866 (v := nI 1) rfl ?_
  refine v_iaddN C dL_law_867 ?_
  refine v_sld C hs hN (by omega) dL_law_868 ?_
  refine v_aload_n C dL_law_869 rfl ?_
  refine v_callH C dL_law_870 kL_wordLength (tj4 48 (by rfl) rfl) cw rfl rfl rfl ⟨by show z.1 + z'.1 ≤ 603072; omega, by show z.2 + z'.2 ≤ 7157866; omega⟩ rfl rfl (fun _ => rfl) (fun h1 R1 => ?_)
  dsimp only [Option.toList, List.cons_append, List.nil_append]
  obtain ⟨hP1, fr1, f1, hf1, hy1⟩ := R1
  have hR1 := hR.low (h' := h1) (fun j a b => fr1 j (by omega) (by omega))
  obtain ⟨d9, hd9, c9⟩ := j9 h1 _ hR1
  obtain ⟨u1, o1, -⟩ := hR1.o
  refine v_istore C dL_law_873 rfl ?_
  dsimp only [sto1, sto2, killL]
  refine v_aload_n C dL_law_875 rfl ?_
  refine v_aload_n C dL_law_876 rfl ?_
  refine v_iload C dL_law_877 rfl ?_
  refine v_iconst C dL_law_879 (v := nI 1) rfl ?_
  refine v_iaddN C dL_law_880 ?_
  refine v_sld C hs hN (by omega) dL_law_881 ?_
  refine v_callV C dL_law_882 vL_176 o1 c9 rfl (blt10 hd9) rfl ⟨Nat.ble_eq_true_of_le (by show z.1 + z'.1 ≤ 603072; omega), Nat.ble_eq_true_of_le (by show z.2 + z'.2 ≤ 7157866; omega)⟩ rfl rfl (fun _ => rfl) (fun h2 hp => ?_)
  dsimp only [Option.toList, List.cons_append, List.nil_append]
  refine v_istore C dL_law_885 rfl ?_
  dsimp only [sto1, sto2, killL]
  refine v_aload_n C dL_law_887 rfl ?_
  obtain ⟨u2, o2, t2, -⟩ := hp.o
  refine v_callV C dL_law_888 vL_122 o2 (k9_thrown o2) rfl rfl rfl ⟨Nat.ble_eq_true_of_le (by show z.1 + z'.1 ≤ 603072; omega), Nat.ble_eq_true_of_le (by show z.2 + z'.2 ≤ 7157866; omega)⟩ rfl rfl (fun _ => rfl) (fun h3 e3 => ?_)
  rw [show h3 = _ from e3]
  dsimp only [Option.toList, List.cons_append, List.nil_append]
  rw [t2]
  have J2 : JI2 h2 S' sv' Z' F' := ⟨hP1.top (fun j hj => hp.fr j (.inl (by omega))), ⟨_, hp.low (fun _ _ _ => rfl)⟩, f1, (hp.fr 88 (.inr (by decide))).trans hf1⟩
  refine v_iload C dL_law_891 rfl ?_
  refine v_icmp_eqN C dL_law_893 (tgt := 898) (by decide) (by omega) (by omega) (fun _ => ?_) (fun hne => absurd rfl hne)
  refine v_iload C dL_law_898 rfl ?_
  refine v_if_neN C dL_law_900 (tgt := 915) (by decide) (by omega) (fun _ => v_goto C dL_law_915 (tgt := 2096) (by decide) (v_forget _ _ _ _ _ _ _ _ (K h2 S' sv' Z' F' _ J2 ⟨by show z.1 + z'.1 ≤ z.1 + 1; omega, by show z.2 + z'.2 ≤ z.2 + 6; omega⟩))) (fun hr0 => ?_)
  refine v_aload_n C dL_law_903 rfl ?_
  refine v_iconst C dL_law_904 (v := nI 0) rfl ?_
  refine v_lald C dL_law_905 ((hp.fr 88 (.inr (by decide))).trans hf1) (by decide) rfl (j := 0) (by decide) (hy1 hr0) ?_
  refine v_iload C dL_law_906 rfl ?_
  refine v_i2l C dL_law_908 ?_
  refine v_lcmp C dL_law_909 ?_
  exact v_if_eq C dL_law_910 (tgt := 915) (by decide) (fun _ => v_goto C dL_law_915 (tgt := 2096) (by decide) (v_forget _ _ _ _ _ _ _ _ (K h2 S' sv' Z' F' _ J2 ⟨by show z.1 + z'.1 ≤ z.1 + 1; omega, by show z.2 + z'.2 ≤ z.2 + 6; omega⟩))) (fun hne => absurd (cmp_self _) hne)
theorem lc_wordIndex {X : CT} {o : Oc} {P : Wt → Hp → Prop} (C : Cx X mL_law [] 10 zL o P) {z : Nat × Nat} {w : Wt} {h : Hp} {N i : Nat} {xs : Nat → Int32} {S Z : Sc} {sv : Bool} {F : Sf} (hs : SC X w N xs) (hN : N ≤ 2560) (hi : i + 5 ≤ N) (hz : z.1 + 1 ≤ 603072 ∧ z.2 + 6 ≤ 7157866) (hJ : JI2 h S sv Z F) (K : ∀ h' S' sv' Z' F' z', JI2 h' S' sv' Z' F' → z'.1 ≤ z.1 + 1 ∧ z'.2 ≤ z.2 + 6 → V X z' w h' 2096 (LL i) []) : V X z w h 918 (LL i) [] := by
  obtain ⟨th, hR⟩ := hJ.2.1
  obtain ⟨f, hf⟩ := hJ.2.2
  obtain ⟨S', sv', Z', F', o', z', r, y, j8, j9, hr4, hc⟩ := jm_wordIndex (w := w) (S := S) (sv := sv) (Z := Z) (F := F) (x := xs (i + 1))
  obtain ⟨d8, P8, hd8, c8, q8⟩ := j8 h hJ.1
  have hz' : z'.1 ≤ 1 ∧ z'.2 ≤ 6 := by rcases hc with ⟨-, -, rfl⟩ | ⟨E, -, -, rfl⟩ <;> decide
  have hJO : JO rwL_wordIndex o' z' r f P8 (RW h S' sv' Z' F' r y.toInt64) := by
    rcases hc with ⟨rfl, rfl, rfl⟩ | ⟨E, rfl, hE, rfl⟩
    · exact .inl ⟨y, rfl, rfl, rfl, fun h1 p1 => ⟨((q8 h1 p1).gf 88 (by decide)).trans hf, rw_ok (q8 h1 p1)⟩⟩
    · exact .inr ⟨E, rfl, rfl, hE, fun h1 p1 => rw_thr (q8 h1 p1) hf (fun e => by subst e; simp [rwL_wordIndex] at hE)⟩
  have cw := xL_wordIndex hJO hJ.1.ob hd8 c8
  refine v_aload_n C dL_law_918 rfl ?_
  refine v_aload_n C dL_law_919 rfl ?_
  refine v_iload C dL_law_920 rfl ?_
  refine v_iconst C dL_law_922 (v := nI 1) rfl ?_
  refine v_iaddN C dL_law_923 ?_
  refine v_sld C hs hN (by omega) dL_law_924 ?_
  refine v_aload_n C dL_law_925 rfl ?_
  refine v_callH C dL_law_926 kL_wordIndex (tj4 55 (by rfl) rfl) cw rfl rfl rfl ⟨by show z.1 + z'.1 ≤ 603072; omega, by show z.2 + z'.2 ≤ 7157866; omega⟩ rfl rfl (fun _ => rfl) (fun h1 R1 => ?_)
  dsimp only [Option.toList, List.cons_append, List.nil_append]
  obtain ⟨hP1, fr1, f1, hf1, hy1⟩ := R1
  have hR1 := hR.low (h' := h1) (fun j a b => fr1 j (by omega) (by omega))
  obtain ⟨d9, hd9, c9⟩ := j9 h1 _ hR1
  obtain ⟨u1, o1, -⟩ := hR1.o
  refine v_istore C dL_law_929 rfl ?_
  dsimp only [sto1, sto2, killL]
  refine v_aload_n C dL_law_931 rfl ?_
  refine v_aload_n C dL_law_932 rfl ?_
  refine v_iload C dL_law_933 rfl ?_
  refine v_iconst C dL_law_935 (v := nI 1) rfl ?_
  refine v_iaddN C dL_law_936 ?_
  refine v_sld C hs hN (by omega) dL_law_937 ?_
  refine v_callV C dL_law_938 vL_179 o1 c9 rfl (blt10 hd9) rfl ⟨Nat.ble_eq_true_of_le (by show z.1 + z'.1 ≤ 603072; omega), Nat.ble_eq_true_of_le (by show z.2 + z'.2 ≤ 7157866; omega)⟩ rfl rfl (fun _ => rfl) (fun h2 hp => ?_)
  dsimp only [Option.toList, List.cons_append, List.nil_append]
  refine v_istore C dL_law_941 rfl ?_
  dsimp only [sto1, sto2, killL]
  refine v_aload_n C dL_law_943 rfl ?_
  obtain ⟨u2, o2, t2, -⟩ := hp.o
  refine v_callV C dL_law_944 vL_122 o2 (k9_thrown o2) rfl rfl rfl ⟨Nat.ble_eq_true_of_le (by show z.1 + z'.1 ≤ 603072; omega), Nat.ble_eq_true_of_le (by show z.2 + z'.2 ≤ 7157866; omega)⟩ rfl rfl (fun _ => rfl) (fun h3 e3 => ?_)
  rw [show h3 = _ from e3]
  dsimp only [Option.toList, List.cons_append, List.nil_append]
  rw [t2]
  have J2 : JI2 h2 S' sv' Z' F' := ⟨hP1.top (fun j hj => hp.fr j (.inl (by omega))), ⟨_, hp.low (fun _ _ _ => rfl)⟩, f1, (hp.fr 88 (.inr (by decide))).trans hf1⟩
  refine v_iload C dL_law_947 rfl ?_
  refine v_icmp_eqN C dL_law_949 (tgt := 954) (by decide) (by omega) (by omega) (fun _ => ?_) (fun hne => absurd rfl hne)
  refine v_iload C dL_law_954 rfl ?_
  refine v_if_neN C dL_law_956 (tgt := 971) (by decide) (by omega) (fun _ => v_goto C dL_law_971 (tgt := 2096) (by decide) (v_forget _ _ _ _ _ _ _ _ (K h2 S' sv' Z' F' _ J2 ⟨by show z.1 + z'.1 ≤ z.1 + 1; omega, by show z.2 + z'.2 ≤ z.2 + 6; omega⟩))) (fun hr0 => ?_)
  refine v_aload_n C dL_law_959 rfl ?_
  refine v_iconst C dL_law_960 (v := nI 0) rfl ?_
  refine v_lald C dL_law_961 ((hp.fr 88 (.inr (by decide))).trans hf1) (by decide) rfl (j := 0) (by decide) (hy1 hr0) ?_
  refine v_iload C dL_law_962 rfl ?_
  refine v_i2l C dL_law_964 ?_
  refine v_lcmp C dL_law_965 ?_
  exact v_if_eq C dL_law_966 (tgt := 971) (by decide) (fun _ => v_goto C dL_law_971 (tgt := 2096) (by decide) (v_forget _ _ _ _ _ _ _ _ (K h2 S' sv' Z' F' _ J2 ⟨by show z.1 + z'.1 ≤ z.1 + 1; omega, by show z.2 + z'.2 ≤ z.2 + 6; omega⟩))) (fun hne => absurd (cmp_self _) hne)
theorem lc_cell {X : CT} {o : Oc} {P : Wt → Hp → Prop} (C : Cx X mL_law [] 10 zL o P) {z : Nat × Nat} {w : Wt} {h : Hp} {N i : Nat} {xs : Nat → Int32} {S Z : Sc} {sv : Bool} {F : Sf} (hs : SC X w N xs) (hN : N ≤ 2560) (hi : i + 5 ≤ N) (hz : z.1 + 1 ≤ 603072 ∧ z.2 + 6 ≤ 7157866) (hJ : JI2 h S sv Z F) (K : ∀ h' S' sv' Z' F' z', JI2 h' S' sv' Z' F' → z'.1 ≤ z.1 + 1 ∧ z'.2 ≤ z.2 + 6 → V X z' w h' 2096 (LL i) []) : V X z w h 974 (LL i) [] := by
  obtain ⟨th, hR⟩ := hJ.2.1
  obtain ⟨f, hf⟩ := hJ.2.2
  obtain ⟨S', sv', Z', F', o', z', r, y, j8, j9, hr4, hc⟩ := jm_cell hJ.oks (w := w) (S := S) (sv := sv) (Z := Z) (F := F) (x := xs (i + 1)) (y := xs (i + 2))
  obtain ⟨d8, P8, hd8, c8, q8⟩ := j8 h hJ.1
  have hz' : z'.1 ≤ 1 ∧ z'.2 ≤ 6 := by rcases hc with ⟨-, -, rfl⟩ | ⟨E, -, -, rfl⟩ <;> decide
  have hJO : JO rwL_cell o' z' r f P8 (RW h S' sv' Z' F' r y.toInt64) := by
    rcases hc with ⟨rfl, rfl, rfl⟩ | ⟨E, rfl, hE, rfl⟩
    · exact .inl ⟨y, rfl, rfl, rfl, fun h1 p1 => ⟨((q8 h1 p1).gf 88 (by decide)).trans hf, rw_ok (q8 h1 p1)⟩⟩
    · exact .inr ⟨E, rfl, rfl, hE, fun h1 p1 => rw_thr (q8 h1 p1) hf (fun e => by subst e; simp [rwL_cell] at hE)⟩
  have cw := xL_cell hJO hJ.1.ob hd8 c8
  refine v_aload_n C dL_law_974 rfl ?_
  refine v_aload_n C dL_law_975 rfl ?_
  refine v_iload C dL_law_976 rfl ?_
  refine v_iconst C dL_law_978 (v := nI 1) rfl ?_
  refine v_iaddN C dL_law_979 ?_
  refine v_sld C hs hN (by omega) dL_law_980 ?_
  refine v_aload_n C dL_law_981 rfl ?_
  refine v_iload C dL_law_982 rfl ?_
  refine v_iconst C dL_law_984 (v := nI 2) rfl ?_
  refine v_iaddN C dL_law_985 ?_
  refine v_sld C hs hN (by omega) dL_law_986 ?_
  refine v_aload_n C dL_law_987 rfl ?_
  refine v_callH C dL_law_988 kL_cell (tj4 62 (by rfl) rfl) cw rfl rfl rfl ⟨by show z.1 + z'.1 ≤ 603072; omega, by show z.2 + z'.2 ≤ 7157866; omega⟩ rfl rfl (fun _ => rfl) (fun h1 R1 => ?_)
  dsimp only [Option.toList, List.cons_append, List.nil_append]
  obtain ⟨hP1, fr1, f1, hf1, hy1⟩ := R1
  have hR1 := hR.low (h' := h1) (fun j a b => fr1 j (by omega) (by omega))
  obtain ⟨d9, hd9, c9⟩ := j9 h1 _ hR1
  obtain ⟨u1, o1, -⟩ := hR1.o
  refine v_istore C dL_law_991 rfl ?_
  dsimp only [sto1, sto2, killL]
  refine v_aload_n C dL_law_993 rfl ?_
  refine v_aload_n C dL_law_994 rfl ?_
  refine v_iload C dL_law_995 rfl ?_
  refine v_iconst C dL_law_997 (v := nI 1) rfl ?_
  refine v_iaddN C dL_law_998 ?_
  refine v_sld C hs hN (by omega) dL_law_999 ?_
  refine v_aload_n C dL_law_1000 rfl ?_
  refine v_iload C dL_law_1001 rfl ?_
  refine v_iconst C dL_law_1003 (v := nI 2) rfl ?_
  refine v_iaddN C dL_law_1004 ?_
  refine v_sld C hs hN (by omega) dL_law_1005 ?_
  refine v_callV C dL_law_1006 vL_182 o1 c9 rfl (blt10 hd9) rfl ⟨Nat.ble_eq_true_of_le (by show z.1 + z'.1 ≤ 603072; omega), Nat.ble_eq_true_of_le (by show z.2 + z'.2 ≤ 7157866; omega)⟩ rfl rfl (fun _ => rfl) (fun h2 hp => ?_)
  dsimp only [Option.toList, List.cons_append, List.nil_append]
  refine v_istore C dL_law_1009 rfl ?_
  dsimp only [sto1, sto2, killL]
  refine v_aload_n C dL_law_1011 rfl ?_
  obtain ⟨u2, o2, t2, -⟩ := hp.o
  refine v_callV C dL_law_1012 vL_122 o2 (k9_thrown o2) rfl rfl rfl ⟨Nat.ble_eq_true_of_le (by show z.1 + z'.1 ≤ 603072; omega), Nat.ble_eq_true_of_le (by show z.2 + z'.2 ≤ 7157866; omega)⟩ rfl rfl (fun _ => rfl) (fun h3 e3 => ?_)
  rw [show h3 = _ from e3]
  dsimp only [Option.toList, List.cons_append, List.nil_append]
  rw [t2]
  have J2 : JI2 h2 S' sv' Z' F' := ⟨hP1.top (fun j hj => hp.fr j (.inl (by omega))), ⟨_, hp.low (fun _ _ _ => rfl)⟩, f1, (hp.fr 88 (.inr (by decide))).trans hf1⟩
  refine v_iload C dL_law_1015 rfl ?_
  refine v_icmp_eqN C dL_law_1017 (tgt := 1022) (by decide) (by omega) (by omega) (fun _ => ?_) (fun hne => absurd rfl hne)
  refine v_iload C dL_law_1022 rfl ?_
  refine v_if_neN C dL_law_1024 (tgt := 1039) (by decide) (by omega) (fun _ => v_goto C dL_law_1039 (tgt := 2096) (by decide) (v_forget _ _ _ _ _ _ _ _ (K h2 S' sv' Z' F' _ J2 ⟨by show z.1 + z'.1 ≤ z.1 + 1; omega, by show z.2 + z'.2 ≤ z.2 + 6; omega⟩))) (fun hr0 => ?_)
  refine v_aload_n C dL_law_1027 rfl ?_
  refine v_iconst C dL_law_1028 (v := nI 0) rfl ?_
  refine v_lald C dL_law_1029 ((hp.fr 88 (.inr (by decide))).trans hf1) (by decide) rfl (j := 0) (by decide) (hy1 hr0) ?_
  refine v_iload C dL_law_1030 rfl ?_
  refine v_i2l C dL_law_1032 ?_
  refine v_lcmp C dL_law_1033 ?_
  exact v_if_eq C dL_law_1034 (tgt := 1039) (by decide) (fun _ => v_goto C dL_law_1039 (tgt := 2096) (by decide) (v_forget _ _ _ _ _ _ _ _ (K h2 S' sv' Z' F' _ J2 ⟨by show z.1 + z'.1 ≤ z.1 + 1; omega, by show z.2 + z'.2 ≤ z.2 + 6; omega⟩))) (fun hne => absurd (cmp_self _) hne)
theorem lc_apply {X : CT} {o : Oc} {P : Wt → Hp → Prop} (C : Cx X mL_law [] 10 zL o P) {z : Nat × Nat} {w : Wt} {h : Hp} {N i : Nat} {xs : Nat → Int32} {S Z : Sc} {sv : Bool} {F : Sf} (hs : SC X w N xs) (hN : N ≤ 2560) (hi : i + 5 ≤ N) (hz : z.1 + 1 ≤ 603072 ∧ z.2 + 6 ≤ 7157866) (hJ : JI2 h S sv Z F) (K : ∀ h' S' sv' Z' F' z', JI2 h' S' sv' Z' F' → z'.1 ≤ z.1 + 1 ∧ z'.2 ≤ z.2 + 6 → V X z' w h' 2096 (LL i) []) : V X z w h 1042 (LL i) [] := by
  obtain ⟨th, hR⟩ := hJ.2.1
  obtain ⟨f, hf⟩ := hJ.2.2
  obtain ⟨S', sv', Z', F', o', z', r, y, j8, j9, hr4, hc⟩ := jm_apply (w := w) (S := S) (sv := sv) (Z := Z) (F := F) (x := xs (i + 1)) (c := decide (xs (i + 2) ≠ 0))
  obtain ⟨d8, P8, hd8, c8, q8⟩ := j8 h hJ.1
  have hz' : z'.1 ≤ 1 ∧ z'.2 ≤ 6 := by rcases hc with ⟨-, -, rfl⟩ | ⟨E, -, -, rfl⟩ <;> decide
  have hJO : JO rwL_apply o' z' r f P8 (RW h S' sv' Z' F' r y.toInt64) := by
    rcases hc with ⟨rfl, rfl, rfl⟩ | ⟨E, rfl, hE, rfl⟩
    · exact .inl ⟨y, rfl, rfl, rfl, fun h1 p1 => ⟨((q8 h1 p1).gf 88 (by decide)).trans hf, rw_ok (q8 h1 p1)⟩⟩
    · exact .inr ⟨E, rfl, rfl, hE, fun h1 p1 => rw_thr (q8 h1 p1) hf (fun e => by subst e; simp [rwL_apply] at hE)⟩
  have cw := xL_apply hJO hJ.1.ob hd8 c8
  refine v_aload_n C dL_law_1042 rfl ?_
  refine v_aload_n C dL_law_1043 rfl ?_
  refine v_iload C dL_law_1044 rfl ?_
  refine v_iconst C dL_law_1046 (v := nI 1) rfl ?_
  refine v_iaddN C dL_law_1047 ?_
  refine v_sld C hs hN (by omega) dL_law_1048 ?_
  refine v_aload_n C dL_law_1049 rfl ?_
  refine v_iload C dL_law_1050 rfl ?_
  refine v_iconst C dL_law_1052 (v := nI 2) rfl ?_
  refine v_iaddN C dL_law_1053 ?_
  refine v_sld C hs hN (by omega) dL_law_1054 ?_
  refine v_bool C dL_law_1055 dL_law_1058 dL_law_1059 dL_law_1062 ?_
  refine v_aload_n C dL_law_1063 rfl ?_
  refine v_callH C dL_law_1064 kL_apply (tj4 74 (by rfl) rfl) cw rfl rfl rfl ⟨by show z.1 + z'.1 ≤ 603072; omega, by show z.2 + z'.2 ≤ 7157866; omega⟩ rfl rfl (fun _ => rfl) (fun h1 R1 => ?_)
  dsimp only [Option.toList, List.cons_append, List.nil_append]
  obtain ⟨hP1, fr1, f1, hf1, hy1⟩ := R1
  have hR1 := hR.low (h' := h1) (fun j a b => fr1 j (by omega) (by omega))
  obtain ⟨d9, hd9, c9⟩ := j9 h1 _ hR1
  obtain ⟨u1, o1, -⟩ := hR1.o
  refine v_istore C dL_law_1067 rfl ?_
  dsimp only [sto1, sto2, killL]
  refine v_aload_n C dL_law_1069 rfl ?_
  refine v_aload_n C dL_law_1070 rfl ?_
  refine v_iload C dL_law_1071 rfl ?_
  refine v_iconst C dL_law_1073 (v := nI 1) rfl ?_
  refine v_iaddN C dL_law_1074 ?_
  refine v_sld C hs hN (by omega) dL_law_1075 ?_
  refine v_aload_n C dL_law_1076 rfl ?_
  refine v_iload C dL_law_1077 rfl ?_
  refine v_iconst C dL_law_1079 (v := nI 2) rfl ?_
  refine v_iaddN C dL_law_1080 ?_
  refine v_sld C hs hN (by omega) dL_law_1081 ?_
  refine v_bool C dL_law_1082 dL_law_1085 dL_law_1086 dL_law_1089 ?_
  refine v_callV C dL_law_1090 vL_186 o1 c9 rfl (blt10 hd9) rfl ⟨Nat.ble_eq_true_of_le (by show z.1 + z'.1 ≤ 603072; omega), Nat.ble_eq_true_of_le (by show z.2 + z'.2 ≤ 7157866; omega)⟩ rfl rfl (fun _ => rfl) (fun h2 hp => ?_)
  dsimp only [Option.toList, List.cons_append, List.nil_append]
  refine v_istore C dL_law_1093 rfl ?_
  dsimp only [sto1, sto2, killL]
  refine v_aload_n C dL_law_1095 rfl ?_
  obtain ⟨u2, o2, t2, -⟩ := hp.o
  refine v_callV C dL_law_1096 vL_122 o2 (k9_thrown o2) rfl rfl rfl ⟨Nat.ble_eq_true_of_le (by show z.1 + z'.1 ≤ 603072; omega), Nat.ble_eq_true_of_le (by show z.2 + z'.2 ≤ 7157866; omega)⟩ rfl rfl (fun _ => rfl) (fun h3 e3 => ?_)
  rw [show h3 = _ from e3]
  dsimp only [Option.toList, List.cons_append, List.nil_append]
  rw [t2]
  have J2 : JI2 h2 S' sv' Z' F' := ⟨hP1.top (fun j hj => hp.fr j (.inl (by omega))), ⟨_, hp.low (fun _ _ _ => rfl)⟩, f1, (hp.fr 88 (.inr (by decide))).trans hf1⟩
  refine v_iload C dL_law_1099 rfl ?_
  refine v_icmp_eqN C dL_law_1101 (tgt := 1106) (by decide) (by omega) (by omega) (fun _ => ?_) (fun hne => absurd rfl hne)
  refine v_iload C dL_law_1106 rfl ?_
  refine v_if_neN C dL_law_1108 (tgt := 1123) (by decide) (by omega) (fun _ => v_goto C dL_law_1123 (tgt := 2096) (by decide) (v_forget _ _ _ _ _ _ _ _ (K h2 S' sv' Z' F' _ J2 ⟨by show z.1 + z'.1 ≤ z.1 + 1; omega, by show z.2 + z'.2 ≤ z.2 + 6; omega⟩))) (fun hr0 => ?_)
  refine v_aload_n C dL_law_1111 rfl ?_
  refine v_iconst C dL_law_1112 (v := nI 0) rfl ?_
  refine v_lald C dL_law_1113 ((hp.fr 88 (.inr (by decide))).trans hf1) (by decide) rfl (j := 0) (by decide) (hy1 hr0) ?_
  refine v_iload C dL_law_1114 rfl ?_
  refine v_i2l C dL_law_1116 ?_
  refine v_lcmp C dL_law_1117 ?_
  exact v_if_eq C dL_law_1118 (tgt := 1123) (by decide) (fun _ => v_goto C dL_law_1123 (tgt := 2096) (by decide) (v_forget _ _ _ _ _ _ _ _ (K h2 S' sv' Z' F' _ J2 ⟨by show z.1 + z'.1 ≤ z.1 + 1; omega, by show z.2 + z'.2 ≤ z.2 + 6; omega⟩))) (fun hne => absurd (cmp_self _) hne)
theorem lc_orbit {X : CT} {o : Oc} {P : Wt → Hp → Prop} (C : Cx X mL_law [] 10 zL o P) {z : Nat × Nat} {w : Wt} {h : Hp} {N i : Nat} {xs : Nat → Int32} {S Z : Sc} {sv : Bool} {F : Sf} (hs : SC X w N xs) (hN : N ≤ 2560) (hi : i + 5 ≤ N) (hz : z.1 + 1 ≤ 603072 ∧ z.2 + 6 ≤ 7157866) (hJ : JI2 h S sv Z F) (K : ∀ h' S' sv' Z' F' z', JI2 h' S' sv' Z' F' → z'.1 ≤ z.1 + 1 ∧ z'.2 ≤ z.2 + 6 → V X z' w h' 2096 (LL i) []) : V X z w h 1126 (LL i) [] := by
  obtain ⟨th, hR⟩ := hJ.2.1
  obtain ⟨f, hf⟩ := hJ.2.2
  obtain ⟨S', sv', Z', F', o', z', r, y, j8, j9, hr4, hc⟩ := jm_orbit hJ.oks (w := w) (S := S) (sv := sv) (Z := Z) (F := F) (x := xs (i + 1)) (y := xs (i + 2))
  obtain ⟨d8, P8, hd8, c8, q8⟩ := j8 h hJ.1
  have hz' : z'.1 ≤ 1 ∧ z'.2 ≤ 6 := by rcases hc with ⟨-, -, rfl⟩ | ⟨E, -, -, rfl⟩ <;> decide
  have hJO : JO rwL_orbit o' z' r f P8 (RW h S' sv' Z' F' r y.toInt64) := by
    rcases hc with ⟨rfl, rfl, rfl⟩ | ⟨E, rfl, hE, rfl⟩
    · exact .inl ⟨y, rfl, rfl, rfl, fun h1 p1 => ⟨((q8 h1 p1).gf 88 (by decide)).trans hf, rw_ok (q8 h1 p1)⟩⟩
    · exact .inr ⟨E, rfl, rfl, hE, fun h1 p1 => rw_thr (q8 h1 p1) hf (fun e => by subst e; simp [rwL_orbit] at hE)⟩
  have cw := xL_orbit hJO hJ.1.ob hd8 c8
  refine v_aload_n C dL_law_1126 rfl ?_
  refine v_aload_n C dL_law_1127 rfl ?_
  refine v_iload C dL_law_1128 rfl ?_
  refine v_iconst C dL_law_1130 (v := nI 1) rfl ?_
  refine v_iaddN C dL_law_1131 ?_
  refine v_sld C hs hN (by omega) dL_law_1132 ?_
  refine v_aload_n C dL_law_1133 rfl ?_
  refine v_iload C dL_law_1134 rfl ?_
  refine v_iconst C dL_law_1136 (v := nI 2) rfl ?_
  refine v_iaddN C dL_law_1137 ?_
  refine v_sld C hs hN (by omega) dL_law_1138 ?_
  refine v_aload_n C dL_law_1139 rfl ?_
  refine v_callH C dL_law_1140 kL_orbit (tj4 86 (by rfl) rfl) cw rfl rfl rfl ⟨by show z.1 + z'.1 ≤ 603072; omega, by show z.2 + z'.2 ≤ 7157866; omega⟩ rfl rfl (fun _ => rfl) (fun h1 R1 => ?_)
  dsimp only [Option.toList, List.cons_append, List.nil_append]
  obtain ⟨hP1, fr1, f1, hf1, hy1⟩ := R1
  have hR1 := hR.low (h' := h1) (fun j a b => fr1 j (by omega) (by omega))
  obtain ⟨d9, hd9, c9⟩ := j9 h1 _ hR1
  obtain ⟨u1, o1, -⟩ := hR1.o
  refine v_istore C dL_law_1143 rfl ?_
  dsimp only [sto1, sto2, killL]
  refine v_aload_n C dL_law_1145 rfl ?_
  refine v_aload_n C dL_law_1146 rfl ?_
  refine v_iload C dL_law_1147 rfl ?_
  refine v_iconst C dL_law_1149 (v := nI 1) rfl ?_
  refine v_iaddN C dL_law_1150 ?_
  refine v_sld C hs hN (by omega) dL_law_1151 ?_
  refine v_aload_n C dL_law_1152 rfl ?_
  refine v_iload C dL_law_1153 rfl ?_
  refine v_iconst C dL_law_1155 (v := nI 2) rfl ?_
  refine v_iaddN C dL_law_1156 ?_
  refine v_sld C hs hN (by omega) dL_law_1157 ?_
  refine v_callV C dL_law_1158 vL_189 o1 c9 rfl (blt10 hd9) rfl ⟨Nat.ble_eq_true_of_le (by show z.1 + z'.1 ≤ 603072; omega), Nat.ble_eq_true_of_le (by show z.2 + z'.2 ≤ 7157866; omega)⟩ rfl rfl (fun _ => rfl) (fun h2 hp => ?_)
  dsimp only [Option.toList, List.cons_append, List.nil_append]
  refine v_istore C dL_law_1161 rfl ?_
  dsimp only [sto1, sto2, killL]
  refine v_aload_n C dL_law_1163 rfl ?_
  obtain ⟨u2, o2, t2, -⟩ := hp.o
  refine v_callV C dL_law_1164 vL_122 o2 (k9_thrown o2) rfl rfl rfl ⟨Nat.ble_eq_true_of_le (by show z.1 + z'.1 ≤ 603072; omega), Nat.ble_eq_true_of_le (by show z.2 + z'.2 ≤ 7157866; omega)⟩ rfl rfl (fun _ => rfl) (fun h3 e3 => ?_)
  rw [show h3 = _ from e3]
  dsimp only [Option.toList, List.cons_append, List.nil_append]
  rw [t2]
  have J2 : JI2 h2 S' sv' Z' F' := ⟨hP1.top (fun j hj => hp.fr j (.inl (by omega))), ⟨_, hp.low (fun _ _ _ => rfl)⟩, f1, (hp.fr 88 (.inr (by decide))).trans hf1⟩
  refine v_iload C dL_law_1167 rfl ?_
  refine v_icmp_eqN C dL_law_1169 (tgt := 1174) (by decide) (by omega) (by omega) (fun _ => ?_) (fun hne => absurd rfl hne)
  refine v_iload C dL_law_1174 rfl ?_
  refine v_if_neN C dL_law_1176 (tgt := 1191) (by decide) (by omega) (fun _ => v_goto C dL_law_1191 (tgt := 2096) (by decide) (v_forget _ _ _ _ _ _ _ _ (K h2 S' sv' Z' F' _ J2 ⟨by show z.1 + z'.1 ≤ z.1 + 1; omega, by show z.2 + z'.2 ≤ z.2 + 6; omega⟩))) (fun hr0 => ?_)
  refine v_aload_n C dL_law_1179 rfl ?_
  refine v_iconst C dL_law_1180 (v := nI 0) rfl ?_
  refine v_lald C dL_law_1181 ((hp.fr 88 (.inr (by decide))).trans hf1) (by decide) rfl (j := 0) (by decide) (hy1 hr0) ?_
  refine v_iload C dL_law_1182 rfl ?_
  refine v_i2l C dL_law_1184 ?_
  refine v_lcmp C dL_law_1185 ?_
  exact v_if_eq C dL_law_1186 (tgt := 1191) (by decide) (fun _ => v_goto C dL_law_1191 (tgt := 2096) (by decide) (v_forget _ _ _ _ _ _ _ _ (K h2 S' sv' Z' F' _ J2 ⟨by show z.1 + z'.1 ≤ z.1 + 1; omega, by show z.2 + z'.2 ≤ z.2 + 6; omega⟩))) (fun hne => absurd (cmp_self _) hne)
theorem lc_preimageCount {X : CT} {o : Oc} {P : Wt → Hp → Prop} (C : Cx X mL_law [] 10 zL o P) {z : Nat × Nat} {w : Wt} {h : Hp} {N i : Nat} {xs : Nat → Int32} {S Z : Sc} {sv : Bool} {F : Sf} (hs : SC X w N xs) (hN : N ≤ 2560) (hi : i + 5 ≤ N) (hz : z.1 + 1 ≤ 603072 ∧ z.2 + 6 ≤ 7157866) (hJ : JI2 h S sv Z F) (K : ∀ h' S' sv' Z' F' z', JI2 h' S' sv' Z' F' → z'.1 ≤ z.1 + 1 ∧ z'.2 ≤ z.2 + 6 → V X z' w h' 2096 (LL i) []) : V X z w h 1194 (LL i) [] := by
  obtain ⟨th, hR⟩ := hJ.2.1
  obtain ⟨f, hf⟩ := hJ.2.2
  obtain ⟨S', sv', Z', F', o', z', r, y, j8, j9, hr4, hc⟩ := jm_preimageCount (w := w) (S := S) (sv := sv) (Z := Z) (F := F) (x := xs (i + 1)) (c := decide (xs (i + 2) ≠ 0))
  obtain ⟨d8, P8, hd8, c8, q8⟩ := j8 h hJ.1
  have hz' : z'.1 ≤ 1 ∧ z'.2 ≤ 6 := by rcases hc with ⟨-, -, rfl⟩ | ⟨E, -, -, rfl⟩ <;> decide
  have hJO : JO rwL_preimageCount o' z' r f P8 (RW h S' sv' Z' F' r y.toInt64) := by
    rcases hc with ⟨rfl, rfl, rfl⟩ | ⟨E, rfl, hE, rfl⟩
    · exact .inl ⟨y, rfl, rfl, rfl, fun h1 p1 => ⟨((q8 h1 p1).gf 88 (by decide)).trans hf, rw_ok (q8 h1 p1)⟩⟩
    · exact .inr ⟨E, rfl, rfl, hE, fun h1 p1 => rw_thr (q8 h1 p1) hf (fun e => by subst e; simp [rwL_preimageCount] at hE)⟩
  have cw := xL_preimageCount hJO hJ.1.ob hd8 c8
  refine v_aload_n C dL_law_1194 rfl ?_
  refine v_aload_n C dL_law_1195 rfl ?_
  refine v_iload C dL_law_1196 rfl ?_
  refine v_iconst C dL_law_1198 (v := nI 1) rfl ?_
  refine v_iaddN C dL_law_1199 ?_
  refine v_sld C hs hN (by omega) dL_law_1200 ?_
  refine v_aload_n C dL_law_1201 rfl ?_
  refine v_iload C dL_law_1202 rfl ?_
  refine v_iconst C dL_law_1204 (v := nI 2) rfl ?_
  refine v_iaddN C dL_law_1205 ?_
  refine v_sld C hs hN (by omega) dL_law_1206 ?_
  refine v_bool C dL_law_1207 dL_law_1210 dL_law_1211 dL_law_1214 ?_
  refine v_aload_n C dL_law_1215 rfl ?_
  refine v_callH C dL_law_1216 kL_preimageCount (tj5 107 (by rfl) rfl) cw rfl rfl rfl ⟨by show z.1 + z'.1 ≤ 603072; omega, by show z.2 + z'.2 ≤ 7157866; omega⟩ rfl rfl (fun _ => rfl) (fun h1 R1 => ?_)
  dsimp only [Option.toList, List.cons_append, List.nil_append]
  obtain ⟨hP1, fr1, f1, hf1, hy1⟩ := R1
  have hR1 := hR.low (h' := h1) (fun j a b => fr1 j (by omega) (by omega))
  obtain ⟨d9, hd9, c9⟩ := j9 h1 _ hR1
  obtain ⟨u1, o1, -⟩ := hR1.o
  refine v_istore C dL_law_1219 rfl ?_
  dsimp only [sto1, sto2, killL]
  refine v_aload_n C dL_law_1221 rfl ?_
  refine v_aload_n C dL_law_1222 rfl ?_
  refine v_iload C dL_law_1223 rfl ?_
  refine v_iconst C dL_law_1225 (v := nI 1) rfl ?_
  refine v_iaddN C dL_law_1226 ?_
  refine v_sld C hs hN (by omega) dL_law_1227 ?_
  refine v_aload_n C dL_law_1228 rfl ?_
  refine v_iload C dL_law_1229 rfl ?_
  refine v_iconst C dL_law_1231 (v := nI 2) rfl ?_
  refine v_iaddN C dL_law_1232 ?_
  refine v_sld C hs hN (by omega) dL_law_1233 ?_
  refine v_bool C dL_law_1234 dL_law_1237 dL_law_1238 dL_law_1241 ?_
  refine v_callV C dL_law_1242 vL_192 o1 c9 rfl (blt10 hd9) rfl ⟨Nat.ble_eq_true_of_le (by show z.1 + z'.1 ≤ 603072; omega), Nat.ble_eq_true_of_le (by show z.2 + z'.2 ≤ 7157866; omega)⟩ rfl rfl (fun _ => rfl) (fun h2 hp => ?_)
  dsimp only [Option.toList, List.cons_append, List.nil_append]
  refine v_istore C dL_law_1245 rfl ?_
  dsimp only [sto1, sto2, killL]
  refine v_aload_n C dL_law_1247 rfl ?_
  obtain ⟨u2, o2, t2, -⟩ := hp.o
  refine v_callV C dL_law_1248 vL_122 o2 (k9_thrown o2) rfl rfl rfl ⟨Nat.ble_eq_true_of_le (by show z.1 + z'.1 ≤ 603072; omega), Nat.ble_eq_true_of_le (by show z.2 + z'.2 ≤ 7157866; omega)⟩ rfl rfl (fun _ => rfl) (fun h3 e3 => ?_)
  rw [show h3 = _ from e3]
  dsimp only [Option.toList, List.cons_append, List.nil_append]
  rw [t2]
  have J2 : JI2 h2 S' sv' Z' F' := ⟨hP1.top (fun j hj => hp.fr j (.inl (by omega))), ⟨_, hp.low (fun _ _ _ => rfl)⟩, f1, (hp.fr 88 (.inr (by decide))).trans hf1⟩
  refine v_iload C dL_law_1251 rfl ?_
  refine v_icmp_eqN C dL_law_1253 (tgt := 1258) (by decide) (by omega) (by omega) (fun _ => ?_) (fun hne => absurd rfl hne)
  refine v_iload C dL_law_1258 rfl ?_
  refine v_if_neN C dL_law_1260 (tgt := 1275) (by decide) (by omega) (fun _ => v_goto C dL_law_1275 (tgt := 2096) (by decide) (v_forget _ _ _ _ _ _ _ _ (K h2 S' sv' Z' F' _ J2 ⟨by show z.1 + z'.1 ≤ z.1 + 1; omega, by show z.2 + z'.2 ≤ z.2 + 6; omega⟩))) (fun hr0 => ?_)
  refine v_aload_n C dL_law_1263 rfl ?_
  refine v_iconst C dL_law_1264 (v := nI 0) rfl ?_
  refine v_lald C dL_law_1265 ((hp.fr 88 (.inr (by decide))).trans hf1) (by decide) rfl (j := 0) (by decide) (hy1 hr0) ?_
  refine v_iload C dL_law_1266 rfl ?_
  refine v_i2l C dL_law_1268 ?_
  refine v_lcmp C dL_law_1269 ?_
  exact v_if_eq C dL_law_1270 (tgt := 1275) (by decide) (fun _ => v_goto C dL_law_1275 (tgt := 2096) (by decide) (v_forget _ _ _ _ _ _ _ _ (K h2 S' sv' Z' F' _ J2 ⟨by show z.1 + z'.1 ≤ z.1 + 1; omega, by show z.2 + z'.2 ≤ z.2 + 6; omega⟩))) (fun hne => absurd (cmp_self _) hne)
theorem lc_preimage {X : CT} {o : Oc} {P : Wt → Hp → Prop} (C : Cx X mL_law [] 10 zL o P) {z : Nat × Nat} {w : Wt} {h : Hp} {N i : Nat} {xs : Nat → Int32} {S Z : Sc} {sv : Bool} {F : Sf} (hs : SC X w N xs) (hN : N ≤ 2560) (hi : i + 5 ≤ N) (hz : z.1 + 1 ≤ 603072 ∧ z.2 + 6 ≤ 7157866) (hJ : JI2 h S sv Z F) (K : ∀ h' S' sv' Z' F' z', JI2 h' S' sv' Z' F' → z'.1 ≤ z.1 + 1 ∧ z'.2 ≤ z.2 + 6 → V X z' w h' 2096 (LL i) []) : V X z w h 1278 (LL i) [] := by
  obtain ⟨th, hR⟩ := hJ.2.1
  obtain ⟨f, hf⟩ := hJ.2.2
  obtain ⟨S', sv', Z', F', o', z', r, y, j8, j9, hr4, hc⟩ := jm_preimage hJ.oks (w := w) (S := S) (sv := sv) (Z := Z) (F := F) (x := xs (i + 1)) (c := decide (xs (i + 2) ≠ 0)) (y := xs (i + 3)) (v := xs (i + 4))
  obtain ⟨d8, P8, hd8, c8, q8⟩ := j8 h hJ.1
  have hz' : z'.1 ≤ 1 ∧ z'.2 ≤ 6 := by rcases hc with ⟨-, -, rfl⟩ | ⟨E, -, -, rfl⟩ <;> decide
  have hJO : JO rwL_preimage o' z' r f P8 (RW h S' sv' Z' F' r y.toInt64) := by
    rcases hc with ⟨rfl, rfl, rfl⟩ | ⟨E, rfl, hE, rfl⟩
    · exact .inl ⟨y, rfl, rfl, rfl, fun h1 p1 => ⟨((q8 h1 p1).gf 88 (by decide)).trans hf, rw_ok (q8 h1 p1)⟩⟩
    · exact .inr ⟨E, rfl, rfl, hE, fun h1 p1 => rw_thr (q8 h1 p1) hf (fun e => by subst e; simp [rwL_preimage] at hE)⟩
  have cw := xL_preimage hJO hJ.1.ob hd8 c8
  refine v_aload_n C dL_law_1278 rfl ?_
  refine v_aload_n C dL_law_1279 rfl ?_
  refine v_iload C dL_law_1280 rfl ?_
  refine v_iconst C dL_law_1282 (v := nI 1) rfl ?_
  refine v_iaddN C dL_law_1283 ?_
  refine v_sld C hs hN (by omega) dL_law_1284 ?_
  refine v_aload_n C dL_law_1285 rfl ?_
  refine v_iload C dL_law_1286 rfl ?_
  refine v_iconst C dL_law_1288 (v := nI 2) rfl ?_
  refine v_iaddN C dL_law_1289 ?_
  refine v_sld C hs hN (by omega) dL_law_1290 ?_
  refine v_bool C dL_law_1291 dL_law_1294 dL_law_1295 dL_law_1298 ?_
  refine v_aload_n C dL_law_1299 rfl ?_
  refine v_iload C dL_law_1300 rfl ?_
  refine v_iconst C dL_law_1302 (v := nI 3) rfl ?_
  refine v_iaddN C dL_law_1303 ?_
  refine v_sld C hs hN (by omega) dL_law_1304 ?_
  refine v_aload_n C dL_law_1305 rfl ?_
  refine v_iload C dL_law_1306 rfl ?_
  refine v_iconst C dL_law_1308 (v := nI 4) rfl ?_
  refine v_iaddN C dL_law_1309 ?_
  refine v_sld C hs hN (by omega) dL_law_1310 ?_
  refine v_aload_n C dL_law_1311 rfl ?_
  refine v_callH C dL_law_1312 kL_preimage (tj5 155 (by rfl) rfl) cw rfl rfl rfl ⟨by show z.1 + z'.1 ≤ 603072; omega, by show z.2 + z'.2 ≤ 7157866; omega⟩ rfl rfl (fun _ => rfl) (fun h1 R1 => ?_)
  dsimp only [Option.toList, List.cons_append, List.nil_append]
  obtain ⟨hP1, fr1, f1, hf1, hy1⟩ := R1
  have hR1 := hR.low (h' := h1) (fun j a b => fr1 j (by omega) (by omega))
  obtain ⟨d9, hd9, c9⟩ := j9 h1 _ hR1
  obtain ⟨u1, o1, -⟩ := hR1.o
  refine v_istore C dL_law_1315 rfl ?_
  dsimp only [sto1, sto2, killL]
  refine v_aload_n C dL_law_1317 rfl ?_
  refine v_aload_n C dL_law_1318 rfl ?_
  refine v_iload C dL_law_1319 rfl ?_
  refine v_iconst C dL_law_1321 (v := nI 1) rfl ?_
  refine v_iaddN C dL_law_1322 ?_
  refine v_sld C hs hN (by omega) dL_law_1323 ?_
  refine v_aload_n C dL_law_1324 rfl ?_
  refine v_iload C dL_law_1325 rfl ?_
  refine v_iconst C dL_law_1327 (v := nI 2) rfl ?_
  refine v_iaddN C dL_law_1328 ?_
  refine v_sld C hs hN (by omega) dL_law_1329 ?_
  refine v_bool C dL_law_1330 dL_law_1333 dL_law_1334 dL_law_1337 ?_
  refine v_aload_n C dL_law_1338 rfl ?_
  refine v_iload C dL_law_1339 rfl ?_
  refine v_iconst C dL_law_1341 (v := nI 3) rfl ?_
  refine v_iaddN C dL_law_1342 ?_
  refine v_sld C hs hN (by omega) dL_law_1343 ?_
  refine v_aload_n C dL_law_1344 rfl ?_
  refine v_iload C dL_law_1345 rfl ?_
  refine v_iconst C dL_law_1347 (v := nI 4) rfl ?_
  refine v_iaddN C dL_law_1348 ?_
  refine v_sld C hs hN (by omega) dL_law_1349 ?_
  refine v_callV C dL_law_1350 vL_196 o1 c9 rfl (blt10 hd9) rfl ⟨Nat.ble_eq_true_of_le (by show z.1 + z'.1 ≤ 603072; omega), Nat.ble_eq_true_of_le (by show z.2 + z'.2 ≤ 7157866; omega)⟩ rfl rfl (fun _ => rfl) (fun h2 hp => ?_)
  dsimp only [Option.toList, List.cons_append, List.nil_append]
  refine v_istore C dL_law_1353 rfl ?_
  dsimp only [sto1, sto2, killL]
  refine v_aload_n C dL_law_1355 rfl ?_
  obtain ⟨u2, o2, t2, -⟩ := hp.o
  refine v_callV C dL_law_1356 vL_122 o2 (k9_thrown o2) rfl rfl rfl ⟨Nat.ble_eq_true_of_le (by show z.1 + z'.1 ≤ 603072; omega), Nat.ble_eq_true_of_le (by show z.2 + z'.2 ≤ 7157866; omega)⟩ rfl rfl (fun _ => rfl) (fun h3 e3 => ?_)
  rw [show h3 = _ from e3]
  dsimp only [Option.toList, List.cons_append, List.nil_append]
  rw [t2]
  have J2 : JI2 h2 S' sv' Z' F' := ⟨hP1.top (fun j hj => hp.fr j (.inl (by omega))), ⟨_, hp.low (fun _ _ _ => rfl)⟩, f1, (hp.fr 88 (.inr (by decide))).trans hf1⟩
  refine v_iload C dL_law_1359 rfl ?_
  refine v_icmp_eqN C dL_law_1361 (tgt := 1366) (by decide) (by omega) (by omega) (fun _ => ?_) (fun hne => absurd rfl hne)
  refine v_iload C dL_law_1366 rfl ?_
  refine v_if_neN C dL_law_1368 (tgt := 1383) (by decide) (by omega) (fun _ => v_goto C dL_law_1383 (tgt := 2096) (by decide) (v_forget _ _ _ _ _ _ _ _ (K h2 S' sv' Z' F' _ J2 ⟨by show z.1 + z'.1 ≤ z.1 + 1; omega, by show z.2 + z'.2 ≤ z.2 + 6; omega⟩))) (fun hr0 => ?_)
  refine v_aload_n C dL_law_1371 rfl ?_
  refine v_iconst C dL_law_1372 (v := nI 0) rfl ?_
  refine v_lald C dL_law_1373 ((hp.fr 88 (.inr (by decide))).trans hf1) (by decide) rfl (j := 0) (by decide) (hy1 hr0) ?_
  refine v_iload C dL_law_1374 rfl ?_
  refine v_i2l C dL_law_1376 ?_
  refine v_lcmp C dL_law_1377 ?_
  exact v_if_eq C dL_law_1378 (tgt := 1383) (by decide) (fun _ => v_goto C dL_law_1383 (tgt := 2096) (by decide) (v_forget _ _ _ _ _ _ _ _ (K h2 S' sv' Z' F' _ J2 ⟨by show z.1 + z'.1 ≤ z.1 + 1; omega, by show z.2 + z'.2 ≤ z.2 + 6; omega⟩))) (fun hne => absurd (cmp_self _) hne)
theorem lc_preimagesBetween {X : CT} {o : Oc} {P : Wt → Hp → Prop} (C : Cx X mL_law [] 10 zL o P) {z : Nat × Nat} {w : Wt} {h : Hp} {N i : Nat} {xs : Nat → Int32} {S Z : Sc} {sv : Bool} {F : Sf} (hs : SC X w N xs) (hN : N ≤ 2560) (hi : i + 5 ≤ N) (hz : z.1 + 1 ≤ 603072 ∧ z.2 + 6 ≤ 7157866) (hJ : JI2 h S sv Z F) (K : ∀ h' S' sv' Z' F' z', JI2 h' S' sv' Z' F' → z'.1 ≤ z.1 + 1 ∧ z'.2 ≤ z.2 + 6 → V X z' w h' 2096 (LL i) []) : V X z w h 1386 (LL i) [] := by
  obtain ⟨th, hR⟩ := hJ.2.1
  obtain ⟨f, hf⟩ := hJ.2.2
  obtain ⟨S', sv', Z', F', o', z', r, y, j8, j9, hr4, hc⟩ := jm_preimagesBetween hJ.oks (w := w) (S := S) (sv := sv) (Z := Z) (F := F) (x := xs (i + 1)) (y := xs (i + 2)) (v := xs (i + 3))
  obtain ⟨d8, P8, hd8, c8, q8⟩ := j8 h hJ.1
  have hz' : z'.1 ≤ 1 ∧ z'.2 ≤ 6 := by rcases hc with ⟨-, -, rfl⟩ | ⟨E, -, -, rfl⟩ <;> decide
  have hJO : JO rwL_preimagesBetween o' z' r f P8 (RW h S' sv' Z' F' r y.toInt64) := by
    rcases hc with ⟨rfl, rfl, rfl⟩ | ⟨E, rfl, hE, rfl⟩
    · exact .inl ⟨y, rfl, rfl, rfl, fun h1 p1 => ⟨((q8 h1 p1).gf 88 (by decide)).trans hf, rw_ok (q8 h1 p1)⟩⟩
    · exact .inr ⟨E, rfl, rfl, hE, fun h1 p1 => rw_thr (q8 h1 p1) hf (fun e => by subst e; simp [rwL_preimagesBetween] at hE)⟩
  have cw := xL_preimagesBetween hJO hJ.1.ob hd8 c8
  refine v_aload_n C dL_law_1386 rfl ?_
  refine v_aload_n C dL_law_1387 rfl ?_
  refine v_iload C dL_law_1388 rfl ?_
  refine v_iconst C dL_law_1390 (v := nI 1) rfl ?_
  refine v_iaddN C dL_law_1391 ?_
  refine v_sld C hs hN (by omega) dL_law_1392 ?_
  refine v_aload_n C dL_law_1393 rfl ?_
  refine v_iload C dL_law_1394 rfl ?_
  refine v_iconst C dL_law_1396 (v := nI 2) rfl ?_
  refine v_iaddN C dL_law_1397 ?_
  refine v_sld C hs hN (by omega) dL_law_1398 ?_
  refine v_aload_n C dL_law_1399 rfl ?_
  refine v_iload C dL_law_1400 rfl ?_
  refine v_iconst C dL_law_1402 (v := nI 3) rfl ?_
  refine v_iaddN C dL_law_1403 ?_
  refine v_sld C hs hN (by omega) dL_law_1404 ?_
  refine v_aload_n C dL_law_1405 rfl ?_
  refine v_callH C dL_law_1406 kL_preimagesBetween (tj5 196 (by rfl) rfl) cw rfl rfl rfl ⟨by show z.1 + z'.1 ≤ 603072; omega, by show z.2 + z'.2 ≤ 7157866; omega⟩ rfl rfl (fun _ => rfl) (fun h1 R1 => ?_)
  dsimp only [Option.toList, List.cons_append, List.nil_append]
  obtain ⟨hP1, fr1, f1, hf1, hy1⟩ := R1
  have hR1 := hR.low (h' := h1) (fun j a b => fr1 j (by omega) (by omega))
  obtain ⟨d9, hd9, c9⟩ := j9 h1 _ hR1
  obtain ⟨u1, o1, -⟩ := hR1.o
  refine v_istore C dL_law_1409 rfl ?_
  dsimp only [sto1, sto2, killL]
  refine v_aload_n C dL_law_1411 rfl ?_
  refine v_aload_n C dL_law_1412 rfl ?_
  refine v_iload C dL_law_1413 rfl ?_
  refine v_iconst C dL_law_1415 (v := nI 1) rfl ?_
  refine v_iaddN C dL_law_1416 ?_
  refine v_sld C hs hN (by omega) dL_law_1417 ?_
  refine v_aload_n C dL_law_1418 rfl ?_
  refine v_iload C dL_law_1419 rfl ?_
  refine v_iconst C dL_law_1421 (v := nI 2) rfl ?_
  refine v_iaddN C dL_law_1422 ?_
  refine v_sld C hs hN (by omega) dL_law_1423 ?_
  refine v_aload_n C dL_law_1424 rfl ?_
  refine v_iload C dL_law_1425 rfl ?_
  refine v_iconst C dL_law_1427 (v := nI 3) rfl ?_
  refine v_iaddN C dL_law_1428 ?_
  refine v_sld C hs hN (by omega) dL_law_1429 ?_
  refine v_callV C dL_law_1430 vL_199 o1 c9 rfl (blt10 hd9) rfl ⟨Nat.ble_eq_true_of_le (by show z.1 + z'.1 ≤ 603072; omega), Nat.ble_eq_true_of_le (by show z.2 + z'.2 ≤ 7157866; omega)⟩ rfl rfl (fun _ => rfl) (fun h2 hp => ?_)
  dsimp only [Option.toList, List.cons_append, List.nil_append]
  refine v_istore C dL_law_1433 rfl ?_
  dsimp only [sto1, sto2, killL]
  refine v_aload_n C dL_law_1435 rfl ?_
  obtain ⟨u2, o2, t2, -⟩ := hp.o
  refine v_callV C dL_law_1436 vL_122 o2 (k9_thrown o2) rfl rfl rfl ⟨Nat.ble_eq_true_of_le (by show z.1 + z'.1 ≤ 603072; omega), Nat.ble_eq_true_of_le (by show z.2 + z'.2 ≤ 7157866; omega)⟩ rfl rfl (fun _ => rfl) (fun h3 e3 => ?_)
  rw [show h3 = _ from e3]
  dsimp only [Option.toList, List.cons_append, List.nil_append]
  rw [t2]
  have J2 : JI2 h2 S' sv' Z' F' := ⟨hP1.top (fun j hj => hp.fr j (.inl (by omega))), ⟨_, hp.low (fun _ _ _ => rfl)⟩, f1, (hp.fr 88 (.inr (by decide))).trans hf1⟩
  refine v_iload C dL_law_1439 rfl ?_
  refine v_icmp_eqN C dL_law_1441 (tgt := 1446) (by decide) (by omega) (by omega) (fun _ => ?_) (fun hne => absurd rfl hne)
  refine v_iload C dL_law_1446 rfl ?_
  refine v_if_neN C dL_law_1448 (tgt := 1463) (by decide) (by omega) (fun _ => v_goto C dL_law_1463 (tgt := 2096) (by decide) (v_forget _ _ _ _ _ _ _ _ (K h2 S' sv' Z' F' _ J2 ⟨by show z.1 + z'.1 ≤ z.1 + 1; omega, by show z.2 + z'.2 ≤ z.2 + 6; omega⟩))) (fun hr0 => ?_)
  refine v_aload_n C dL_law_1451 rfl ?_
  refine v_iconst C dL_law_1452 (v := nI 0) rfl ?_
  refine v_lald C dL_law_1453 ((hp.fr 88 (.inr (by decide))).trans hf1) (by decide) rfl (j := 0) (by decide) (hy1 hr0) ?_
  refine v_iload C dL_law_1454 rfl ?_
  refine v_i2l C dL_law_1456 ?_
  refine v_lcmp C dL_law_1457 ?_
  exact v_if_eq C dL_law_1458 (tgt := 1463) (by decide) (fun _ => v_goto C dL_law_1463 (tgt := 2096) (by decide) (v_forget _ _ _ _ _ _ _ _ (K h2 S' sv' Z' F' _ J2 ⟨by show z.1 + z'.1 ≤ z.1 + 1; omega, by show z.2 + z'.2 ≤ z.2 + 6; omega⟩))) (fun hne => absurd (cmp_self _) hne)
theorem lc_wordsWith {X : CT} {o : Oc} {P : Wt → Hp → Prop} (C : Cx X mL_law [] 10 zL o P) {z : Nat × Nat} {w : Wt} {h : Hp} {N i : Nat} {xs : Nat → Int32} {S Z : Sc} {sv : Bool} {F : Sf} (hs : SC X w N xs) (hN : N ≤ 2560) (hi : i + 5 ≤ N) (hz : z.1 + 1 ≤ 603072 ∧ z.2 + 6 ≤ 7157866) (hJ : JI2 h S sv Z F) (K : ∀ h' S' sv' Z' F' z', JI2 h' S' sv' Z' F' → z'.1 ≤ z.1 + 1 ∧ z'.2 ≤ z.2 + 6 → V X z' w h' 2096 (LL i) []) : V X z w h 1466 (LL i) [] := by
  obtain ⟨th, hR⟩ := hJ.2.1
  obtain ⟨f, hf⟩ := hJ.2.2
  obtain ⟨S', sv', Z', F', o', z', r, y, j8, j9, hr4, hc⟩ := jm_wordsWith (w := w) (S := S) (sv := sv) (Z := Z) (F := F) (x := xs (i + 1)) (y := xs (i + 2))
  obtain ⟨d8, P8, hd8, c8, q8⟩ := j8 h hJ.1
  have hz' : z'.1 ≤ 1 ∧ z'.2 ≤ 6 := by rcases hc with ⟨-, -, rfl⟩ | ⟨E, -, -, rfl⟩ <;> decide
  have hJO : JO rwL_wordsWith o' z' r f P8 (RW h S' sv' Z' F' r y.toInt64) := by
    rcases hc with ⟨rfl, rfl, rfl⟩ | ⟨E, rfl, hE, rfl⟩
    · exact .inl ⟨y, rfl, rfl, rfl, fun h1 p1 => ⟨((q8 h1 p1).gf 88 (by decide)).trans hf, rw_ok (q8 h1 p1)⟩⟩
    · exact .inr ⟨E, rfl, rfl, hE, fun h1 p1 => rw_thr (q8 h1 p1) hf (fun e => by subst e; simp [rwL_wordsWith] at hE)⟩
  have cw := xL_wordsWith hJO hJ.1.ob hd8 c8
  refine v_aload_n C dL_law_1466 rfl ?_
  refine v_aload_n C dL_law_1467 rfl ?_
  refine v_iload C dL_law_1468 rfl ?_
  refine v_iconst C dL_law_1470 (v := nI 1) rfl ?_
  refine v_iaddN C dL_law_1471 ?_
  refine v_sld C hs hN (by omega) dL_law_1472 ?_
  refine v_aload_n C dL_law_1473 rfl ?_
  refine v_iload C dL_law_1474 rfl ?_
  refine v_iconst C dL_law_1476 (v := nI 2) rfl ?_
  refine v_iaddN C dL_law_1477 ?_
  refine v_sld C hs hN (by omega) dL_law_1478 ?_
  refine v_aload_n C dL_law_1479 rfl ?_
  refine v_callH C dL_law_1480 kL_wordsWith (tj5 209 (by rfl) rfl) cw rfl rfl rfl ⟨by show z.1 + z'.1 ≤ 603072; omega, by show z.2 + z'.2 ≤ 7157866; omega⟩ rfl rfl (fun _ => rfl) (fun h1 R1 => ?_)
  dsimp only [Option.toList, List.cons_append, List.nil_append]
  obtain ⟨hP1, fr1, f1, hf1, hy1⟩ := R1
  have hR1 := hR.low (h' := h1) (fun j a b => fr1 j (by omega) (by omega))
  obtain ⟨d9, hd9, c9⟩ := j9 h1 _ hR1
  obtain ⟨u1, o1, -⟩ := hR1.o
  refine v_istore C dL_law_1483 rfl ?_
  dsimp only [sto1, sto2, killL]
  refine v_aload_n C dL_law_1485 rfl ?_
  refine v_aload_n C dL_law_1486 rfl ?_
  refine v_iload C dL_law_1487 rfl ?_
  refine v_iconst C dL_law_1489 (v := nI 1) rfl ?_
  refine v_iaddN C dL_law_1490 ?_
  refine v_sld C hs hN (by omega) dL_law_1491 ?_
  refine v_aload_n C dL_law_1492 rfl ?_
  refine v_iload C dL_law_1493 rfl ?_
  refine v_iconst C dL_law_1495 (v := nI 2) rfl ?_
  refine v_iaddN C dL_law_1496 ?_
  refine v_sld C hs hN (by omega) dL_law_1497 ?_
  refine v_callV C dL_law_1498 vL_202 o1 c9 rfl (blt10 hd9) rfl ⟨Nat.ble_eq_true_of_le (by show z.1 + z'.1 ≤ 603072; omega), Nat.ble_eq_true_of_le (by show z.2 + z'.2 ≤ 7157866; omega)⟩ rfl rfl (fun _ => rfl) (fun h2 hp => ?_)
  dsimp only [Option.toList, List.cons_append, List.nil_append]
  refine v_istore C dL_law_1501 rfl ?_
  dsimp only [sto1, sto2, killL]
  refine v_aload_n C dL_law_1503 rfl ?_
  obtain ⟨u2, o2, t2, -⟩ := hp.o
  refine v_callV C dL_law_1504 vL_122 o2 (k9_thrown o2) rfl rfl rfl ⟨Nat.ble_eq_true_of_le (by show z.1 + z'.1 ≤ 603072; omega), Nat.ble_eq_true_of_le (by show z.2 + z'.2 ≤ 7157866; omega)⟩ rfl rfl (fun _ => rfl) (fun h3 e3 => ?_)
  rw [show h3 = _ from e3]
  dsimp only [Option.toList, List.cons_append, List.nil_append]
  rw [t2]
  have J2 : JI2 h2 S' sv' Z' F' := ⟨hP1.top (fun j hj => hp.fr j (.inl (by omega))), ⟨_, hp.low (fun _ _ _ => rfl)⟩, f1, (hp.fr 88 (.inr (by decide))).trans hf1⟩
  refine v_iload C dL_law_1507 rfl ?_
  refine v_icmp_eqN C dL_law_1509 (tgt := 1514) (by decide) (by omega) (by omega) (fun _ => ?_) (fun hne => absurd rfl hne)
  refine v_iload C dL_law_1514 rfl ?_
  refine v_if_neN C dL_law_1516 (tgt := 1531) (by decide) (by omega) (fun _ => v_goto C dL_law_1531 (tgt := 2096) (by decide) (v_forget _ _ _ _ _ _ _ _ (K h2 S' sv' Z' F' _ J2 ⟨by show z.1 + z'.1 ≤ z.1 + 1; omega, by show z.2 + z'.2 ≤ z.2 + 6; omega⟩))) (fun hr0 => ?_)
  refine v_aload_n C dL_law_1519 rfl ?_
  refine v_iconst C dL_law_1520 (v := nI 0) rfl ?_
  refine v_lald C dL_law_1521 ((hp.fr 88 (.inr (by decide))).trans hf1) (by decide) rfl (j := 0) (by decide) (hy1 hr0) ?_
  refine v_iload C dL_law_1522 rfl ?_
  refine v_i2l C dL_law_1524 ?_
  refine v_lcmp C dL_law_1525 ?_
  exact v_if_eq C dL_law_1526 (tgt := 1531) (by decide) (fun _ => v_goto C dL_law_1531 (tgt := 2096) (by decide) (v_forget _ _ _ _ _ _ _ _ (K h2 S' sv' Z' F' _ J2 ⟨by show z.1 + z'.1 ≤ z.1 + 1; omega, by show z.2 + z'.2 ≤ z.2 + 6; omega⟩))) (fun hne => absurd (cmp_self _) hne)
theorem lc_mostPreimages {X : CT} {o : Oc} {P : Wt → Hp → Prop} (C : Cx X mL_law [] 10 zL o P) {z : Nat × Nat} {w : Wt} {h : Hp} {N i : Nat} {xs : Nat → Int32} {S Z : Sc} {sv : Bool} {F : Sf} (hs : SC X w N xs) (hN : N ≤ 2560) (hi : i + 5 ≤ N) (hz : z.1 + 1 ≤ 603072 ∧ z.2 + 6 ≤ 7157866) (hJ : JI2 h S sv Z F) (K : ∀ h' S' sv' Z' F' z', JI2 h' S' sv' Z' F' → z'.1 ≤ z.1 + 1 ∧ z'.2 ≤ z.2 + 6 → V X z' w h' 2096 (LL i) []) : V X z w h 1534 (LL i) [] := by
  obtain ⟨th, hR⟩ := hJ.2.1
  obtain ⟨f, hf⟩ := hJ.2.2
  obtain ⟨S', sv', Z', F', o', z', r, y, j8, j9, hr4, hc⟩ := jm_mostPreimages (w := w) (S := S) (sv := sv) (Z := Z) (F := F) (x := xs (i + 1))
  obtain ⟨d8, P8, hd8, c8, q8⟩ := j8 h hJ.1
  have hz' : z'.1 ≤ 1 ∧ z'.2 ≤ 6 := by rcases hc with ⟨-, -, rfl⟩ | ⟨E, -, -, rfl⟩ <;> decide
  have hJO : JO rwL_mostPreimages o' z' r f P8 (RW h S' sv' Z' F' r y.toInt64) := by
    rcases hc with ⟨rfl, rfl, rfl⟩ | ⟨E, rfl, hE, rfl⟩
    · exact .inl ⟨y, rfl, rfl, rfl, fun h1 p1 => ⟨((q8 h1 p1).gf 88 (by decide)).trans hf, rw_ok (q8 h1 p1)⟩⟩
    · exact .inr ⟨E, rfl, rfl, hE, fun h1 p1 => rw_thr (q8 h1 p1) hf (fun e => by subst e; simp [rwL_mostPreimages] at hE)⟩
  have cw := xL_mostPreimages hJO hJ.1.ob hd8 c8
  refine v_aload_n C dL_law_1534 rfl ?_
  refine v_aload_n C dL_law_1535 rfl ?_
  refine v_iload C dL_law_1536 rfl ?_
  refine v_iconst C dL_law_1538 (v := nI 1) rfl ?_
  refine v_iaddN C dL_law_1539 ?_
  refine v_sld C hs hN (by omega) dL_law_1540 ?_
  refine v_aload_n C dL_law_1541 rfl ?_
  refine v_callH C dL_law_1542 kL_mostPreimages (tj5 233 (by rfl) rfl) cw rfl rfl rfl ⟨by show z.1 + z'.1 ≤ 603072; omega, by show z.2 + z'.2 ≤ 7157866; omega⟩ rfl rfl (fun _ => rfl) (fun h1 R1 => ?_)
  dsimp only [Option.toList, List.cons_append, List.nil_append]
  obtain ⟨hP1, fr1, f1, hf1, hy1⟩ := R1
  have hR1 := hR.low (h' := h1) (fun j a b => fr1 j (by omega) (by omega))
  obtain ⟨d9, hd9, c9⟩ := j9 h1 _ hR1
  obtain ⟨u1, o1, -⟩ := hR1.o
  refine v_istore C dL_law_1545 rfl ?_
  dsimp only [sto1, sto2, killL]
  refine v_aload_n C dL_law_1547 rfl ?_
  refine v_aload_n C dL_law_1548 rfl ?_
  refine v_iload C dL_law_1549 rfl ?_
  refine v_iconst C dL_law_1551 (v := nI 1) rfl ?_
  refine v_iaddN C dL_law_1552 ?_
  refine v_sld C hs hN (by omega) dL_law_1553 ?_
  refine v_callV C dL_law_1554 vL_205 o1 c9 rfl (blt10 hd9) rfl ⟨Nat.ble_eq_true_of_le (by show z.1 + z'.1 ≤ 603072; omega), Nat.ble_eq_true_of_le (by show z.2 + z'.2 ≤ 7157866; omega)⟩ rfl rfl (fun _ => rfl) (fun h2 hp => ?_)
  dsimp only [Option.toList, List.cons_append, List.nil_append]
  refine v_istore C dL_law_1557 rfl ?_
  dsimp only [sto1, sto2, killL]
  refine v_aload_n C dL_law_1559 rfl ?_
  obtain ⟨u2, o2, t2, -⟩ := hp.o
  refine v_callV C dL_law_1560 vL_122 o2 (k9_thrown o2) rfl rfl rfl ⟨Nat.ble_eq_true_of_le (by show z.1 + z'.1 ≤ 603072; omega), Nat.ble_eq_true_of_le (by show z.2 + z'.2 ≤ 7157866; omega)⟩ rfl rfl (fun _ => rfl) (fun h3 e3 => ?_)
  rw [show h3 = _ from e3]
  dsimp only [Option.toList, List.cons_append, List.nil_append]
  rw [t2]
  have J2 : JI2 h2 S' sv' Z' F' := ⟨hP1.top (fun j hj => hp.fr j (.inl (by omega))), ⟨_, hp.low (fun _ _ _ => rfl)⟩, f1, (hp.fr 88 (.inr (by decide))).trans hf1⟩
  refine v_iload C dL_law_1563 rfl ?_
  refine v_icmp_eqN C dL_law_1565 (tgt := 1570) (by decide) (by omega) (by omega) (fun _ => ?_) (fun hne => absurd rfl hne)
  refine v_iload C dL_law_1570 rfl ?_
  refine v_if_neN C dL_law_1572 (tgt := 1587) (by decide) (by omega) (fun _ => v_goto C dL_law_1587 (tgt := 2096) (by decide) (v_forget _ _ _ _ _ _ _ _ (K h2 S' sv' Z' F' _ J2 ⟨by show z.1 + z'.1 ≤ z.1 + 1; omega, by show z.2 + z'.2 ≤ z.2 + 6; omega⟩))) (fun hr0 => ?_)
  refine v_aload_n C dL_law_1575 rfl ?_
  refine v_iconst C dL_law_1576 (v := nI 0) rfl ?_
  refine v_lald C dL_law_1577 ((hp.fr 88 (.inr (by decide))).trans hf1) (by decide) rfl (j := 0) (by decide) (hy1 hr0) ?_
  refine v_iload C dL_law_1578 rfl ?_
  refine v_i2l C dL_law_1580 ?_
  refine v_lcmp C dL_law_1581 ?_
  exact v_if_eq C dL_law_1582 (tgt := 1587) (by decide) (fun _ => v_goto C dL_law_1587 (tgt := 2096) (by decide) (v_forget _ _ _ _ _ _ _ _ (K h2 S' sv' Z' F' _ J2 ⟨by show z.1 + z'.1 ≤ z.1 + 1; omega, by show z.2 + z'.2 ≤ z.2 + 6; omega⟩))) (fun hne => absurd (cmp_self _) hne)
theorem lc_fixedWords {X : CT} {o : Oc} {P : Wt → Hp → Prop} (C : Cx X mL_law [] 10 zL o P) {z : Nat × Nat} {w : Wt} {h : Hp} {N i : Nat} {xs : Nat → Int32} {S Z : Sc} {sv : Bool} {F : Sf} (hs : SC X w N xs) (hN : N ≤ 2560) (hi : i + 5 ≤ N) (hz : z.1 + 1 ≤ 603072 ∧ z.2 + 6 ≤ 7157866) (hJ : JI2 h S sv Z F) (K : ∀ h' S' sv' Z' F' z', JI2 h' S' sv' Z' F' → z'.1 ≤ z.1 + 1 ∧ z'.2 ≤ z.2 + 6 → V X z' w h' 2096 (LL i) []) : V X z w h 1590 (LL i) [] := by
  obtain ⟨th, hR⟩ := hJ.2.1
  obtain ⟨f, hf⟩ := hJ.2.2
  obtain ⟨S', sv', Z', F', o', z', r, y, j8, j9, hr4, hc⟩ := jm_fixedWords hJ.oks (w := w) (S := S) (sv := sv) (Z := Z) (F := F) (x := xs (i + 1))
  obtain ⟨d8, P8, hd8, c8, q8⟩ := j8 h hJ.1
  have hz' : z'.1 ≤ 1 ∧ z'.2 ≤ 6 := by rcases hc with ⟨-, -, rfl⟩ | ⟨E, -, -, rfl⟩ <;> decide
  have hJO : JO rwL_fixedWords o' z' r f P8 (RW h S' sv' Z' F' r y.toInt64) := by
    rcases hc with ⟨rfl, rfl, rfl⟩ | ⟨E, rfl, hE, rfl⟩
    · exact .inl ⟨y, rfl, rfl, rfl, fun h1 p1 => ⟨((q8 h1 p1).gf 88 (by decide)).trans hf, rw_ok (q8 h1 p1)⟩⟩
    · exact .inr ⟨E, rfl, rfl, hE, fun h1 p1 => rw_thr (q8 h1 p1) hf (fun e => by subst e; simp [rwL_fixedWords] at hE)⟩
  have cw := xL_fixedWords hJO hJ.1.ob hd8 c8
  refine v_aload_n C dL_law_1590 rfl ?_
  refine v_aload_n C dL_law_1591 rfl ?_
  refine v_iload C dL_law_1592 rfl ?_
  refine v_iconst C dL_law_1594 (v := nI 1) rfl ?_
  refine v_iaddN C dL_law_1595 ?_
  refine v_sld C hs hN (by omega) dL_law_1596 ?_
  refine v_aload_n C dL_law_1597 rfl ?_
  refine v_callH C dL_law_1598 kL_fixedWords (tj6 0 (by rfl) rfl) cw rfl rfl rfl ⟨by show z.1 + z'.1 ≤ 603072; omega, by show z.2 + z'.2 ≤ 7157866; omega⟩ rfl rfl (fun _ => rfl) (fun h1 R1 => ?_)
  dsimp only [Option.toList, List.cons_append, List.nil_append]
  obtain ⟨hP1, fr1, f1, hf1, hy1⟩ := R1
  have hR1 := hR.low (h' := h1) (fun j a b => fr1 j (by omega) (by omega))
  obtain ⟨d9, hd9, c9⟩ := j9 h1 _ hR1
  obtain ⟨u1, o1, -⟩ := hR1.o
  refine v_istore C dL_law_1601 rfl ?_
  dsimp only [sto1, sto2, killL]
  refine v_aload_n C dL_law_1603 rfl ?_
  refine v_aload_n C dL_law_1604 rfl ?_
  refine v_iload C dL_law_1605 rfl ?_
  refine v_iconst C dL_law_1607 (v := nI 1) rfl ?_
  refine v_iaddN C dL_law_1608 ?_
  refine v_sld C hs hN (by omega) dL_law_1609 ?_
  refine v_callV C dL_law_1610 vL_208 o1 c9 rfl (blt10 hd9) rfl ⟨Nat.ble_eq_true_of_le (by show z.1 + z'.1 ≤ 603072; omega), Nat.ble_eq_true_of_le (by show z.2 + z'.2 ≤ 7157866; omega)⟩ rfl rfl (fun _ => rfl) (fun h2 hp => ?_)
  dsimp only [Option.toList, List.cons_append, List.nil_append]
  refine v_istore C dL_law_1613 rfl ?_
  dsimp only [sto1, sto2, killL]
  refine v_aload_n C dL_law_1615 rfl ?_
  obtain ⟨u2, o2, t2, -⟩ := hp.o
  refine v_callV C dL_law_1616 vL_122 o2 (k9_thrown o2) rfl rfl rfl ⟨Nat.ble_eq_true_of_le (by show z.1 + z'.1 ≤ 603072; omega), Nat.ble_eq_true_of_le (by show z.2 + z'.2 ≤ 7157866; omega)⟩ rfl rfl (fun _ => rfl) (fun h3 e3 => ?_)
  rw [show h3 = _ from e3]
  dsimp only [Option.toList, List.cons_append, List.nil_append]
  rw [t2]
  have J2 : JI2 h2 S' sv' Z' F' := ⟨hP1.top (fun j hj => hp.fr j (.inl (by omega))), ⟨_, hp.low (fun _ _ _ => rfl)⟩, f1, (hp.fr 88 (.inr (by decide))).trans hf1⟩
  refine v_iload C dL_law_1619 rfl ?_
  refine v_icmp_eqN C dL_law_1621 (tgt := 1626) (by decide) (by omega) (by omega) (fun _ => ?_) (fun hne => absurd rfl hne)
  refine v_iload C dL_law_1626 rfl ?_
  refine v_if_neN C dL_law_1628 (tgt := 1643) (by decide) (by omega) (fun _ => v_goto C dL_law_1643 (tgt := 2096) (by decide) (v_forget _ _ _ _ _ _ _ _ (K h2 S' sv' Z' F' _ J2 ⟨by show z.1 + z'.1 ≤ z.1 + 1; omega, by show z.2 + z'.2 ≤ z.2 + 6; omega⟩))) (fun hr0 => ?_)
  refine v_aload_n C dL_law_1631 rfl ?_
  refine v_iconst C dL_law_1632 (v := nI 0) rfl ?_
  refine v_lald C dL_law_1633 ((hp.fr 88 (.inr (by decide))).trans hf1) (by decide) rfl (j := 0) (by decide) (hy1 hr0) ?_
  refine v_iload C dL_law_1634 rfl ?_
  refine v_i2l C dL_law_1636 ?_
  refine v_lcmp C dL_law_1637 ?_
  exact v_if_eq C dL_law_1638 (tgt := 1643) (by decide) (fun _ => v_goto C dL_law_1643 (tgt := 2096) (by decide) (v_forget _ _ _ _ _ _ _ _ (K h2 S' sv' Z' F' _ J2 ⟨by show z.1 + z'.1 ≤ z.1 + 1; omega, by show z.2 + z'.2 ≤ z.2 + 6; omega⟩))) (fun hne => absurd (cmp_self _) hne)
theorem lc_edge {X : CT} {o : Oc} {P : Wt → Hp → Prop} (C : Cx X mL_law [] 10 zL o P) {z : Nat × Nat} {w : Wt} {h : Hp} {N i : Nat} {xs : Nat → Int32} {S Z : Sc} {sv : Bool} {F : Sf} (hs : SC X w N xs) (hN : N ≤ 2560) (hi : i + 5 ≤ N) (hz : z.1 + 1 ≤ 603072 ∧ z.2 + 6 ≤ 7157866) (hJ : JI2 h S sv Z F) (K : ∀ h' S' sv' Z' F' z', JI2 h' S' sv' Z' F' → z'.1 ≤ z.1 + 1 ∧ z'.2 ≤ z.2 + 6 → V X z' w h' 2096 (LL i) []) : V X z w h 1646 (LL i) [] := by
  obtain ⟨th, hR⟩ := hJ.2.1
  obtain ⟨f, hf⟩ := hJ.2.2
  obtain ⟨S', sv', Z', F', o', z', r, y, j8, j9, hr4, hc⟩ := jm_edge hJ.oks (w := w) (S := S) (sv := sv) (Z := Z) (F := F) (x := xs (i + 1)) (y := xs (i + 2)) (v := xs (i + 3))
  obtain ⟨d8, P8, hd8, c8, q8⟩ := j8 h hJ.1
  have hz' : z'.1 ≤ 1 ∧ z'.2 ≤ 6 := by rcases hc with ⟨-, -, rfl⟩ | ⟨E, -, -, rfl⟩ <;> decide
  have hJO : JO rwL_edge o' z' r f P8 (RW h S' sv' Z' F' r y.toInt64) := by
    rcases hc with ⟨rfl, rfl, rfl⟩ | ⟨E, rfl, hE, rfl⟩
    · exact .inl ⟨y, rfl, rfl, rfl, fun h1 p1 => ⟨((q8 h1 p1).gf 88 (by decide)).trans hf, rw_ok (q8 h1 p1)⟩⟩
    · exact .inr ⟨E, rfl, rfl, hE, fun h1 p1 => rw_thr (q8 h1 p1) hf (fun e => by subst e; simp [rwL_edge] at hE)⟩
  have cw := xL_edge hJO hJ.1.ob hd8 c8
  refine v_aload_n C dL_law_1646 rfl ?_
  refine v_aload_n C dL_law_1647 rfl ?_
  refine v_iload C dL_law_1648 rfl ?_
  refine v_iconst C dL_law_1650 (v := nI 1) rfl ?_
  refine v_iaddN C dL_law_1651 ?_
  refine v_sld C hs hN (by omega) dL_law_1652 ?_
  refine v_aload_n C dL_law_1653 rfl ?_
  refine v_iload C dL_law_1654 rfl ?_
  refine v_iconst C dL_law_1656 (v := nI 2) rfl ?_
  refine v_iaddN C dL_law_1657 ?_
  refine v_sld C hs hN (by omega) dL_law_1658 ?_
  refine v_aload_n C dL_law_1659 rfl ?_
  refine v_iload C dL_law_1660 rfl ?_
  refine v_iconst C dL_law_1662 (v := nI 3) rfl ?_
  refine v_iaddN C dL_law_1663 ?_
  refine v_sld C hs hN (by omega) dL_law_1664 ?_
  refine v_aload_n C dL_law_1665 rfl ?_
  refine v_callH C dL_law_1666 kL_edge (tj6 14 (by rfl) rfl) cw rfl rfl rfl ⟨by show z.1 + z'.1 ≤ 603072; omega, by show z.2 + z'.2 ≤ 7157866; omega⟩ rfl rfl (fun _ => rfl) (fun h1 R1 => ?_)
  dsimp only [Option.toList, List.cons_append, List.nil_append]
  obtain ⟨hP1, fr1, f1, hf1, hy1⟩ := R1
  have hR1 := hR.low (h' := h1) (fun j a b => fr1 j (by omega) (by omega))
  obtain ⟨d9, hd9, c9⟩ := j9 h1 _ hR1
  obtain ⟨u1, o1, -⟩ := hR1.o
  refine v_istore C dL_law_1669 rfl ?_
  dsimp only [sto1, sto2, killL]
  refine v_aload_n C dL_law_1671 rfl ?_
  refine v_aload_n C dL_law_1672 rfl ?_
  refine v_iload C dL_law_1673 rfl ?_
  refine v_iconst C dL_law_1675 (v := nI 1) rfl ?_
  refine v_iaddN C dL_law_1676 ?_
  refine v_sld C hs hN (by omega) dL_law_1677 ?_
  refine v_aload_n C dL_law_1678 rfl ?_
  refine v_iload C dL_law_1679 rfl ?_
  refine v_iconst C dL_law_1681 (v := nI 2) rfl ?_
  refine v_iaddN C dL_law_1682 ?_
  refine v_sld C hs hN (by omega) dL_law_1683 ?_
  refine v_aload_n C dL_law_1684 rfl ?_
  refine v_iload C dL_law_1685 rfl ?_
  refine v_iconst C dL_law_1687 (v := nI 3) rfl ?_
  refine v_iaddN C dL_law_1688 ?_
  refine v_sld C hs hN (by omega) dL_law_1689 ?_
  refine v_callV C dL_law_1690 vL_211 o1 c9 rfl (blt10 hd9) rfl ⟨Nat.ble_eq_true_of_le (by show z.1 + z'.1 ≤ 603072; omega), Nat.ble_eq_true_of_le (by show z.2 + z'.2 ≤ 7157866; omega)⟩ rfl rfl (fun _ => rfl) (fun h2 hp => ?_)
  dsimp only [Option.toList, List.cons_append, List.nil_append]
  refine v_istore C dL_law_1693 rfl ?_
  dsimp only [sto1, sto2, killL]
  refine v_aload_n C dL_law_1695 rfl ?_
  obtain ⟨u2, o2, t2, -⟩ := hp.o
  refine v_callV C dL_law_1696 vL_122 o2 (k9_thrown o2) rfl rfl rfl ⟨Nat.ble_eq_true_of_le (by show z.1 + z'.1 ≤ 603072; omega), Nat.ble_eq_true_of_le (by show z.2 + z'.2 ≤ 7157866; omega)⟩ rfl rfl (fun _ => rfl) (fun h3 e3 => ?_)
  rw [show h3 = _ from e3]
  dsimp only [Option.toList, List.cons_append, List.nil_append]
  rw [t2]
  have J2 : JI2 h2 S' sv' Z' F' := ⟨hP1.top (fun j hj => hp.fr j (.inl (by omega))), ⟨_, hp.low (fun _ _ _ => rfl)⟩, f1, (hp.fr 88 (.inr (by decide))).trans hf1⟩
  refine v_iload C dL_law_1699 rfl ?_
  refine v_icmp_eqN C dL_law_1701 (tgt := 1706) (by decide) (by omega) (by omega) (fun _ => ?_) (fun hne => absurd rfl hne)
  refine v_iload C dL_law_1706 rfl ?_
  refine v_if_neN C dL_law_1708 (tgt := 1723) (by decide) (by omega) (fun _ => v_goto C dL_law_1723 (tgt := 2096) (by decide) (v_forget _ _ _ _ _ _ _ _ (K h2 S' sv' Z' F' _ J2 ⟨by show z.1 + z'.1 ≤ z.1 + 1; omega, by show z.2 + z'.2 ≤ z.2 + 6; omega⟩))) (fun hr0 => ?_)
  refine v_aload_n C dL_law_1711 rfl ?_
  refine v_iconst C dL_law_1712 (v := nI 0) rfl ?_
  refine v_lald C dL_law_1713 ((hp.fr 88 (.inr (by decide))).trans hf1) (by decide) rfl (j := 0) (by decide) (hy1 hr0) ?_
  refine v_iload C dL_law_1714 rfl ?_
  refine v_i2l C dL_law_1716 ?_
  refine v_lcmp C dL_law_1717 ?_
  exact v_if_eq C dL_law_1718 (tgt := 1723) (by decide) (fun _ => v_goto C dL_law_1723 (tgt := 2096) (by decide) (v_forget _ _ _ _ _ _ _ _ (K h2 S' sv' Z' F' _ J2 ⟨by show z.1 + z'.1 ≤ z.1 + 1; omega, by show z.2 + z'.2 ≤ z.2 + 6; omega⟩))) (fun hne => absurd (cmp_self _) hne)
theorem lc_subsets {X : CT} {o : Oc} {P : Wt → Hp → Prop} (C : Cx X mL_law [] 10 zL o P) {z : Nat × Nat} {w : Wt} {h : Hp} {N i : Nat} {xs : Nat → Int32} {S Z : Sc} {sv : Bool} {F : Sf} (hs : SC X w N xs) (hN : N ≤ 2560) (hi : i + 5 ≤ N) (hz : z.1 + 1 ≤ 603072 ∧ z.2 + 6 ≤ 7157866) (hJ : JI2 h S sv Z F) (K : ∀ h' S' sv' Z' F' z', JI2 h' S' sv' Z' F' → z'.1 ≤ z.1 + 1 ∧ z'.2 ≤ z.2 + 6 → V X z' w h' 2096 (LL i) []) : V X z w h 1726 (LL i) [] := by
  obtain ⟨th, hR⟩ := hJ.2.1
  obtain ⟨f, hf⟩ := hJ.2.2
  obtain ⟨e0, S', sv', Z', F', r, j8, j9⟩ := jd_subsets (w := w) (sv := sv) hJ.oks
  obtain ⟨d8, P8, hd8, c8, q8⟩ := j8 h hJ.1
  refine v_aload_n C dL_law_1726 rfl ?_
  refine v_callV C dL_law_1727 vL_212 hJ.1.ob c8 rfl (blt10 hd8) rfl ⟨Nat.ble_eq_true_of_le (by show z.1 ≤ 603072; omega), Nat.ble_eq_true_of_le (by show z.2 ≤ 7157866; omega)⟩ rfl rfl (fun _ => rfl) (fun h1 p1 => ?_)
  dsimp only [Option.toList, List.cons_append, List.nil_append]
  have hP1 := q8 h1 p1
  have hR1 := hR.low (h' := h1) (fun j a b => hP1.gf j (by omega))
  obtain ⟨d9, hd9, c9⟩ := j9 h1 _ hR1
  obtain ⟨u1, o1, -⟩ := hR1.o
  refine v_aload_n C dL_law_1730 rfl ?_
  refine v_callV C dL_law_1731 vL_215 o1 c9 rfl (blt10 hd9) rfl ⟨Nat.ble_eq_true_of_le (by show z.1 ≤ 603072; omega), Nat.ble_eq_true_of_le (by show z.2 ≤ 7157866; omega)⟩ rfl rfl (fun _ => rfl) (fun h2 hp => ?_)
  dsimp only [Option.toList, List.cons_append, List.nil_append]
  exact v_icmp_eq C dL_law_1734 (tgt := 2096) (by decide) (fun _ => K h2 S' sv' Z' F' _ ⟨hP1.top (fun j hj => hp.fr j (.inl (by omega))), ⟨_, hp.low (fun _ _ _ => rfl)⟩, f, (hp.fr 88 (.inr (by decide))).trans ((hP1.gf 88 (by decide)).trans hf)⟩ ⟨by omega, by omega⟩) (fun hne => absurd rfl hne)
theorem lc_orphans {X : CT} {o : Oc} {P : Wt → Hp → Prop} (C : Cx X mL_law [] 10 zL o P) {z : Nat × Nat} {w : Wt} {h : Hp} {N i : Nat} {xs : Nat → Int32} {S Z : Sc} {sv : Bool} {F : Sf} (hs : SC X w N xs) (hN : N ≤ 2560) (hi : i + 5 ≤ N) (hz : z.1 + 1 ≤ 603072 ∧ z.2 + 6 ≤ 7157866) (hJ : JI2 h S sv Z F) (K : ∀ h' S' sv' Z' F' z', JI2 h' S' sv' Z' F' → z'.1 ≤ z.1 + 1 ∧ z'.2 ≤ z.2 + 6 → V X z' w h' 2096 (LL i) []) : V X z w h 1739 (LL i) [] := by
  obtain ⟨th, hR⟩ := hJ.2.1
  obtain ⟨f, hf⟩ := hJ.2.2
  obtain ⟨S', sv', Z', F', o', z', r, y, j8, j9, hr4, hc⟩ := jm_orphans hJ.oks (w := w) (S := S) (sv := sv) (Z := Z) (F := F) (x := xs (i + 1))
  obtain ⟨d8, P8, hd8, c8, q8⟩ := j8 h hJ.1
  have hz' : z'.1 ≤ 1 ∧ z'.2 ≤ 6 := by rcases hc with ⟨-, -, rfl⟩ | ⟨E, -, -, rfl⟩ <;> decide
  have hJO : JO rwL_orphans o' z' r f P8 (RW h S' sv' Z' F' r y.toInt64) := by
    rcases hc with ⟨rfl, rfl, rfl⟩ | ⟨E, rfl, hE, rfl⟩
    · exact .inl ⟨y, rfl, rfl, rfl, fun h1 p1 => ⟨((q8 h1 p1).gf 88 (by decide)).trans hf, rw_ok (q8 h1 p1)⟩⟩
    · exact .inr ⟨E, rfl, rfl, hE, fun h1 p1 => rw_thr (q8 h1 p1) hf (fun e => by subst e; simp [rwL_orphans] at hE)⟩
  have cw := xL_orphans hJO hJ.1.ob hd8 c8
  refine v_aload_n C dL_law_1739 rfl ?_
  refine v_aload_n C dL_law_1740 rfl ?_
  refine v_iload C dL_law_1741 rfl ?_
  refine v_iconst C dL_law_1743 (v := nI 1) rfl ?_
  refine v_iaddN C dL_law_1744 ?_
  refine v_sld C hs hN (by omega) dL_law_1745 ?_
  refine v_aload_n C dL_law_1746 rfl ?_
  refine v_callH C dL_law_1747 kL_orphans (tj6 22 (by rfl) rfl) cw rfl rfl rfl ⟨by show z.1 + z'.1 ≤ 603072; omega, by show z.2 + z'.2 ≤ 7157866; omega⟩ rfl rfl (fun _ => rfl) (fun h1 R1 => ?_)
  dsimp only [Option.toList, List.cons_append, List.nil_append]
  obtain ⟨hP1, fr1, f1, hf1, hy1⟩ := R1
  have hR1 := hR.low (h' := h1) (fun j a b => fr1 j (by omega) (by omega))
  obtain ⟨d9, hd9, c9⟩ := j9 h1 _ hR1
  obtain ⟨u1, o1, -⟩ := hR1.o
  refine v_istore C dL_law_1750 rfl ?_
  dsimp only [sto1, sto2, killL]
  refine v_aload_n C dL_law_1752 rfl ?_
  refine v_aload_n C dL_law_1753 rfl ?_
  refine v_iload C dL_law_1754 rfl ?_
  refine v_iconst C dL_law_1756 (v := nI 1) rfl ?_
  refine v_iaddN C dL_law_1757 ?_
  refine v_sld C hs hN (by omega) dL_law_1758 ?_
  refine v_callV C dL_law_1759 vL_218 o1 c9 rfl (blt10 hd9) rfl ⟨Nat.ble_eq_true_of_le (by show z.1 + z'.1 ≤ 603072; omega), Nat.ble_eq_true_of_le (by show z.2 + z'.2 ≤ 7157866; omega)⟩ rfl rfl (fun _ => rfl) (fun h2 hp => ?_)
  dsimp only [Option.toList, List.cons_append, List.nil_append]
  refine v_istore C dL_law_1762 rfl ?_
  dsimp only [sto1, sto2, killL]
  refine v_aload_n C dL_law_1764 rfl ?_
  obtain ⟨u2, o2, t2, -⟩ := hp.o
  refine v_callV C dL_law_1765 vL_122 o2 (k9_thrown o2) rfl rfl rfl ⟨Nat.ble_eq_true_of_le (by show z.1 + z'.1 ≤ 603072; omega), Nat.ble_eq_true_of_le (by show z.2 + z'.2 ≤ 7157866; omega)⟩ rfl rfl (fun _ => rfl) (fun h3 e3 => ?_)
  rw [show h3 = _ from e3]
  dsimp only [Option.toList, List.cons_append, List.nil_append]
  rw [t2]
  have J2 : JI2 h2 S' sv' Z' F' := ⟨hP1.top (fun j hj => hp.fr j (.inl (by omega))), ⟨_, hp.low (fun _ _ _ => rfl)⟩, f1, (hp.fr 88 (.inr (by decide))).trans hf1⟩
  refine v_iload C dL_law_1768 rfl ?_
  refine v_icmp_eqN C dL_law_1770 (tgt := 1775) (by decide) (by omega) (by omega) (fun _ => ?_) (fun hne => absurd rfl hne)
  refine v_iload C dL_law_1775 rfl ?_
  refine v_if_neN C dL_law_1777 (tgt := 1792) (by decide) (by omega) (fun _ => v_goto C dL_law_1792 (tgt := 2096) (by decide) (v_forget _ _ _ _ _ _ _ _ (K h2 S' sv' Z' F' _ J2 ⟨by show z.1 + z'.1 ≤ z.1 + 1; omega, by show z.2 + z'.2 ≤ z.2 + 6; omega⟩))) (fun hr0 => ?_)
  refine v_aload_n C dL_law_1780 rfl ?_
  refine v_iconst C dL_law_1781 (v := nI 0) rfl ?_
  refine v_lald C dL_law_1782 ((hp.fr 88 (.inr (by decide))).trans hf1) (by decide) rfl (j := 0) (by decide) (hy1 hr0) ?_
  refine v_iload C dL_law_1783 rfl ?_
  refine v_i2l C dL_law_1785 ?_
  refine v_lcmp C dL_law_1786 ?_
  exact v_if_eq C dL_law_1787 (tgt := 1792) (by decide) (fun _ => v_goto C dL_law_1792 (tgt := 2096) (by decide) (v_forget _ _ _ _ _ _ _ _ (K h2 S' sv' Z' F' _ J2 ⟨by show z.1 + z'.1 ≤ z.1 + 1; omega, by show z.2 + z'.2 ≤ z.2 + 6; omega⟩))) (fun hne => absurd (cmp_self _) hne)
theorem lc_shortestOrphan {X : CT} {o : Oc} {P : Wt → Hp → Prop} (C : Cx X mL_law [] 10 zL o P) {z : Nat × Nat} {w : Wt} {h : Hp} {N i : Nat} {xs : Nat → Int32} {S Z : Sc} {sv : Bool} {F : Sf} (hs : SC X w N xs) (hN : N ≤ 2560) (hi : i + 5 ≤ N) (hz : z.1 + 1 ≤ 603072 ∧ z.2 + 6 ≤ 7157866) (hJ : JI2 h S sv Z F) (K : ∀ h' S' sv' Z' F' z', JI2 h' S' sv' Z' F' → z'.1 ≤ z.1 + 1 ∧ z'.2 ≤ z.2 + 6 → V X z' w h' 2096 (LL i) []) : V X z w h 1795 (LL i) [] := by
  obtain ⟨th, hR⟩ := hJ.2.1
  obtain ⟨f, hf⟩ := hJ.2.2
  obtain ⟨S', sv', Z', F', o', z', r, y, j8, j9, hr4, hc⟩ := jm_shortestOrphan hJ.oks (w := w) (S := S) (sv := sv) (Z := Z) (F := F) (x := xs (i + 1))
  obtain ⟨d8, P8, hd8, c8, q8⟩ := j8 h hJ.1
  have hz' : z'.1 ≤ 1 ∧ z'.2 ≤ 6 := by rcases hc with ⟨-, -, rfl⟩ | ⟨E, -, -, rfl⟩ <;> decide
  have hJO : JO rwL_shortestOrphan o' z' r f P8 (RW h S' sv' Z' F' r y.toInt64) := by
    rcases hc with ⟨rfl, rfl, rfl⟩ | ⟨E, rfl, hE, rfl⟩
    · exact .inl ⟨y, rfl, rfl, rfl, fun h1 p1 => ⟨((q8 h1 p1).gf 88 (by decide)).trans hf, rw_ok (q8 h1 p1)⟩⟩
    · exact .inr ⟨E, rfl, rfl, hE, fun h1 p1 => rw_thr (q8 h1 p1) hf (fun e => by subst e; simp [rwL_shortestOrphan] at hE)⟩
  have cw := xL_shortestOrphan hJO hJ.1.ob hd8 c8
  refine v_aload_n C dL_law_1795 rfl ?_
  refine v_aload_n C dL_law_1796 rfl ?_
  refine v_iload C dL_law_1797 rfl ?_
  refine v_iconst C dL_law_1799 (v := nI 1) rfl ?_
  refine v_iaddN C dL_law_1800 ?_
  refine v_sld C hs hN (by omega) dL_law_1801 ?_
  refine v_aload_n C dL_law_1802 rfl ?_
  refine v_callH C dL_law_1803 kL_shortestOrphan (tj6 43 (by rfl) rfl) cw rfl rfl rfl ⟨by show z.1 + z'.1 ≤ 603072; omega, by show z.2 + z'.2 ≤ 7157866; omega⟩ rfl rfl (fun _ => rfl) (fun h1 R1 => ?_)
  dsimp only [Option.toList, List.cons_append, List.nil_append]
  obtain ⟨hP1, fr1, f1, hf1, hy1⟩ := R1
  have hR1 := hR.low (h' := h1) (fun j a b => fr1 j (by omega) (by omega))
  obtain ⟨d9, hd9, c9⟩ := j9 h1 _ hR1
  obtain ⟨u1, o1, -⟩ := hR1.o
  refine v_istore C dL_law_1806 rfl ?_
  dsimp only [sto1, sto2, killL]
  refine v_aload_n C dL_law_1808 rfl ?_
  refine v_aload_n C dL_law_1809 rfl ?_
  refine v_iload C dL_law_1810 rfl ?_
  refine v_iconst C dL_law_1812 (v := nI 1) rfl ?_
  refine v_iaddN C dL_law_1813 ?_
  refine v_sld C hs hN (by omega) dL_law_1814 ?_
  refine v_callV C dL_law_1815 vL_221 o1 c9 rfl (blt10 hd9) rfl ⟨Nat.ble_eq_true_of_le (by show z.1 + z'.1 ≤ 603072; omega), Nat.ble_eq_true_of_le (by show z.2 + z'.2 ≤ 7157866; omega)⟩ rfl rfl (fun _ => rfl) (fun h2 hp => ?_)
  dsimp only [Option.toList, List.cons_append, List.nil_append]
  refine v_istore C dL_law_1818 rfl ?_
  dsimp only [sto1, sto2, killL]
  refine v_aload_n C dL_law_1820 rfl ?_
  obtain ⟨u2, o2, t2, -⟩ := hp.o
  refine v_callV C dL_law_1821 vL_122 o2 (k9_thrown o2) rfl rfl rfl ⟨Nat.ble_eq_true_of_le (by show z.1 + z'.1 ≤ 603072; omega), Nat.ble_eq_true_of_le (by show z.2 + z'.2 ≤ 7157866; omega)⟩ rfl rfl (fun _ => rfl) (fun h3 e3 => ?_)
  rw [show h3 = _ from e3]
  dsimp only [Option.toList, List.cons_append, List.nil_append]
  rw [t2]
  have J2 : JI2 h2 S' sv' Z' F' := ⟨hP1.top (fun j hj => hp.fr j (.inl (by omega))), ⟨_, hp.low (fun _ _ _ => rfl)⟩, f1, (hp.fr 88 (.inr (by decide))).trans hf1⟩
  refine v_iload C dL_law_1824 rfl ?_
  refine v_icmp_eqN C dL_law_1826 (tgt := 1831) (by decide) (by omega) (by omega) (fun _ => ?_) (fun hne => absurd rfl hne)
  refine v_iload C dL_law_1831 rfl ?_
  refine v_if_neN C dL_law_1833 (tgt := 1848) (by decide) (by omega) (fun _ => v_goto C dL_law_1848 (tgt := 2096) (by decide) (v_forget _ _ _ _ _ _ _ _ (K h2 S' sv' Z' F' _ J2 ⟨by show z.1 + z'.1 ≤ z.1 + 1; omega, by show z.2 + z'.2 ≤ z.2 + 6; omega⟩))) (fun hr0 => ?_)
  refine v_aload_n C dL_law_1836 rfl ?_
  refine v_iconst C dL_law_1837 (v := nI 0) rfl ?_
  refine v_lald C dL_law_1838 ((hp.fr 88 (.inr (by decide))).trans hf1) (by decide) rfl (j := 0) (by decide) (hy1 hr0) ?_
  refine v_iload C dL_law_1839 rfl ?_
  refine v_i2l C dL_law_1841 ?_
  refine v_lcmp C dL_law_1842 ?_
  exact v_if_eq C dL_law_1843 (tgt := 1848) (by decide) (fun _ => v_goto C dL_law_1848 (tgt := 2096) (by decide) (v_forget _ _ _ _ _ _ _ _ (K h2 S' sv' Z' F' _ J2 ⟨by show z.1 + z'.1 ≤ z.1 + 1; omega, by show z.2 + z'.2 ≤ z.2 + 6; omega⟩))) (fun hne => absurd (cmp_self _) hne)
theorem lc_has {X : CT} {o : Oc} {P : Wt → Hp → Prop} (C : Cx X mL_law [] 10 zL o P) {z : Nat × Nat} {w : Wt} {h : Hp} {N i : Nat} {xs : Nat → Int32} {S Z : Sc} {sv : Bool} {F : Sf} (hs : SC X w N xs) (hN : N ≤ 2560) (hi : i + 5 ≤ N) (hz : z.1 + 1 ≤ 603072 ∧ z.2 + 6 ≤ 7157866) (hJ : JI2 h S sv Z F) (K : ∀ h' S' sv' Z' F' z', JI2 h' S' sv' Z' F' → z'.1 ≤ z.1 + 1 ∧ z'.2 ≤ z.2 + 6 → V X z' w h' 2096 (LL i) []) : V X z w h 1851 (LL i) [] := by
  obtain ⟨th, hR⟩ := hJ.2.1
  obtain ⟨f, hf⟩ := hJ.2.2
  obtain ⟨S', sv', Z', F', o', z', r, b, j8, j9, hr4, hc⟩ := jm_has hJ.oks (w := w) (S := S) (sv := sv) (Z := Z) (F := F) (x := xs (i + 1))
  obtain ⟨d8, P8, hd8, c8, q8⟩ := j8 h hJ.1
  have hz' : z'.1 ≤ 1 ∧ z'.2 ≤ 6 := by rcases hc with ⟨-, -, rfl⟩ | ⟨E, -, -, rfl⟩ <;> decide
  have hJO : JOB rwL_has o' z' r f P8 (RW h S' sv' Z' F' r (if b then 1 else 0)) := by
    rcases hc with ⟨rfl, rfl, rfl⟩ | ⟨E, rfl, hE, rfl⟩
    · exact .inl ⟨b, rfl, rfl, rfl, fun h1 p1 => ⟨((q8 h1 p1).gf 88 (by decide)).trans hf, rw_ok (q8 h1 p1)⟩⟩
    · exact .inr ⟨E, rfl, rfl, hE, fun h1 p1 => rw_thr (q8 h1 p1) hf (fun e => by subst e; simp [rwL_has] at hE)⟩
  have cw := xL_has hJO hJ.1.ob hd8 c8
  refine v_aload_n C dL_law_1851 rfl ?_
  refine v_aload_n C dL_law_1852 rfl ?_
  refine v_iload C dL_law_1853 rfl ?_
  refine v_iconst C dL_law_1855 (v := nI 1) rfl ?_
  refine v_iaddN C dL_law_1856 ?_
  refine v_sld C hs hN (by omega) dL_law_1857 ?_
  refine v_aload_n C dL_law_1858 rfl ?_
  refine v_callH C dL_law_1859 kL_has (tj6 61 (by rfl) rfl) cw rfl rfl rfl ⟨by show z.1 + z'.1 ≤ 603072; omega, by show z.2 + z'.2 ≤ 7157866; omega⟩ rfl rfl (fun _ => rfl) (fun h1 R1 => ?_)
  dsimp only [Option.toList, List.cons_append, List.nil_append]
  obtain ⟨hP1, fr1, f1, hf1, hy1⟩ := R1
  have hR1 := hR.low (h' := h1) (fun j a b => fr1 j (by omega) (by omega))
  obtain ⟨d9, hd9, c9⟩ := j9 h1 _ hR1
  obtain ⟨u1, o1, -⟩ := hR1.o
  refine v_istore C dL_law_1862 rfl ?_
  dsimp only [sto1, sto2, killL]
  refine v_aload_n C dL_law_1864 rfl ?_
  refine v_aload_n C dL_law_1865 rfl ?_
  refine v_iload C dL_law_1866 rfl ?_
  refine v_iconst C dL_law_1868 (v := nI 1) rfl ?_
  refine v_iaddN C dL_law_1869 ?_
  refine v_sld C hs hN (by omega) dL_law_1870 ?_
  refine v_callV C dL_law_1871 vL_224 o1 c9 rfl (blt10 hd9) rfl ⟨Nat.ble_eq_true_of_le (by show z.1 + z'.1 ≤ 603072; omega), Nat.ble_eq_true_of_le (by show z.2 + z'.2 ≤ 7157866; omega)⟩ rfl rfl (fun _ => rfl) (fun h2 hp => ?_)
  dsimp only [Option.toList, List.cons_append, List.nil_append]
  refine v_istore C dL_law_1874 rfl ?_
  dsimp only [sto1, sto2, killL]
  refine v_aload_n C dL_law_1876 rfl ?_
  obtain ⟨u2, o2, t2, -⟩ := hp.o
  refine v_callV C dL_law_1877 vL_122 o2 (k9_thrown o2) rfl rfl rfl ⟨Nat.ble_eq_true_of_le (by show z.1 + z'.1 ≤ 603072; omega), Nat.ble_eq_true_of_le (by show z.2 + z'.2 ≤ 7157866; omega)⟩ rfl rfl (fun _ => rfl) (fun h3 e3 => ?_)
  rw [show h3 = _ from e3]
  dsimp only [Option.toList, List.cons_append, List.nil_append]
  rw [t2]
  have J2 : JI2 h2 S' sv' Z' F' := ⟨hP1.top (fun j hj => hp.fr j (.inl (by omega))), ⟨_, hp.low (fun _ _ _ => rfl)⟩, f1, (hp.fr 88 (.inr (by decide))).trans hf1⟩
  refine v_iload C dL_law_1880 rfl ?_
  refine v_icmp_eqN C dL_law_1882 (tgt := 1887) (by decide) (by omega) (by omega) (fun _ => ?_) (fun hne => absurd rfl hne)
  refine v_iload C dL_law_1887 rfl ?_
  refine v_if_neN C dL_law_1889 (tgt := 1911) (by decide) (by omega) (fun _ => v_goto C dL_law_1911 (tgt := 2096) (by decide) (v_forget _ _ _ _ _ _ _ _ (K h2 S' sv' Z' F' _ J2 ⟨by show z.1 + z'.1 ≤ z.1 + 1; omega, by show z.2 + z'.2 ≤ z.2 + 6; omega⟩))) (fun hr0 => ?_)
  refine v_aload_n C dL_law_1892 rfl ?_
  refine v_iconst C dL_law_1893 (v := nI 0) rfl ?_
  refine v_lald C dL_law_1894 ((hp.fr 88 (.inr (by decide))).trans hf1) (by decide) rfl (j := 0) (by decide) (hy1 hr0) ?_
  refine v_iload C dL_law_1895 rfl ?_
  refine v_if_eqB C dL_law_1897 (tgt := 1904) (by decide) (fun hb => ?_) (fun hb => ?_)
  · subst hb
    refine v_lconst C dL_law_1904 (v := 0) rfl ?_
    refine v_lcmp C dL_law_1905 ?_
    exact v_if_eq C dL_law_1906 (tgt := 1911) (by decide) (fun _ => v_goto C dL_law_1911 (tgt := 2096) (by decide) (v_forget _ _ _ _ _ _ _ _ (K h2 S' sv' Z' F' _ J2 ⟨by show z.1 + z'.1 ≤ z.1 + 1; omega, by show z.2 + z'.2 ≤ z.2 + 6; omega⟩))) (fun hne => absurd (cmp_self _) hne)
  · subst hb
    refine v_lconst C dL_law_1900 (v := 1) rfl ?_
    refine v_goto C dL_law_1901 (tgt := 1905) (by decide) ?_
    refine v_lcmp C dL_law_1905 ?_
    exact v_if_eq C dL_law_1906 (tgt := 1911) (by decide) (fun _ => v_goto C dL_law_1911 (tgt := 2096) (by decide) (v_forget _ _ _ _ _ _ _ _ (K h2 S' sv' Z' F' _ J2 ⟨by show z.1 + z'.1 ≤ z.1 + 1; omega, by show z.2 + z'.2 ≤ z.2 + 6; omega⟩))) (fun hne => absurd (cmp_self _) hne)
theorem lc_cyclicPairs {X : CT} {o : Oc} {P : Wt → Hp → Prop} (C : Cx X mL_law [] 10 zL o P) {z : Nat × Nat} {w : Wt} {h : Hp} {N i : Nat} {xs : Nat → Int32} {S Z : Sc} {sv : Bool} {F : Sf} (hs : SC X w N xs) (hN : N ≤ 2560) (hi : i + 5 ≤ N) (hz : z.1 + 1 ≤ 603072 ∧ z.2 + 6 ≤ 7157866) (hJ : JI2 h S sv Z F) (K : ∀ h' S' sv' Z' F' z', JI2 h' S' sv' Z' F' → z'.1 ≤ z.1 + 1 ∧ z'.2 ≤ z.2 + 6 → V X z' w h' 2096 (LL i) []) : V X z w h 1914 (LL i) [] := by
  obtain ⟨th, hR⟩ := hJ.2.1
  obtain ⟨f, hf⟩ := hJ.2.2
  obtain ⟨S', sv', Z', F', r, j8, j9⟩ := jd_cyclicPairs (w := w) (S := S) (sv := sv) (Z := Z) (F := F) hJ.oks
  obtain ⟨d8, P8, hd8, c8, q8⟩ := j8 h hJ.1
  refine v_aload_n C dL_law_1914 rfl ?_
  refine v_callV C dL_law_1915 vL_225 hJ.1.ob c8 rfl (blt10 hd8) rfl ⟨Nat.ble_eq_true_of_le (by show z.1 ≤ 603072; omega), Nat.ble_eq_true_of_le (by show z.2 ≤ 7157866; omega)⟩ rfl rfl (fun _ => rfl) (fun h1 p1 => ?_)
  dsimp only [Option.toList, List.cons_append, List.nil_append]
  have hP1 := q8 h1 p1
  have hR1 := hR.low (h' := h1) (fun j a b => hP1.gf j (by omega))
  obtain ⟨d9, hd9, c9⟩ := j9 h1 _ hR1
  obtain ⟨u1, o1, -⟩ := hR1.o
  refine v_aload_n C dL_law_1918 rfl ?_
  refine v_callV C dL_law_1919 vL_228 o1 c9 rfl (blt10 hd9) rfl ⟨Nat.ble_eq_true_of_le (by show z.1 ≤ 603072; omega), Nat.ble_eq_true_of_le (by show z.2 ≤ 7157866; omega)⟩ rfl rfl (fun _ => rfl) (fun h2 hp => ?_)
  dsimp only [Option.toList, List.cons_append, List.nil_append]
  exact v_icmp_eq C dL_law_1922 (tgt := 2096) (by decide) (fun _ => K h2 S' sv' Z' F' _ ⟨hP1.top (fun j hj => hp.fr j (.inl (by omega))), ⟨_, hp.low (fun _ _ _ => rfl)⟩, f, (hp.fr 88 (.inr (by decide))).trans ((hP1.gf 88 (by decide)).trans hf)⟩ ⟨by omega, by omega⟩) (fun hne => absurd rfl hne)
theorem lc_inverse {X : CT} {o : Oc} {P : Wt → Hp → Prop} (C : Cx X mL_law [] 10 zL o P) {z : Nat × Nat} {w : Wt} {h : Hp} {N i : Nat} {xs : Nat → Int32} {S Z : Sc} {sv : Bool} {F : Sf} (hs : SC X w N xs) (hN : N ≤ 2560) (hi : i + 5 ≤ N) (hz : z.1 + 1 ≤ 603072 ∧ z.2 + 6 ≤ 7157866) (hJ : JI2 h S sv Z F) (K : ∀ h' S' sv' Z' F' z', JI2 h' S' sv' Z' F' → z'.1 ≤ z.1 + 1 ∧ z'.2 ≤ z.2 + 6 → V X z' w h' 2096 (LL i) []) : V X z w h 1927 (LL i) [] := by
  obtain ⟨th, hR⟩ := hJ.2.1
  obtain ⟨f, hf⟩ := hJ.2.2
  obtain ⟨S', sv', Z', F', o', z', r, y, j8, j9, hr4, hc⟩ := jm_inverse (w := w) (S := S) (sv := sv) (Z := Z) (F := F) (x := xs (i + 1))
  obtain ⟨d8, P8, hd8, c8, q8⟩ := j8 h hJ.1
  have hz' : z'.1 ≤ 1 ∧ z'.2 ≤ 6 := by rcases hc with ⟨-, -, rfl⟩ | ⟨E, -, -, rfl⟩ <;> decide
  have hJO : JO rwL_inverse o' z' r f P8 (RW h S' sv' Z' F' r y.toInt64) := by
    rcases hc with ⟨rfl, rfl, rfl⟩ | ⟨E, rfl, hE, rfl⟩
    · exact .inl ⟨y, rfl, rfl, rfl, fun h1 p1 => ⟨((q8 h1 p1).gf 88 (by decide)).trans hf, rw_ok (q8 h1 p1)⟩⟩
    · exact .inr ⟨E, rfl, rfl, hE, fun h1 p1 => rw_thr (q8 h1 p1) hf (fun e => by subst e; simp [rwL_inverse] at hE)⟩
  have cw := xL_inverse hJO hJ.1.ob hd8 c8
  refine v_aload_n C dL_law_1927 rfl ?_
  refine v_aload_n C dL_law_1928 rfl ?_
  refine v_iload C dL_law_1929 rfl ?_
  refine v_iconst C dL_law_1931 (v := nI 1) rfl ?_
  refine v_iaddN C dL_law_1932 ?_
  refine v_sld C hs hN (by omega) dL_law_1933 ?_
  refine v_aload_n C dL_law_1934 rfl ?_
  refine v_callH C dL_law_1935 kL_inverse (tj6 86 (by rfl) rfl) cw rfl rfl rfl ⟨by show z.1 + z'.1 ≤ 603072; omega, by show z.2 + z'.2 ≤ 7157866; omega⟩ rfl rfl (fun _ => rfl) (fun h1 R1 => ?_)
  dsimp only [Option.toList, List.cons_append, List.nil_append]
  obtain ⟨hP1, fr1, f1, hf1, hy1⟩ := R1
  have hR1 := hR.low (h' := h1) (fun j a b => fr1 j (by omega) (by omega))
  obtain ⟨d9, hd9, c9⟩ := j9 h1 _ hR1
  obtain ⟨u1, o1, -⟩ := hR1.o
  refine v_istore C dL_law_1938 rfl ?_
  dsimp only [sto1, sto2, killL]
  refine v_aload_n C dL_law_1940 rfl ?_
  refine v_aload_n C dL_law_1941 rfl ?_
  refine v_iload C dL_law_1942 rfl ?_
  refine v_iconst C dL_law_1944 (v := nI 1) rfl ?_
  refine v_iaddN C dL_law_1945 ?_
  refine v_sld C hs hN (by omega) dL_law_1946 ?_
  refine v_callV C dL_law_1947 vL_231 o1 c9 rfl (blt10 hd9) rfl ⟨Nat.ble_eq_true_of_le (by show z.1 + z'.1 ≤ 603072; omega), Nat.ble_eq_true_of_le (by show z.2 + z'.2 ≤ 7157866; omega)⟩ rfl rfl (fun _ => rfl) (fun h2 hp => ?_)
  dsimp only [Option.toList, List.cons_append, List.nil_append]
  refine v_istore C dL_law_1950 rfl ?_
  dsimp only [sto1, sto2, killL]
  refine v_aload_n C dL_law_1952 rfl ?_
  obtain ⟨u2, o2, t2, -⟩ := hp.o
  refine v_callV C dL_law_1953 vL_122 o2 (k9_thrown o2) rfl rfl rfl ⟨Nat.ble_eq_true_of_le (by show z.1 + z'.1 ≤ 603072; omega), Nat.ble_eq_true_of_le (by show z.2 + z'.2 ≤ 7157866; omega)⟩ rfl rfl (fun _ => rfl) (fun h3 e3 => ?_)
  rw [show h3 = _ from e3]
  dsimp only [Option.toList, List.cons_append, List.nil_append]
  rw [t2]
  have J2 : JI2 h2 S' sv' Z' F' := ⟨hP1.top (fun j hj => hp.fr j (.inl (by omega))), ⟨_, hp.low (fun _ _ _ => rfl)⟩, f1, (hp.fr 88 (.inr (by decide))).trans hf1⟩
  refine v_iload C dL_law_1956 rfl ?_
  refine v_icmp_eqN C dL_law_1958 (tgt := 1963) (by decide) (by omega) (by omega) (fun _ => ?_) (fun hne => absurd rfl hne)
  refine v_iload C dL_law_1963 rfl ?_
  refine v_if_neN C dL_law_1965 (tgt := 1980) (by decide) (by omega) (fun _ => v_goto C dL_law_1980 (tgt := 2096) (by decide) (v_forget _ _ _ _ _ _ _ _ (K h2 S' sv' Z' F' _ J2 ⟨by show z.1 + z'.1 ≤ z.1 + 1; omega, by show z.2 + z'.2 ≤ z.2 + 6; omega⟩))) (fun hr0 => ?_)
  refine v_aload_n C dL_law_1968 rfl ?_
  refine v_iconst C dL_law_1969 (v := nI 0) rfl ?_
  refine v_lald C dL_law_1970 ((hp.fr 88 (.inr (by decide))).trans hf1) (by decide) rfl (j := 0) (by decide) (hy1 hr0) ?_
  refine v_iload C dL_law_1971 rfl ?_
  refine v_i2l C dL_law_1973 ?_
  refine v_lcmp C dL_law_1974 ?_
  exact v_if_eq C dL_law_1975 (tgt := 1980) (by decide) (fun _ => v_goto C dL_law_1980 (tgt := 2096) (by decide) (v_forget _ _ _ _ _ _ _ _ (K h2 S' sv' Z' F' _ J2 ⟨by show z.1 + z'.1 ≤ z.1 + 1; omega, by show z.2 + z'.2 ≤ z.2 + 6; omega⟩))) (fun hne => absurd (cmp_self _) hne)
theorem lc_inverseOutput {X : CT} {o : Oc} {P : Wt → Hp → Prop} (C : Cx X mL_law [] 10 zL o P) {z : Nat × Nat} {w : Wt} {h : Hp} {N i : Nat} {xs : Nat → Int32} {S Z : Sc} {sv : Bool} {F : Sf} (hs : SC X w N xs) (hN : N ≤ 2560) (hi : i + 5 ≤ N) (hz : z.1 + 1 ≤ 603072 ∧ z.2 + 6 ≤ 7157866) (hJ : JI2 h S sv Z F) (K : ∀ h' S' sv' Z' F' z', JI2 h' S' sv' Z' F' → z'.1 ≤ z.1 + 1 ∧ z'.2 ≤ z.2 + 6 → V X z' w h' 2096 (LL i) []) : V X z w h 1983 (LL i) [] := by
  obtain ⟨th, hR⟩ := hJ.2.1
  obtain ⟨f, hf⟩ := hJ.2.2
  obtain ⟨S', sv', Z', F', o', z', r, y, j8, j9, hr4, hc⟩ := jm_inverseOutput hJ.oks (w := w) (S := S) (sv := sv) (Z := Z) (F := F) (x := xs (i + 1))
  obtain ⟨d8, P8, hd8, c8, q8⟩ := j8 h hJ.1
  have hz' : z'.1 ≤ 1 ∧ z'.2 ≤ 6 := by rcases hc with ⟨-, -, rfl⟩ | ⟨E, -, -, rfl⟩ <;> decide
  have hJO : JO rwL_inverseOutput o' z' r f P8 (RW h S' sv' Z' F' r y.toInt64) := by
    rcases hc with ⟨rfl, rfl, rfl⟩ | ⟨E, rfl, hE, rfl⟩
    · exact .inl ⟨y, rfl, rfl, rfl, fun h1 p1 => ⟨((q8 h1 p1).gf 88 (by decide)).trans hf, rw_ok (q8 h1 p1)⟩⟩
    · exact .inr ⟨E, rfl, rfl, hE, fun h1 p1 => rw_thr (q8 h1 p1) hf (fun e => by subst e; simp [rwL_inverseOutput] at hE)⟩
  have cw := xL_inverseOutput hJO hJ.1.ob hd8 c8
  refine v_aload_n C dL_law_1983 rfl ?_
  refine v_aload_n C dL_law_1984 rfl ?_
  refine v_iload C dL_law_1985 rfl ?_
  refine v_iconst C dL_law_1987 (v := nI 1) rfl ?_
  refine v_iaddN C dL_law_1988 ?_
  refine v_sld C hs hN (by omega) dL_law_1989 ?_
  refine v_aload_n C dL_law_1990 rfl ?_
  refine v_callH C dL_law_1991 kL_inverseOutput (tj6 122 (by rfl) rfl) cw rfl rfl rfl ⟨by show z.1 + z'.1 ≤ 603072; omega, by show z.2 + z'.2 ≤ 7157866; omega⟩ rfl rfl (fun _ => rfl) (fun h1 R1 => ?_)
  dsimp only [Option.toList, List.cons_append, List.nil_append]
  obtain ⟨hP1, fr1, f1, hf1, hy1⟩ := R1
  have hR1 := hR.low (h' := h1) (fun j a b => fr1 j (by omega) (by omega))
  obtain ⟨d9, hd9, c9⟩ := j9 h1 _ hR1
  obtain ⟨u1, o1, -⟩ := hR1.o
  refine v_istore C dL_law_1994 rfl ?_
  dsimp only [sto1, sto2, killL]
  refine v_aload_n C dL_law_1996 rfl ?_
  refine v_aload_n C dL_law_1997 rfl ?_
  refine v_iload C dL_law_1998 rfl ?_
  refine v_iconst C dL_law_2000 (v := nI 1) rfl ?_
  refine v_iaddN C dL_law_2001 ?_
  refine v_sld C hs hN (by omega) dL_law_2002 ?_
  refine v_callV C dL_law_2003 vL_234 o1 c9 rfl (blt10 hd9) rfl ⟨Nat.ble_eq_true_of_le (by show z.1 + z'.1 ≤ 603072; omega), Nat.ble_eq_true_of_le (by show z.2 + z'.2 ≤ 7157866; omega)⟩ rfl rfl (fun _ => rfl) (fun h2 hp => ?_)
  dsimp only [Option.toList, List.cons_append, List.nil_append]
  refine v_istore C dL_law_2006 rfl ?_
  dsimp only [sto1, sto2, killL]
  refine v_aload_n C dL_law_2008 rfl ?_
  obtain ⟨u2, o2, t2, -⟩ := hp.o
  refine v_callV C dL_law_2009 vL_122 o2 (k9_thrown o2) rfl rfl rfl ⟨Nat.ble_eq_true_of_le (by show z.1 + z'.1 ≤ 603072; omega), Nat.ble_eq_true_of_le (by show z.2 + z'.2 ≤ 7157866; omega)⟩ rfl rfl (fun _ => rfl) (fun h3 e3 => ?_)
  rw [show h3 = _ from e3]
  dsimp only [Option.toList, List.cons_append, List.nil_append]
  rw [t2]
  have J2 : JI2 h2 S' sv' Z' F' := ⟨hP1.top (fun j hj => hp.fr j (.inl (by omega))), ⟨_, hp.low (fun _ _ _ => rfl)⟩, f1, (hp.fr 88 (.inr (by decide))).trans hf1⟩
  refine v_iload C dL_law_2012 rfl ?_
  refine v_icmp_eqN C dL_law_2014 (tgt := 2019) (by decide) (by omega) (by omega) (fun _ => ?_) (fun hne => absurd rfl hne)
  refine v_iload C dL_law_2019 rfl ?_
  refine v_if_neN C dL_law_2021 (tgt := 2036) (by decide) (by omega) (fun _ => v_goto C dL_law_2036 (tgt := 2096) (by decide) (v_forget _ _ _ _ _ _ _ _ (K h2 S' sv' Z' F' _ J2 ⟨by show z.1 + z'.1 ≤ z.1 + 1; omega, by show z.2 + z'.2 ≤ z.2 + 6; omega⟩))) (fun hr0 => ?_)
  refine v_aload_n C dL_law_2024 rfl ?_
  refine v_iconst C dL_law_2025 (v := nI 0) rfl ?_
  refine v_lald C dL_law_2026 ((hp.fr 88 (.inr (by decide))).trans hf1) (by decide) rfl (j := 0) (by decide) (hy1 hr0) ?_
  refine v_iload C dL_law_2027 rfl ?_
  refine v_i2l C dL_law_2029 ?_
  refine v_lcmp C dL_law_2030 ?_
  exact v_if_eq C dL_law_2031 (tgt := 2036) (by decide) (fun _ => v_goto C dL_law_2036 (tgt := 2096) (by decide) (v_forget _ _ _ _ _ _ _ _ (K h2 S' sv' Z' F' _ J2 ⟨by show z.1 + z'.1 ≤ z.1 + 1; omega, by show z.2 + z'.2 ≤ z.2 + 6; omega⟩))) (fun hne => absurd (cmp_self _) hne)
theorem lc_save {X : CT} {o : Oc} {P : Wt → Hp → Prop} (C : Cx X mL_law [] 10 zL o P) {z : Nat × Nat} {w : Wt} {h : Hp} {N i : Nat} {xs : Nat → Int32} {S Z : Sc} {sv : Bool} {F : Sf} (hs : SC X w N xs) (hN : N ≤ 2560) (hi : i + 5 ≤ N) (hz : z.1 + 1 ≤ 603072 ∧ z.2 + 6 ≤ 7157866) (hJ : JI2 h S sv Z F) (K : ∀ h' S' sv' Z' F' z', JI2 h' S' sv' Z' F' → z'.1 ≤ z.1 + 1 ∧ z'.2 ≤ z.2 + 6 → V X z' w h' 2096 (LL i) []) : V X z w h 2039 (LL i) [] := by
  obtain ⟨th, hR⟩ := hJ.2.1
  obtain ⟨f, hf⟩ := hJ.2.2
  obtain ⟨S', sv', Z', F', r, j8, j9⟩ := jd_save (w := w) (S := S) (sv := sv) (Z := Z) (F := F)
  obtain ⟨d8, P8, hd8, c8, q8⟩ := j8 h hJ.1
  refine v_aload_n C dL_law_2039 rfl ?_
  refine v_callV C dL_law_2040 vL_235 hJ.1.ob c8 rfl (blt10 hd8) rfl ⟨Nat.ble_eq_true_of_le (by show z.1 ≤ 603072; omega), Nat.ble_eq_true_of_le (by show z.2 ≤ 7157866; omega)⟩ rfl rfl (fun _ => rfl) (fun h1 p1 => ?_)
  dsimp only [Option.toList, List.cons_append, List.nil_append]
  have hP1 := q8 h1 p1
  have hR1 := hR.low (h' := h1) (fun j a b => hP1.gf j (by omega))
  obtain ⟨d9, hd9, c9⟩ := j9 h1 _ hR1
  obtain ⟨u1, o1, -⟩ := hR1.o
  refine v_aload_n C dL_law_2043 rfl ?_
  refine v_callV C dL_law_2044 vL_238 o1 c9 rfl (blt10 hd9) rfl ⟨Nat.ble_eq_true_of_le (by show z.1 ≤ 603072; omega), Nat.ble_eq_true_of_le (by show z.2 ≤ 7157866; omega)⟩ rfl rfl (fun _ => rfl) (fun h2 hp => ?_)
  dsimp only [Option.toList, List.cons_append, List.nil_append]
  refine v_lcmp C dL_law_2047 ?_
  exact v_if_eq C dL_law_2048 (tgt := 2096) (by decide) (fun _ => K h2 S' sv' Z' F' _ ⟨hP1.top (fun j hj => hp.fr j (.inl (by omega))), ⟨_, hp.low (fun _ _ _ => rfl)⟩, f, (hp.fr 88 (.inr (by decide))).trans ((hP1.gf 88 (by decide)).trans hf)⟩ ⟨by omega, by omega⟩) (fun hne => absurd (cmp_self _) hne)
theorem lc_restore {X : CT} {o : Oc} {P : Wt → Hp → Prop} (C : Cx X mL_law [] 10 zL o P) {z : Nat × Nat} {w : Wt} {h : Hp} {N i : Nat} {xs : Nat → Int32} {S Z : Sc} {sv : Bool} {F : Sf} (hs : SC X w N xs) (hN : N ≤ 2560) (hi : i + 5 ≤ N) (hz : z.1 + 1 ≤ 603072 ∧ z.2 + 6 ≤ 7157866) (hJ : JI2 h S sv Z F) (K : ∀ h' S' sv' Z' F' z', JI2 h' S' sv' Z' F' → z'.1 ≤ z.1 + 1 ∧ z'.2 ≤ z.2 + 6 → V X z' w h' 2096 (LL i) []) : V X z w h 2053 (LL i) [] := by
  obtain ⟨th, hR⟩ := hJ.2.1
  obtain ⟨f, hf⟩ := hJ.2.2
  obtain ⟨S', sv', Z', F', o', z', r, y, j8, j9, hr4, hc⟩ := jm_restore (w := w) (S := S) (sv := sv) (Z := Z) (F := F) 
  obtain ⟨d8, P8, hd8, c8, q8⟩ := j8 h hJ.1
  have hz' : z'.1 ≤ 1 ∧ z'.2 ≤ 6 := by rcases hc with ⟨-, -, rfl⟩ | ⟨E, -, -, rfl⟩ <;> decide
  have hJO : JOL rwL_restore o' z' r f P8 (RW h S' sv' Z' F' r y) := by
    rcases hc with ⟨rfl, rfl, rfl⟩ | ⟨E, rfl, hE, rfl⟩
    · exact .inl ⟨y, rfl, rfl, rfl, fun h1 p1 => ⟨((q8 h1 p1).gf 88 (by decide)).trans hf, rw_ok (q8 h1 p1)⟩⟩
    · exact .inr ⟨E, rfl, rfl, hE, fun h1 p1 => rw_thr (q8 h1 p1) hf (fun e => by subst e; simp [rwL_restore] at hE)⟩
  have cw := xL_restore hJO hJ.1.ob hd8 c8
  refine v_aload_n C dL_law_2053 rfl ?_
  refine v_aload_n C dL_law_2054 rfl ?_
  refine v_callH C dL_law_2055 kL_restore (tj6 135 (by rfl) rfl) cw rfl rfl rfl ⟨by show z.1 + z'.1 ≤ 603072; omega, by show z.2 + z'.2 ≤ 7157866; omega⟩ rfl rfl (fun _ => rfl) (fun h1 R1 => ?_)
  dsimp only [Option.toList, List.cons_append, List.nil_append]
  obtain ⟨hP1, fr1, f1, hf1, hy1⟩ := R1
  have hR1 := hR.low (h' := h1) (fun j a b => fr1 j (by omega) (by omega))
  obtain ⟨d9, hd9, c9⟩ := j9 h1 _ hR1
  obtain ⟨u1, o1, -⟩ := hR1.o
  refine v_istore C dL_law_2058 rfl ?_
  dsimp only [sto1, sto2, killL]
  refine v_aload_n C dL_law_2060 rfl ?_
  refine v_callV C dL_law_2061 vL_241 o1 c9 rfl (blt10 hd9) rfl ⟨Nat.ble_eq_true_of_le (by show z.1 + z'.1 ≤ 603072; omega), Nat.ble_eq_true_of_le (by show z.2 + z'.2 ≤ 7157866; omega)⟩ rfl rfl (fun _ => rfl) (fun h2 hp => ?_)
  dsimp only [Option.toList, List.cons_append, List.nil_append]
  refine v_lstore C dL_law_2064 rfl ?_
  dsimp only [sto1, sto2, killL]
  refine v_aload_n C dL_law_2066 rfl ?_
  obtain ⟨u2, o2, t2, -⟩ := hp.o
  refine v_callV C dL_law_2067 vL_122 o2 (k9_thrown o2) rfl rfl rfl ⟨Nat.ble_eq_true_of_le (by show z.1 + z'.1 ≤ 603072; omega), Nat.ble_eq_true_of_le (by show z.2 + z'.2 ≤ 7157866; omega)⟩ rfl rfl (fun _ => rfl) (fun h3 e3 => ?_)
  rw [show h3 = _ from e3]
  dsimp only [Option.toList, List.cons_append, List.nil_append]
  rw [t2]
  have J2 : JI2 h2 S' sv' Z' F' := ⟨hP1.top (fun j hj => hp.fr j (.inl (by omega))), ⟨_, hp.low (fun _ _ _ => rfl)⟩, f1, (hp.fr 88 (.inr (by decide))).trans hf1⟩
  refine v_iload C dL_law_2070 rfl ?_
  refine v_icmp_eqN C dL_law_2072 (tgt := 2077) (by decide) (by omega) (by omega) (fun _ => ?_) (fun hne => absurd rfl hne)
  refine v_iload C dL_law_2077 rfl ?_
  refine v_if_neN C dL_law_2079 (tgt := 2093) (by decide) (by omega) (fun _ => v_goto C dL_law_2093 (tgt := 2096) (by decide) (v_forget _ _ _ _ _ _ _ _ (K h2 S' sv' Z' F' _ J2 ⟨by show z.1 + z'.1 ≤ z.1 + 1; omega, by show z.2 + z'.2 ≤ z.2 + 6; omega⟩))) (fun hr0 => ?_)
  refine v_aload_n C dL_law_2082 rfl ?_
  refine v_iconst C dL_law_2083 (v := nI 0) rfl ?_
  refine v_lald C dL_law_2084 ((hp.fr 88 (.inr (by decide))).trans hf1) (by decide) rfl (j := 0) (by decide) (hy1 hr0) ?_
  refine v_lload C dL_law_2085 rfl ?_
  refine v_lcmp C dL_law_2087 ?_
  exact v_if_eq C dL_law_2088 (tgt := 2093) (by decide) (fun _ => v_goto C dL_law_2093 (tgt := 2096) (by decide) (v_forget _ _ _ _ _ _ _ _ (K h2 S' sv' Z' F' _ J2 ⟨by show z.1 + z'.1 ≤ z.1 + 1; omega, by show z.2 + z'.2 ≤ z.2 + 6; omega⟩))) (fun hne => absurd (cmp_self _) hne)
