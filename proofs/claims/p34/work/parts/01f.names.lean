theorem dL_holds_181 : decode cL_holds 181 = .ok (.iinc 12 1, 3) := by decide +kernel
theorem dL_holds_184 : decode cL_holds 184 = .ok (.goto (-124), 3) := by decide +kernel
theorem dL_holds_187 : decode cL_holds 187 = .ok (.iconst 1, 1) := by decide +kernel
theorem dL_holds_188 : decode cL_holds 188 = .ok (.istore 12, 2) := by decide +kernel
theorem dL_holds_190 : decode cL_holds 190 = .ok (.iconst 0, 1) := by decide +kernel
theorem dL_holds_191 : decode cL_holds 191 = .ok (.istore 13, 2) := by decide +kernel
theorem dL_holds_193 : decode cL_holds 193 = .ok (.iconst 0, 1) := by decide +kernel
theorem dL_holds_194 : decode cL_holds 194 = .ok (.istore 14, 2) := by decide +kernel
theorem dL_holds_196 : decode cL_holds 196 = .ok (.iload 14, 2) := by decide +kernel
theorem dL_holds_198 : decode cL_holds 198 = .ok (.aload_n 0, 1) := by decide +kernel
theorem dL_holds_199 : decode cL_holds 199 = .ok (.iconst 4, 1) := by decide +kernel
theorem dL_holds_200 : decode cL_holds 200 = .ok (.invokevirtual 38, 3) := by decide +kernel
theorem dL_holds_203 : decode cL_holds 203 = .ok (.if_icmp .ge 157, 3) := by decide +kernel
theorem dL_holds_206 : decode cL_holds 206 = .ok (.iload 7, 2) := by decide +kernel
theorem dL_holds_208 : decode cL_holds 208 = .ok (.iload 14, 2) := by decide +kernel
theorem dL_holds_210 : decode cL_holds 210 = .ok (.invokestatic 42, 3) := by decide +kernel
theorem dL_holds_213 : decode cL_holds 213 = .ok (.ifCond .ne 6, 3) := by decide +kernel
theorem dL_holds_216 : decode cL_holds 216 = .ok (.goto 138, 3) := by decide +kernel
theorem dL_holds_219 : decode cL_holds 219 = .ok (.aload_n 0, 1) := by decide +kernel
theorem dL_holds_220 : decode cL_holds 220 = .ok (.iload 14, 2) := by decide +kernel
theorem dL_holds_222 : decode cL_holds 222 = .ok (.aload_n 3, 1) := by decide +kernel
theorem dL_holds_223 : decode cL_holds 223 = .ok (.invokestatic 53, 3) := by decide +kernel
theorem dL_holds_226 : decode cL_holds 226 = .ok (.istore 15, 2) := by decide +kernel
theorem dL_holds_228 : decode cL_holds 228 = .ok (.iconst 0, 1) := by decide +kernel
theorem dL_holds_229 : decode cL_holds 229 = .ok (.istore 16, 2) := by decide +kernel
theorem dL_holds_231 : decode cL_holds 231 = .ok (.iconst 0, 1) := by decide +kernel
theorem dL_holds_232 : decode cL_holds 232 = .ok (.istore 17, 2) := by decide +kernel
theorem dL_holds_234 : decode cL_holds 234 = .ok (.iload 17, 2) := by decide +kernel
theorem dL_holds_236 : decode cL_holds 236 = .ok (.aload_n 0, 1) := by decide +kernel
theorem dL_holds_237 : decode cL_holds 237 = .ok (.iconst 4, 1) := by decide +kernel
theorem dL_holds_238 : decode cL_holds 238 = .ok (.invokevirtual 38, 3) := by decide +kernel
theorem dL_holds_241 : decode cL_holds 241 = .ok (.if_icmp .ge 81, 3) := by decide +kernel
theorem dL_holds_244 : decode cL_holds 244 = .ok (.iload 6, 2) := by decide +kernel
theorem dL_holds_246 : decode cL_holds 246 = .ok (.iload 17, 2) := by decide +kernel
theorem dL_holds_248 : decode cL_holds 248 = .ok (.invokestatic 42, 3) := by decide +kernel
theorem dL_holds_251 : decode cL_holds 251 = .ok (.ifCond .eq 65, 3) := by decide +kernel
theorem dL_holds_254 : decode cL_holds 254 = .ok (.aload_n 0, 1) := by decide +kernel
theorem dL_holds_255 : decode cL_holds 255 = .ok (.iload 17, 2) := by decide +kernel
theorem dL_holds_257 : decode cL_holds 257 = .ok (.iconst 0, 1) := by decide +kernel
theorem dL_holds_258 : decode cL_holds 258 = .ok (.invokevirtual 35, 3) := by decide +kernel
theorem dL_holds_261 : decode cL_holds 261 = .ok (.iconst 2, 1) := by decide +kernel
theorem dL_holds_262 : decode cL_holds 262 = .ok (.if_icmp .eq 54, 3) := by decide +kernel
theorem dL_holds_265 : decode cL_holds 265 = .ok (.aload_n 0, 1) := by decide +kernel
theorem dL_holds_266 : decode cL_holds 266 = .ok (.iload 17, 2) := by decide +kernel
theorem dL_holds_268 : decode cL_holds 268 = .ok (.bipush 7, 2) := by decide +kernel
theorem dL_holds_270 : decode cL_holds 270 = .ok (.invokevirtual 35, 3) := by decide +kernel
theorem dL_holds_273 : decode cL_holds 273 = .ok (.iload 14, 2) := by decide +kernel
theorem dL_holds_275 : decode cL_holds 275 = .ok (.invokestatic 42, 3) := by decide +kernel
theorem dL_holds_278 : decode cL_holds 278 = .ok (.ifCond .ne 6, 3) := by decide +kernel
theorem dL_holds_281 : decode cL_holds 281 = .ok (.goto 35, 3) := by decide +kernel
theorem dL_holds_284 : decode cL_holds 284 = .ok (.iload 15, 2) := by decide +kernel
theorem dL_holds_286 : decode cL_holds 286 = .ok (.aload_n 0, 1) := by decide +kernel
theorem dL_holds_287 : decode cL_holds 287 = .ok (.iload 17, 2) := by decide +kernel
theorem dL_holds_289 : decode cL_holds 289 = .ok (.aload_n 3, 1) := by decide +kernel
theorem dL_holds_290 : decode cL_holds 290 = .ok (.invokestatic 49, 3) := by decide +kernel
theorem dL_holds_293 : decode cL_holds 293 = .ok (.ior, 1) := by decide +kernel
theorem dL_holds_294 : decode cL_holds 294 = .ok (.istore 15, 2) := by decide +kernel
theorem dL_holds_296 : decode cL_holds 296 = .ok (.iload 16, 2) := by decide +kernel
theorem dL_holds_298 : decode cL_holds 298 = .ok (.aload_n 0, 1) := by decide +kernel
theorem dL_holds_299 : decode cL_holds 299 = .ok (.iload 17, 2) := by decide +kernel
theorem dL_holds_301 : decode cL_holds 301 = .ok (.aload_n 3, 1) := by decide +kernel
theorem dL_holds_302 : decode cL_holds 302 = .ok (.invokestatic 53, 3) := by decide +kernel
theorem dL_holds_305 : decode cL_holds 305 = .ok (.ifCond .ne 7, 3) := by decide +kernel
theorem dL_holds_308 : decode cL_holds 308 = .ok (.iconst 1, 1) := by decide +kernel
theorem dL_holds_309 : decode cL_holds 309 = .ok (.goto 4, 3) := by decide +kernel
theorem dL_holds_312 : decode cL_holds 312 = .ok (.iconst 0, 1) := by decide +kernel
theorem dL_holds_313 : decode cL_holds 313 = .ok (.ior, 1) := by decide +kernel
theorem dL_holds_314 : decode cL_holds 314 = .ok (.istore 16, 2) := by decide +kernel
theorem dL_holds_316 : decode cL_holds 316 = .ok (.iinc 17 1, 3) := by decide +kernel
theorem dL_holds_319 : decode cL_holds 319 = .ok (.goto (-85), 3) := by decide +kernel
theorem dL_holds_322 : decode cL_holds 322 = .ok (.iload 12, 2) := by decide +kernel
theorem dL_holds_324 : decode cL_holds 324 = .ok (.iload 15, 2) := by decide +kernel
theorem dL_holds_326 : decode cL_holds 326 = .ok (.iand, 1) := by decide +kernel
theorem dL_holds_327 : decode cL_holds 327 = .ok (.istore 12, 2) := by decide +kernel
theorem dL_holds_329 : decode cL_holds 329 = .ok (.iload 13, 2) := by decide +kernel
theorem dL_holds_331 : decode cL_holds 331 = .ok (.aload_n 0, 1) := by decide +kernel
theorem dL_holds_332 : decode cL_holds 332 = .ok (.iload 14, 2) := by decide +kernel
theorem dL_holds_334 : decode cL_holds 334 = .ok (.aload_n 3, 1) := by decide +kernel
theorem dL_holds_335 : decode cL_holds 335 = .ok (.invokestatic 49, 3) := by decide +kernel
theorem dL_holds_338 : decode cL_holds 338 = .ok (.ifCond .eq 12, 3) := by decide +kernel
theorem dL_holds_341 : decode cL_holds 341 = .ok (.iload 16, 2) := by decide +kernel
theorem dL_holds_343 : decode cL_holds 343 = .ok (.ifCond .ne 7, 3) := by decide +kernel
theorem dL_holds_346 : decode cL_holds 346 = .ok (.iconst 1, 1) := by decide +kernel
theorem dL_holds_347 : decode cL_holds 347 = .ok (.goto 4, 3) := by decide +kernel
theorem dL_holds_350 : decode cL_holds 350 = .ok (.iconst 0, 1) := by decide +kernel
theorem dL_holds_351 : decode cL_holds 351 = .ok (.ior, 1) := by decide +kernel
theorem dL_holds_352 : decode cL_holds 352 = .ok (.istore 13, 2) := by decide +kernel
theorem dL_holds_354 : decode cL_holds 354 = .ok (.iinc 14 1, 3) := by decide +kernel
theorem dL_holds_357 : decode cL_holds 357 = .ok (.goto (-161), 3) := by decide +kernel
theorem dL_holds_360 : decode cL_holds 360 = .ok (.iload_n 1, 1) := by decide +kernel
theorem dL_holds_361 : decode cL_holds 361 = .ok (.ifCond .ne 6, 3) := by decide +kernel
theorem dL_holds_364 : decode cL_holds 364 = .ok (.iload 8, 2) := by decide +kernel
theorem dL_holds_366 : decode cL_holds 366 = .ok (.ireturn, 1) := by decide +kernel
theorem dL_holds_367 : decode cL_holds 367 = .ok (.iload_n 1, 1) := by decide +kernel
theorem dL_holds_368 : decode cL_holds 368 = .ok (.iconst 1, 1) := by decide +kernel
theorem dL_holds_369 : decode cL_holds 369 = .ok (.if_icmp .ne 6, 3) := by decide +kernel
theorem dL_holds_372 : decode cL_holds 372 = .ok (.iload 9, 2) := by decide +kernel
theorem dL_holds_374 : decode cL_holds 374 = .ok (.ireturn, 1) := by decide +kernel
theorem dL_holds_375 : decode cL_holds 375 = .ok (.iload_n 1, 1) := by decide +kernel
theorem dL_holds_376 : decode cL_holds 376 = .ok (.iconst 2, 1) := by decide +kernel
theorem dL_holds_377 : decode cL_holds 377 = .ok (.if_icmp .ne 40, 3) := by decide +kernel
theorem dL_holds_380 : decode cL_holds 380 = .ok (.aload_n 3, 1) := by decide +kernel
theorem dL_holds_381 : decode cL_holds 381 = .ok (.iconst 0, 1) := by decide +kernel
theorem dL_holds_382 : decode cL_holds 382 = .ok (.iaload, 1) := by decide +kernel
theorem dL_holds_383 : decode cL_holds 383 = .ok (.iload_n 2, 1) := by decide +kernel
theorem dL_holds_384 : decode cL_holds 384 = .ok (.invokestatic 42, 3) := by decide +kernel
theorem dL_holds_387 : decode cL_holds 387 = .ok (.ifCond .ne 24, 3) := by decide +kernel
theorem dL_holds_390 : decode cL_holds 390 = .ok (.iload 10, 2) := by decide +kernel
theorem dL_holds_392 : decode cL_holds 392 = .ok (.ifCond .eq 23, 3) := by decide +kernel
theorem dL_holds_395 : decode cL_holds 395 = .ok (.aload_n 3, 1) := by decide +kernel
theorem dL_holds_396 : decode cL_holds 396 = .ok (.iconst 1, 1) := by decide +kernel
theorem dL_holds_397 : decode cL_holds 397 = .ok (.iaload, 1) := by decide +kernel
theorem dL_holds_398 : decode cL_holds 398 = .ok (.iload 5, 2) := by decide +kernel
theorem dL_holds_400 : decode cL_holds 400 = .ok (.invokestatic 42, 3) := by decide +kernel
theorem dL_holds_403 : decode cL_holds 403 = .ok (.ifCond .eq 12, 3) := by decide +kernel
theorem dL_holds_406 : decode cL_holds 406 = .ok (.iload 12, 2) := by decide +kernel
theorem dL_holds_408 : decode cL_holds 408 = .ok (.ifCond .eq 7, 3) := by decide +kernel
theorem dL_holds_411 : decode cL_holds 411 = .ok (.iconst 1, 1) := by decide +kernel
theorem dL_holds_412 : decode cL_holds 412 = .ok (.goto 4, 3) := by decide +kernel
theorem dL_holds_415 : decode cL_holds 415 = .ok (.iconst 0, 1) := by decide +kernel
theorem dL_holds_416 : decode cL_holds 416 = .ok (.ireturn, 1) := by decide +kernel
theorem dL_holds_417 : decode cL_holds 417 = .ok (.aload_n 3, 1) := by decide +kernel
theorem dL_holds_418 : decode cL_holds 418 = .ok (.iconst 1, 1) := by decide +kernel
theorem dL_holds_419 : decode cL_holds 419 = .ok (.iaload, 1) := by decide +kernel
theorem dL_holds_420 : decode cL_holds 420 = .ok (.iload_n 2, 1) := by decide +kernel
theorem dL_holds_421 : decode cL_holds 421 = .ok (.invokestatic 42, 3) := by decide +kernel
theorem dL_holds_424 : decode cL_holds 424 = .ok (.ifCond .eq 28, 3) := by decide +kernel
theorem dL_holds_427 : decode cL_holds 427 = .ok (.iload 11, 2) := by decide +kernel
theorem dL_holds_429 : decode cL_holds 429 = .ok (.ifCond .ne 19, 3) := by decide +kernel
theorem dL_holds_432 : decode cL_holds 432 = .ok (.aload_n 3, 1) := by decide +kernel
theorem dL_holds_433 : decode cL_holds 433 = .ok (.iconst 0, 1) := by decide +kernel
theorem dL_holds_434 : decode cL_holds 434 = .ok (.iaload, 1) := by decide +kernel
theorem dL_holds_435 : decode cL_holds 435 = .ok (.iload 5, 2) := by decide +kernel
theorem dL_holds_437 : decode cL_holds 437 = .ok (.invokestatic 42, 3) := by decide +kernel
theorem dL_holds_440 : decode cL_holds 440 = .ok (.ifCond .ne 8, 3) := by decide +kernel
theorem dL_holds_443 : decode cL_holds 443 = .ok (.iload 13, 2) := by decide +kernel
theorem dL_holds_445 : decode cL_holds 445 = .ok (.ifCond .eq 7, 3) := by decide +kernel
theorem dL_holds_448 : decode cL_holds 448 = .ok (.iconst 1, 1) := by decide +kernel
theorem dL_holds_449 : decode cL_holds 449 = .ok (.goto 4, 3) := by decide +kernel
theorem dL_holds_452 : decode cL_holds 452 = .ok (.iconst 0, 1) := by decide +kernel
theorem dL_holds_453 : decode cL_holds 453 = .ok (.ireturn, 1) := by decide +kernel
