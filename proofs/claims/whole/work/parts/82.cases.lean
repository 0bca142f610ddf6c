abbrev mL (nm : String) : MD := (⟨RL, nm, ""⟩, cL_law, 4, some .boolean)
theorem dL_law_0 : decode cL_law 0 = .ok (.new 7, 3) := by decide +kernel
theorem dL_law_3 : decode cL_law 3 = .ok (.dup, 1) := by decide +kernel
theorem dL_law_4 : decode cL_law 4 = .ok (.invokespecial 9, 3) := by decide +kernel
theorem dL_law_7 : decode cL_law 7 = .ok (.astore_n 1, 1) := by decide +kernel
theorem dL_law_8 : decode cL_law 8 = .ok (.new 10, 3) := by decide +kernel
theorem dL_law_11 : decode cL_law 11 = .ok (.dup, 1) := by decide +kernel
theorem dL_law_12 : decode cL_law 12 = .ok (.invokespecial 12, 3) := by decide +kernel
theorem dL_law_15 : decode cL_law 15 = .ok (.astore_n 2, 1) := by decide +kernel
theorem dL_law_16 : decode cL_law 16 = .ok (.iconst 0, 1) := by decide +kernel
theorem dL_law_17 : decode cL_law 17 = .ok (.istore_n 3, 1) := by decide +kernel
theorem dL_law_18 : decode cL_law 18 = .ok (.iload_n 3, 1) := by decide +kernel
theorem dL_law_19 : decode cL_law 19 = .ok (.aload_n 0, 1) := by decide +kernel
theorem dL_law_20 : decode cL_law 20 = .ok (.arraylength, 1) := by decide +kernel
theorem dL_law_21 : decode cL_law 21 = .ok (.bipush 6, 2) := by decide +kernel
theorem dL_law_23 : decode cL_law 23 = .ok (.isub, 1) := by decide +kernel
theorem dL_law_24 : decode cL_law 24 = .ok (.if_icmp .gt 1302, 3) := by decide +kernel
theorem dL_law_27 : decode cL_law 27 = .ok (.aload_n 0, 1) := by decide +kernel
theorem dL_law_28 : decode cL_law 28 = .ok (.iload_n 3, 1) := by decide +kernel
theorem dL_law_29 : decode cL_law 29 = .ok (.iaload, 1) := by decide +kernel
theorem dL_law_30 : decode cL_law 30 = .ok (.bipush 63, 2) := by decide +kernel
theorem dL_law_32 : decode cL_law 32 = .ok (.iand, 1) := by decide +kernel
theorem dL_law_33 : decode cL_law 33 = .ok (.tableswitch 1287 0 33 #[151, 200, 233, 266, 315, 358, 391, 404, 447, 480, 533, 566, 599, 632, 665, 698, 721, 734, 778, 791, 824, 847, 870, 883, 926, 939, 952, 995, 1018, 1051, 1074, 1117, 1190, 1224], 151) := by decide +kernel
theorem dL_law_184 : decode cL_law 184 = .ok (.aload_n 1, 1) := by decide +kernel
theorem dL_law_185 : decode cL_law 185 = .ok (.aload_n 0, 1) := by decide +kernel
theorem dL_law_186 : decode cL_law 186 = .ok (.iload_n 3, 1) := by decide +kernel
theorem dL_law_187 : decode cL_law 187 = .ok (.iconst 1, 1) := by decide +kernel
theorem dL_law_188 : decode cL_law 188 = .ok (.iadd, 1) := by decide +kernel
theorem dL_law_189 : decode cL_law 189 = .ok (.iaload, 1) := by decide +kernel
theorem dL_law_190 : decode cL_law 190 = .ok (.aload_n 0, 1) := by decide +kernel
theorem dL_law_191 : decode cL_law 191 = .ok (.iload_n 3, 1) := by decide +kernel
theorem dL_law_192 : decode cL_law 192 = .ok (.iconst 2, 1) := by decide +kernel
theorem dL_law_193 : decode cL_law 193 = .ok (.iadd, 1) := by decide +kernel
theorem dL_law_194 : decode cL_law 194 = .ok (.iaload, 1) := by decide +kernel
theorem dL_law_195 : decode cL_law 195 = .ok (.ifCond .eq 7, 3) := by decide +kernel
theorem dL_law_198 : decode cL_law 198 = .ok (.iconst 1, 1) := by decide +kernel
theorem dL_law_199 : decode cL_law 199 = .ok (.goto 4, 3) := by decide +kernel
theorem dL_law_202 : decode cL_law 202 = .ok (.iconst 0, 1) := by decide +kernel
theorem dL_law_203 : decode cL_law 203 = .ok (.invokevirtual 13, 3) := by decide +kernel
theorem dL_law_206 : decode cL_law 206 = .ok (.aload_n 2, 1) := by decide +kernel
theorem dL_law_207 : decode cL_law 207 = .ok (.aload_n 0, 1) := by decide +kernel
theorem dL_law_208 : decode cL_law 208 = .ok (.iload_n 3, 1) := by decide +kernel
theorem dL_law_209 : decode cL_law 209 = .ok (.iconst 1, 1) := by decide +kernel
theorem dL_law_210 : decode cL_law 210 = .ok (.iadd, 1) := by decide +kernel
theorem dL_law_211 : decode cL_law 211 = .ok (.iaload, 1) := by decide +kernel
theorem dL_law_212 : decode cL_law 212 = .ok (.aload_n 0, 1) := by decide +kernel
theorem dL_law_213 : decode cL_law 213 = .ok (.iload_n 3, 1) := by decide +kernel
theorem dL_law_214 : decode cL_law 214 = .ok (.iconst 2, 1) := by decide +kernel
theorem dL_law_215 : decode cL_law 215 = .ok (.iadd, 1) := by decide +kernel
theorem dL_law_216 : decode cL_law 216 = .ok (.iaload, 1) := by decide +kernel
theorem dL_law_217 : decode cL_law 217 = .ok (.ifCond .eq 7, 3) := by decide +kernel
theorem dL_law_220 : decode cL_law 220 = .ok (.iconst 1, 1) := by decide +kernel
theorem dL_law_221 : decode cL_law 221 = .ok (.goto 4, 3) := by decide +kernel
theorem dL_law_224 : decode cL_law 224 = .ok (.iconst 0, 1) := by decide +kernel
theorem dL_law_225 : decode cL_law 225 = .ok (.invokevirtual 17, 3) := by decide +kernel
theorem dL_law_228 : decode cL_law 228 = .ok (.if_icmp .eq 1092, 3) := by decide +kernel
theorem dL_law_231 : decode cL_law 231 = .ok (.iconst 0, 1) := by decide +kernel
theorem dL_law_232 : decode cL_law 232 = .ok (.ireturn, 1) := by decide +kernel
theorem dL_law_233 : decode cL_law 233 = .ok (.aload_n 1, 1) := by decide +kernel
theorem dL_law_234 : decode cL_law 234 = .ok (.aload_n 0, 1) := by decide +kernel
theorem dL_law_235 : decode cL_law 235 = .ok (.iload_n 3, 1) := by decide +kernel
theorem dL_law_236 : decode cL_law 236 = .ok (.iconst 1, 1) := by decide +kernel
theorem dL_law_237 : decode cL_law 237 = .ok (.iadd, 1) := by decide +kernel
theorem dL_law_238 : decode cL_law 238 = .ok (.iaload, 1) := by decide +kernel
theorem dL_law_239 : decode cL_law 239 = .ok (.aload_n 0, 1) := by decide +kernel
theorem dL_law_240 : decode cL_law 240 = .ok (.iload_n 3, 1) := by decide +kernel
theorem dL_law_241 : decode cL_law 241 = .ok (.iconst 2, 1) := by decide +kernel
theorem dL_law_242 : decode cL_law 242 = .ok (.iadd, 1) := by decide +kernel
theorem dL_law_243 : decode cL_law 243 = .ok (.iaload, 1) := by decide +kernel
theorem dL_law_244 : decode cL_law 244 = .ok (.invokevirtual 18, 3) := by decide +kernel
theorem dL_law_247 : decode cL_law 247 = .ok (.aload_n 2, 1) := by decide +kernel
theorem dL_law_248 : decode cL_law 248 = .ok (.aload_n 0, 1) := by decide +kernel
theorem dL_law_249 : decode cL_law 249 = .ok (.iload_n 3, 1) := by decide +kernel
theorem dL_law_250 : decode cL_law 250 = .ok (.iconst 1, 1) := by decide +kernel
theorem dL_law_251 : decode cL_law 251 = .ok (.iadd, 1) := by decide +kernel
theorem dL_law_252 : decode cL_law 252 = .ok (.iaload, 1) := by decide +kernel
theorem dL_law_253 : decode cL_law 253 = .ok (.aload_n 0, 1) := by decide +kernel
theorem dL_law_254 : decode cL_law 254 = .ok (.iload_n 3, 1) := by decide +kernel
theorem dL_law_255 : decode cL_law 255 = .ok (.iconst 2, 1) := by decide +kernel
theorem dL_law_256 : decode cL_law 256 = .ok (.iadd, 1) := by decide +kernel
theorem dL_law_257 : decode cL_law 257 = .ok (.iaload, 1) := by decide +kernel
theorem dL_law_258 : decode cL_law 258 = .ok (.invokevirtual 22, 3) := by decide +kernel
theorem dL_law_261 : decode cL_law 261 = .ok (.if_icmp .eq 1059, 3) := by decide +kernel
theorem dL_law_264 : decode cL_law 264 = .ok (.iconst 0, 1) := by decide +kernel
theorem dL_law_265 : decode cL_law 265 = .ok (.ireturn, 1) := by decide +kernel
theorem dL_law_266 : decode cL_law 266 = .ok (.aload_n 1, 1) := by decide +kernel
theorem dL_law_267 : decode cL_law 267 = .ok (.aload_n 0, 1) := by decide +kernel
theorem dL_law_268 : decode cL_law 268 = .ok (.iload_n 3, 1) := by decide +kernel
theorem dL_law_269 : decode cL_law 269 = .ok (.iconst 1, 1) := by decide +kernel
theorem dL_law_270 : decode cL_law 270 = .ok (.iadd, 1) := by decide +kernel
theorem dL_law_271 : decode cL_law 271 = .ok (.iaload, 1) := by decide +kernel
theorem dL_law_272 : decode cL_law 272 = .ok (.aload_n 0, 1) := by decide +kernel
theorem dL_law_273 : decode cL_law 273 = .ok (.iload_n 3, 1) := by decide +kernel
theorem dL_law_274 : decode cL_law 274 = .ok (.iconst 2, 1) := by decide +kernel
theorem dL_law_275 : decode cL_law 275 = .ok (.iadd, 1) := by decide +kernel
theorem dL_law_276 : decode cL_law 276 = .ok (.iaload, 1) := by decide +kernel
theorem dL_law_277 : decode cL_law 277 = .ok (.invokevirtual 23, 3) := by decide +kernel
theorem dL_law_280 : decode cL_law 280 = .ok (.aload_n 2, 1) := by decide +kernel
theorem dL_law_281 : decode cL_law 281 = .ok (.aload_n 0, 1) := by decide +kernel
theorem dL_law_282 : decode cL_law 282 = .ok (.iload_n 3, 1) := by decide +kernel
theorem dL_law_283 : decode cL_law 283 = .ok (.iconst 1, 1) := by decide +kernel
theorem dL_law_284 : decode cL_law 284 = .ok (.iadd, 1) := by decide +kernel
theorem dL_law_285 : decode cL_law 285 = .ok (.iaload, 1) := by decide +kernel
theorem dL_law_286 : decode cL_law 286 = .ok (.aload_n 0, 1) := by decide +kernel
theorem dL_law_287 : decode cL_law 287 = .ok (.iload_n 3, 1) := by decide +kernel
theorem dL_law_288 : decode cL_law 288 = .ok (.iconst 2, 1) := by decide +kernel
theorem dL_law_289 : decode cL_law 289 = .ok (.iadd, 1) := by decide +kernel
theorem dL_law_290 : decode cL_law 290 = .ok (.iaload, 1) := by decide +kernel
theorem dL_law_291 : decode cL_law 291 = .ok (.invokevirtual 26, 3) := by decide +kernel
theorem dL_law_294 : decode cL_law 294 = .ok (.if_icmp .eq 1026, 3) := by decide +kernel
theorem dL_law_297 : decode cL_law 297 = .ok (.iconst 0, 1) := by decide +kernel
theorem dL_law_298 : decode cL_law 298 = .ok (.ireturn, 1) := by decide +kernel
theorem dL_law_299 : decode cL_law 299 = .ok (.aload_n 1, 1) := by decide +kernel
theorem dL_law_300 : decode cL_law 300 = .ok (.aload_n 0, 1) := by decide +kernel
theorem dL_law_301 : decode cL_law 301 = .ok (.iload_n 3, 1) := by decide +kernel
theorem dL_law_302 : decode cL_law 302 = .ok (.iconst 1, 1) := by decide +kernel
theorem dL_law_303 : decode cL_law 303 = .ok (.iadd, 1) := by decide +kernel
theorem dL_law_304 : decode cL_law 304 = .ok (.iaload, 1) := by decide +kernel
theorem dL_law_305 : decode cL_law 305 = .ok (.aload_n 0, 1) := by decide +kernel
theorem dL_law_306 : decode cL_law 306 = .ok (.iload_n 3, 1) := by decide +kernel
theorem dL_law_307 : decode cL_law 307 = .ok (.iconst 2, 1) := by decide +kernel
theorem dL_law_308 : decode cL_law 308 = .ok (.iadd, 1) := by decide +kernel
theorem dL_law_309 : decode cL_law 309 = .ok (.iaload, 1) := by decide +kernel
theorem dL_law_310 : decode cL_law 310 = .ok (.ifCond .eq 7, 3) := by decide +kernel
theorem dL_law_313 : decode cL_law 313 = .ok (.iconst 1, 1) := by decide +kernel
theorem dL_law_314 : decode cL_law 314 = .ok (.goto 4, 3) := by decide +kernel
theorem dL_law_317 : decode cL_law 317 = .ok (.iconst 0, 1) := by decide +kernel
theorem dL_law_318 : decode cL_law 318 = .ok (.invokevirtual 27, 3) := by decide +kernel
theorem dL_law_321 : decode cL_law 321 = .ok (.aload_n 2, 1) := by decide +kernel
theorem dL_law_322 : decode cL_law 322 = .ok (.aload_n 0, 1) := by decide +kernel
theorem dL_law_323 : decode cL_law 323 = .ok (.iload_n 3, 1) := by decide +kernel
theorem dL_law_324 : decode cL_law 324 = .ok (.iconst 1, 1) := by decide +kernel
theorem dL_law_325 : decode cL_law 325 = .ok (.iadd, 1) := by decide +kernel
theorem dL_law_326 : decode cL_law 326 = .ok (.iaload, 1) := by decide +kernel
theorem dL_law_327 : decode cL_law 327 = .ok (.aload_n 0, 1) := by decide +kernel
theorem dL_law_328 : decode cL_law 328 = .ok (.iload_n 3, 1) := by decide +kernel
theorem dL_law_329 : decode cL_law 329 = .ok (.iconst 2, 1) := by decide +kernel
theorem dL_law_330 : decode cL_law 330 = .ok (.iadd, 1) := by decide +kernel
theorem dL_law_331 : decode cL_law 331 = .ok (.iaload, 1) := by decide +kernel
theorem dL_law_332 : decode cL_law 332 = .ok (.ifCond .eq 7, 3) := by decide +kernel
theorem dL_law_335 : decode cL_law 335 = .ok (.iconst 1, 1) := by decide +kernel
theorem dL_law_336 : decode cL_law 336 = .ok (.goto 4, 3) := by decide +kernel
theorem dL_law_339 : decode cL_law 339 = .ok (.iconst 0, 1) := by decide +kernel
theorem dL_law_340 : decode cL_law 340 = .ok (.invokevirtual 30, 3) := by decide +kernel
theorem dL_law_343 : decode cL_law 343 = .ok (.if_icmp .eq 977, 3) := by decide +kernel
theorem dL_law_346 : decode cL_law 346 = .ok (.iconst 0, 1) := by decide +kernel
theorem dL_law_347 : decode cL_law 347 = .ok (.ireturn, 1) := by decide +kernel
theorem dL_law_348 : decode cL_law 348 = .ok (.aload_n 1, 1) := by decide +kernel
theorem dL_law_349 : decode cL_law 349 = .ok (.aload_n 0, 1) := by decide +kernel
theorem dL_law_350 : decode cL_law 350 = .ok (.iload_n 3, 1) := by decide +kernel
theorem dL_law_351 : decode cL_law 351 = .ok (.iconst 1, 1) := by decide +kernel
theorem dL_law_352 : decode cL_law 352 = .ok (.iadd, 1) := by decide +kernel
theorem dL_law_353 : decode cL_law 353 = .ok (.iaload, 1) := by decide +kernel
theorem dL_law_354 : decode cL_law 354 = .ok (.aload_n 0, 1) := by decide +kernel
theorem dL_law_355 : decode cL_law 355 = .ok (.iload_n 3, 1) := by decide +kernel
theorem dL_law_356 : decode cL_law 356 = .ok (.iconst 2, 1) := by decide +kernel
theorem dL_law_357 : decode cL_law 357 = .ok (.iadd, 1) := by decide +kernel
theorem dL_law_358 : decode cL_law 358 = .ok (.iaload, 1) := by decide +kernel
theorem dL_law_359 : decode cL_law 359 = .ok (.aload_n 0, 1) := by decide +kernel
theorem dL_law_360 : decode cL_law 360 = .ok (.iload_n 3, 1) := by decide +kernel
theorem dL_law_361 : decode cL_law 361 = .ok (.iconst 3, 1) := by decide +kernel
theorem dL_law_362 : decode cL_law 362 = .ok (.iadd, 1) := by decide +kernel
theorem dL_law_363 : decode cL_law 363 = .ok (.iaload, 1) := by decide +kernel
theorem dL_law_364 : decode cL_law 364 = .ok (.invokevirtual 31, 3) := by decide +kernel
theorem dL_law_367 : decode cL_law 367 = .ok (.aload_n 2, 1) := by decide +kernel
theorem dL_law_368 : decode cL_law 368 = .ok (.aload_n 0, 1) := by decide +kernel
theorem dL_law_369 : decode cL_law 369 = .ok (.iload_n 3, 1) := by decide +kernel
theorem dL_law_370 : decode cL_law 370 = .ok (.iconst 1, 1) := by decide +kernel
theorem dL_law_371 : decode cL_law 371 = .ok (.iadd, 1) := by decide +kernel
theorem dL_law_372 : decode cL_law 372 = .ok (.iaload, 1) := by decide +kernel
theorem dL_law_373 : decode cL_law 373 = .ok (.aload_n 0, 1) := by decide +kernel
theorem dL_law_374 : decode cL_law 374 = .ok (.iload_n 3, 1) := by decide +kernel
theorem dL_law_375 : decode cL_law 375 = .ok (.iconst 2, 1) := by decide +kernel
theorem dL_law_376 : decode cL_law 376 = .ok (.iadd, 1) := by decide +kernel
theorem dL_law_377 : decode cL_law 377 = .ok (.iaload, 1) := by decide +kernel
theorem dL_law_378 : decode cL_law 378 = .ok (.aload_n 0, 1) := by decide +kernel
theorem dL_law_379 : decode cL_law 379 = .ok (.iload_n 3, 1) := by decide +kernel
theorem dL_law_380 : decode cL_law 380 = .ok (.iconst 3, 1) := by decide +kernel
theorem dL_law_381 : decode cL_law 381 = .ok (.iadd, 1) := by decide +kernel
theorem dL_law_382 : decode cL_law 382 = .ok (.iaload, 1) := by decide +kernel
theorem dL_law_383 : decode cL_law 383 = .ok (.invokevirtual 35, 3) := by decide +kernel
theorem dL_law_386 : decode cL_law 386 = .ok (.if_icmp .eq 934, 3) := by decide +kernel
theorem dL_law_389 : decode cL_law 389 = .ok (.iconst 0, 1) := by decide +kernel
theorem dL_law_390 : decode cL_law 390 = .ok (.ireturn, 1) := by decide +kernel
theorem dL_law_391 : decode cL_law 391 = .ok (.aload_n 1, 1) := by decide +kernel
theorem dL_law_392 : decode cL_law 392 = .ok (.aload_n 0, 1) := by decide +kernel
theorem dL_law_393 : decode cL_law 393 = .ok (.iload_n 3, 1) := by decide +kernel
theorem dL_law_394 : decode cL_law 394 = .ok (.iconst 1, 1) := by decide +kernel
theorem dL_law_395 : decode cL_law 395 = .ok (.iadd, 1) := by decide +kernel
theorem dL_law_396 : decode cL_law 396 = .ok (.iaload, 1) := by decide +kernel
theorem dL_law_397 : decode cL_law 397 = .ok (.aload_n 0, 1) := by decide +kernel
theorem dL_law_398 : decode cL_law 398 = .ok (.iload_n 3, 1) := by decide +kernel
theorem dL_law_399 : decode cL_law 399 = .ok (.iconst 2, 1) := by decide +kernel
theorem dL_law_400 : decode cL_law 400 = .ok (.iadd, 1) := by decide +kernel
theorem dL_law_401 : decode cL_law 401 = .ok (.iaload, 1) := by decide +kernel
theorem dL_law_402 : decode cL_law 402 = .ok (.invokevirtual 36, 3) := by decide +kernel
theorem dL_law_405 : decode cL_law 405 = .ok (.aload_n 2, 1) := by decide +kernel
theorem dL_law_406 : decode cL_law 406 = .ok (.aload_n 0, 1) := by decide +kernel
theorem dL_law_407 : decode cL_law 407 = .ok (.iload_n 3, 1) := by decide +kernel
theorem dL_law_408 : decode cL_law 408 = .ok (.iconst 1, 1) := by decide +kernel
theorem dL_law_409 : decode cL_law 409 = .ok (.iadd, 1) := by decide +kernel
theorem dL_law_410 : decode cL_law 410 = .ok (.iaload, 1) := by decide +kernel
theorem dL_law_411 : decode cL_law 411 = .ok (.aload_n 0, 1) := by decide +kernel
theorem dL_law_412 : decode cL_law 412 = .ok (.iload_n 3, 1) := by decide +kernel
theorem dL_law_413 : decode cL_law 413 = .ok (.iconst 2, 1) := by decide +kernel
theorem dL_law_414 : decode cL_law 414 = .ok (.iadd, 1) := by decide +kernel
theorem dL_law_415 : decode cL_law 415 = .ok (.iaload, 1) := by decide +kernel
theorem dL_law_416 : decode cL_law 416 = .ok (.invokevirtual 39, 3) := by decide +kernel
theorem dL_law_419 : decode cL_law 419 = .ok (.if_icmp .eq 901, 3) := by decide +kernel
theorem dL_law_422 : decode cL_law 422 = .ok (.iconst 0, 1) := by decide +kernel
theorem dL_law_423 : decode cL_law 423 = .ok (.ireturn, 1) := by decide +kernel
theorem dL_law_424 : decode cL_law 424 = .ok (.aload_n 1, 1) := by decide +kernel
theorem dL_law_425 : decode cL_law 425 = .ok (.invokevirtual 40, 3) := by decide +kernel
theorem dL_law_428 : decode cL_law 428 = .ok (.aload_n 2, 1) := by decide +kernel
theorem dL_law_429 : decode cL_law 429 = .ok (.invokevirtual 44, 3) := by decide +kernel
theorem dL_law_432 : decode cL_law 432 = .ok (.if_icmp .eq 888, 3) := by decide +kernel
theorem dL_law_435 : decode cL_law 435 = .ok (.iconst 0, 1) := by decide +kernel
theorem dL_law_436 : decode cL_law 436 = .ok (.ireturn, 1) := by decide +kernel
theorem dL_law_437 : decode cL_law 437 = .ok (.aload_n 1, 1) := by decide +kernel
theorem dL_law_438 : decode cL_law 438 = .ok (.aload_n 0, 1) := by decide +kernel
theorem dL_law_439 : decode cL_law 439 = .ok (.iload_n 3, 1) := by decide +kernel
theorem dL_law_440 : decode cL_law 440 = .ok (.iconst 1, 1) := by decide +kernel
theorem dL_law_441 : decode cL_law 441 = .ok (.iadd, 1) := by decide +kernel
theorem dL_law_442 : decode cL_law 442 = .ok (.iaload, 1) := by decide +kernel
theorem dL_law_443 : decode cL_law 443 = .ok (.aload_n 0, 1) := by decide +kernel
theorem dL_law_444 : decode cL_law 444 = .ok (.iload_n 3, 1) := by decide +kernel
theorem dL_law_445 : decode cL_law 445 = .ok (.iconst 2, 1) := by decide +kernel
theorem dL_law_446 : decode cL_law 446 = .ok (.iadd, 1) := by decide +kernel
theorem dL_law_447 : decode cL_law 447 = .ok (.iaload, 1) := by decide +kernel
theorem dL_law_448 : decode cL_law 448 = .ok (.aload_n 0, 1) := by decide +kernel
theorem dL_law_449 : decode cL_law 449 = .ok (.iload_n 3, 1) := by decide +kernel
theorem dL_law_450 : decode cL_law 450 = .ok (.iconst 3, 1) := by decide +kernel
theorem dL_law_451 : decode cL_law 451 = .ok (.iadd, 1) := by decide +kernel
theorem dL_law_452 : decode cL_law 452 = .ok (.iaload, 1) := by decide +kernel
theorem dL_law_453 : decode cL_law 453 = .ok (.invokevirtual 45, 3) := by decide +kernel
theorem dL_law_456 : decode cL_law 456 = .ok (.aload_n 2, 1) := by decide +kernel
theorem dL_law_457 : decode cL_law 457 = .ok (.aload_n 0, 1) := by decide +kernel
theorem dL_law_458 : decode cL_law 458 = .ok (.iload_n 3, 1) := by decide +kernel
theorem dL_law_459 : decode cL_law 459 = .ok (.iconst 1, 1) := by decide +kernel
theorem dL_law_460 : decode cL_law 460 = .ok (.iadd, 1) := by decide +kernel
theorem dL_law_461 : decode cL_law 461 = .ok (.iaload, 1) := by decide +kernel
theorem dL_law_462 : decode cL_law 462 = .ok (.aload_n 0, 1) := by decide +kernel
theorem dL_law_463 : decode cL_law 463 = .ok (.iload_n 3, 1) := by decide +kernel
theorem dL_law_464 : decode cL_law 464 = .ok (.iconst 2, 1) := by decide +kernel
theorem dL_law_465 : decode cL_law 465 = .ok (.iadd, 1) := by decide +kernel
theorem dL_law_466 : decode cL_law 466 = .ok (.iaload, 1) := by decide +kernel
theorem dL_law_467 : decode cL_law 467 = .ok (.aload_n 0, 1) := by decide +kernel
theorem dL_law_468 : decode cL_law 468 = .ok (.iload_n 3, 1) := by decide +kernel
theorem dL_law_469 : decode cL_law 469 = .ok (.iconst 3, 1) := by decide +kernel
theorem dL_law_470 : decode cL_law 470 = .ok (.iadd, 1) := by decide +kernel
theorem dL_law_471 : decode cL_law 471 = .ok (.iaload, 1) := by decide +kernel
theorem dL_law_472 : decode cL_law 472 = .ok (.invokevirtual 48, 3) := by decide +kernel
theorem dL_law_475 : decode cL_law 475 = .ok (.if_icmp .eq 845, 3) := by decide +kernel
theorem dL_law_478 : decode cL_law 478 = .ok (.iconst 0, 1) := by decide +kernel
theorem dL_law_479 : decode cL_law 479 = .ok (.ireturn, 1) := by decide +kernel
theorem dL_law_480 : decode cL_law 480 = .ok (.aload_n 1, 1) := by decide +kernel
theorem dL_law_481 : decode cL_law 481 = .ok (.aload_n 0, 1) := by decide +kernel
theorem dL_law_482 : decode cL_law 482 = .ok (.iload_n 3, 1) := by decide +kernel
theorem dL_law_483 : decode cL_law 483 = .ok (.iconst 1, 1) := by decide +kernel
theorem dL_law_484 : decode cL_law 484 = .ok (.iadd, 1) := by decide +kernel
theorem dL_law_485 : decode cL_law 485 = .ok (.iaload, 1) := by decide +kernel
theorem dL_law_486 : decode cL_law 486 = .ok (.aload_n 0, 1) := by decide +kernel
theorem dL_law_487 : decode cL_law 487 = .ok (.iload_n 3, 1) := by decide +kernel
theorem dL_law_488 : decode cL_law 488 = .ok (.iconst 2, 1) := by decide +kernel
theorem dL_law_489 : decode cL_law 489 = .ok (.iadd, 1) := by decide +kernel
theorem dL_law_490 : decode cL_law 490 = .ok (.iaload, 1) := by decide +kernel
theorem dL_law_491 : decode cL_law 491 = .ok (.invokevirtual 49, 3) := by decide +kernel
theorem dL_law_494 : decode cL_law 494 = .ok (.aload_n 2, 1) := by decide +kernel
theorem dL_law_495 : decode cL_law 495 = .ok (.aload_n 0, 1) := by decide +kernel
theorem dL_law_496 : decode cL_law 496 = .ok (.iload_n 3, 1) := by decide +kernel
theorem dL_law_497 : decode cL_law 497 = .ok (.iconst 1, 1) := by decide +kernel
theorem dL_law_498 : decode cL_law 498 = .ok (.iadd, 1) := by decide +kernel
theorem dL_law_499 : decode cL_law 499 = .ok (.iaload, 1) := by decide +kernel
theorem dL_law_500 : decode cL_law 500 = .ok (.aload_n 0, 1) := by decide +kernel
theorem dL_law_501 : decode cL_law 501 = .ok (.iload_n 3, 1) := by decide +kernel
theorem dL_law_502 : decode cL_law 502 = .ok (.iconst 2, 1) := by decide +kernel
theorem dL_law_503 : decode cL_law 503 = .ok (.iadd, 1) := by decide +kernel
theorem dL_law_504 : decode cL_law 504 = .ok (.iaload, 1) := by decide +kernel
theorem dL_law_505 : decode cL_law 505 = .ok (.invokevirtual 52, 3) := by decide +kernel
theorem dL_law_508 : decode cL_law 508 = .ok (.if_icmp .eq 812, 3) := by decide +kernel
theorem dL_law_511 : decode cL_law 511 = .ok (.iconst 0, 1) := by decide +kernel
theorem dL_law_512 : decode cL_law 512 = .ok (.ireturn, 1) := by decide +kernel
theorem dL_law_513 : decode cL_law 513 = .ok (.aload_n 1, 1) := by decide +kernel
theorem dL_law_514 : decode cL_law 514 = .ok (.aload_n 0, 1) := by decide +kernel
theorem dL_law_515 : decode cL_law 515 = .ok (.iload_n 3, 1) := by decide +kernel
theorem dL_law_516 : decode cL_law 516 = .ok (.iconst 1, 1) := by decide +kernel
theorem dL_law_517 : decode cL_law 517 = .ok (.iadd, 1) := by decide +kernel
theorem dL_law_518 : decode cL_law 518 = .ok (.iaload, 1) := by decide +kernel
theorem dL_law_519 : decode cL_law 519 = .ok (.aload_n 0, 1) := by decide +kernel
theorem dL_law_520 : decode cL_law 520 = .ok (.iload_n 3, 1) := by decide +kernel
theorem dL_law_521 : decode cL_law 521 = .ok (.iconst 2, 1) := by decide +kernel
theorem dL_law_522 : decode cL_law 522 = .ok (.iadd, 1) := by decide +kernel
theorem dL_law_523 : decode cL_law 523 = .ok (.iaload, 1) := by decide +kernel
theorem dL_law_524 : decode cL_law 524 = .ok (.aload_n 0, 1) := by decide +kernel
theorem dL_law_525 : decode cL_law 525 = .ok (.iload_n 3, 1) := by decide +kernel
theorem dL_law_526 : decode cL_law 526 = .ok (.iconst 3, 1) := by decide +kernel
theorem dL_law_527 : decode cL_law 527 = .ok (.iadd, 1) := by decide +kernel
theorem dL_law_528 : decode cL_law 528 = .ok (.iaload, 1) := by decide +kernel
theorem dL_law_529 : decode cL_law 529 = .ok (.aload_n 0, 1) := by decide +kernel
theorem dL_law_530 : decode cL_law 530 = .ok (.iload_n 3, 1) := by decide +kernel
theorem dL_law_531 : decode cL_law 531 = .ok (.iconst 4, 1) := by decide +kernel
theorem dL_law_532 : decode cL_law 532 = .ok (.iadd, 1) := by decide +kernel
theorem dL_law_533 : decode cL_law 533 = .ok (.iaload, 1) := by decide +kernel
theorem dL_law_534 : decode cL_law 534 = .ok (.invokevirtual 53, 3) := by decide +kernel
theorem dL_law_537 : decode cL_law 537 = .ok (.aload_n 2, 1) := by decide +kernel
theorem dL_law_538 : decode cL_law 538 = .ok (.aload_n 0, 1) := by decide +kernel
theorem dL_law_539 : decode cL_law 539 = .ok (.iload_n 3, 1) := by decide +kernel
theorem dL_law_540 : decode cL_law 540 = .ok (.iconst 1, 1) := by decide +kernel
theorem dL_law_541 : decode cL_law 541 = .ok (.iadd, 1) := by decide +kernel
theorem dL_law_542 : decode cL_law 542 = .ok (.iaload, 1) := by decide +kernel
theorem dL_law_543 : decode cL_law 543 = .ok (.aload_n 0, 1) := by decide +kernel
theorem dL_law_544 : decode cL_law 544 = .ok (.iload_n 3, 1) := by decide +kernel
theorem dL_law_545 : decode cL_law 545 = .ok (.iconst 2, 1) := by decide +kernel
theorem dL_law_546 : decode cL_law 546 = .ok (.iadd, 1) := by decide +kernel
theorem dL_law_547 : decode cL_law 547 = .ok (.iaload, 1) := by decide +kernel
theorem dL_law_548 : decode cL_law 548 = .ok (.aload_n 0, 1) := by decide +kernel
theorem dL_law_549 : decode cL_law 549 = .ok (.iload_n 3, 1) := by decide +kernel
theorem dL_law_550 : decode cL_law 550 = .ok (.iconst 3, 1) := by decide +kernel
theorem dL_law_551 : decode cL_law 551 = .ok (.iadd, 1) := by decide +kernel
theorem dL_law_552 : decode cL_law 552 = .ok (.iaload, 1) := by decide +kernel
theorem dL_law_553 : decode cL_law 553 = .ok (.aload_n 0, 1) := by decide +kernel
theorem dL_law_554 : decode cL_law 554 = .ok (.iload_n 3, 1) := by decide +kernel
theorem dL_law_555 : decode cL_law 555 = .ok (.iconst 4, 1) := by decide +kernel
theorem dL_law_556 : decode cL_law 556 = .ok (.iadd, 1) := by decide +kernel
theorem dL_law_557 : decode cL_law 557 = .ok (.iaload, 1) := by decide +kernel
theorem dL_law_558 : decode cL_law 558 = .ok (.invokevirtual 57, 3) := by decide +kernel
theorem dL_law_561 : decode cL_law 561 = .ok (.if_icmp .eq 759, 3) := by decide +kernel
theorem dL_law_564 : decode cL_law 564 = .ok (.iconst 0, 1) := by decide +kernel
theorem dL_law_565 : decode cL_law 565 = .ok (.ireturn, 1) := by decide +kernel
theorem dL_law_566 : decode cL_law 566 = .ok (.aload_n 1, 1) := by decide +kernel
theorem dL_law_567 : decode cL_law 567 = .ok (.aload_n 0, 1) := by decide +kernel
theorem dL_law_568 : decode cL_law 568 = .ok (.iload_n 3, 1) := by decide +kernel
theorem dL_law_569 : decode cL_law 569 = .ok (.iconst 1, 1) := by decide +kernel
theorem dL_law_570 : decode cL_law 570 = .ok (.iadd, 1) := by decide +kernel
theorem dL_law_571 : decode cL_law 571 = .ok (.iaload, 1) := by decide +kernel
theorem dL_law_572 : decode cL_law 572 = .ok (.aload_n 0, 1) := by decide +kernel
theorem dL_law_573 : decode cL_law 573 = .ok (.iload_n 3, 1) := by decide +kernel
theorem dL_law_574 : decode cL_law 574 = .ok (.iconst 2, 1) := by decide +kernel
theorem dL_law_575 : decode cL_law 575 = .ok (.iadd, 1) := by decide +kernel
theorem dL_law_576 : decode cL_law 576 = .ok (.iaload, 1) := by decide +kernel
theorem dL_law_577 : decode cL_law 577 = .ok (.invokevirtual 58, 3) := by decide +kernel
theorem dL_law_580 : decode cL_law 580 = .ok (.aload_n 2, 1) := by decide +kernel
theorem dL_law_581 : decode cL_law 581 = .ok (.aload_n 0, 1) := by decide +kernel
theorem dL_law_582 : decode cL_law 582 = .ok (.iload_n 3, 1) := by decide +kernel
theorem dL_law_583 : decode cL_law 583 = .ok (.iconst 1, 1) := by decide +kernel
theorem dL_law_584 : decode cL_law 584 = .ok (.iadd, 1) := by decide +kernel
theorem dL_law_585 : decode cL_law 585 = .ok (.iaload, 1) := by decide +kernel
theorem dL_law_586 : decode cL_law 586 = .ok (.aload_n 0, 1) := by decide +kernel
theorem dL_law_587 : decode cL_law 587 = .ok (.iload_n 3, 1) := by decide +kernel
theorem dL_law_588 : decode cL_law 588 = .ok (.iconst 2, 1) := by decide +kernel
theorem dL_law_589 : decode cL_law 589 = .ok (.iadd, 1) := by decide +kernel
theorem dL_law_590 : decode cL_law 590 = .ok (.iaload, 1) := by decide +kernel
theorem dL_law_591 : decode cL_law 591 = .ok (.invokevirtual 61, 3) := by decide +kernel
theorem dL_law_594 : decode cL_law 594 = .ok (.if_icmp .eq 726, 3) := by decide +kernel
theorem dL_law_597 : decode cL_law 597 = .ok (.iconst 0, 1) := by decide +kernel
theorem dL_law_598 : decode cL_law 598 = .ok (.ireturn, 1) := by decide +kernel
theorem dL_law_599 : decode cL_law 599 = .ok (.aload_n 1, 1) := by decide +kernel
theorem dL_law_600 : decode cL_law 600 = .ok (.aload_n 0, 1) := by decide +kernel
theorem dL_law_601 : decode cL_law 601 = .ok (.iload_n 3, 1) := by decide +kernel
theorem dL_law_602 : decode cL_law 602 = .ok (.iconst 1, 1) := by decide +kernel
theorem dL_law_603 : decode cL_law 603 = .ok (.iadd, 1) := by decide +kernel
theorem dL_law_604 : decode cL_law 604 = .ok (.iaload, 1) := by decide +kernel
theorem dL_law_605 : decode cL_law 605 = .ok (.aload_n 0, 1) := by decide +kernel
theorem dL_law_606 : decode cL_law 606 = .ok (.iload_n 3, 1) := by decide +kernel
theorem dL_law_607 : decode cL_law 607 = .ok (.iconst 2, 1) := by decide +kernel
theorem dL_law_608 : decode cL_law 608 = .ok (.iadd, 1) := by decide +kernel
theorem dL_law_609 : decode cL_law 609 = .ok (.iaload, 1) := by decide +kernel
theorem dL_law_610 : decode cL_law 610 = .ok (.invokevirtual 62, 3) := by decide +kernel
theorem dL_law_613 : decode cL_law 613 = .ok (.aload_n 2, 1) := by decide +kernel
theorem dL_law_614 : decode cL_law 614 = .ok (.aload_n 0, 1) := by decide +kernel
theorem dL_law_615 : decode cL_law 615 = .ok (.iload_n 3, 1) := by decide +kernel
theorem dL_law_616 : decode cL_law 616 = .ok (.iconst 1, 1) := by decide +kernel
theorem dL_law_617 : decode cL_law 617 = .ok (.iadd, 1) := by decide +kernel
theorem dL_law_618 : decode cL_law 618 = .ok (.iaload, 1) := by decide +kernel
theorem dL_law_619 : decode cL_law 619 = .ok (.aload_n 0, 1) := by decide +kernel
theorem dL_law_620 : decode cL_law 620 = .ok (.iload_n 3, 1) := by decide +kernel
theorem dL_law_621 : decode cL_law 621 = .ok (.iconst 2, 1) := by decide +kernel
theorem dL_law_622 : decode cL_law 622 = .ok (.iadd, 1) := by decide +kernel
theorem dL_law_623 : decode cL_law 623 = .ok (.iaload, 1) := by decide +kernel
theorem dL_law_624 : decode cL_law 624 = .ok (.invokevirtual 65, 3) := by decide +kernel
theorem dL_law_627 : decode cL_law 627 = .ok (.if_icmp .eq 693, 3) := by decide +kernel
theorem dL_law_630 : decode cL_law 630 = .ok (.iconst 0, 1) := by decide +kernel
theorem dL_law_631 : decode cL_law 631 = .ok (.ireturn, 1) := by decide +kernel
theorem dL_law_632 : decode cL_law 632 = .ok (.aload_n 1, 1) := by decide +kernel
theorem dL_law_633 : decode cL_law 633 = .ok (.aload_n 0, 1) := by decide +kernel
theorem dL_law_634 : decode cL_law 634 = .ok (.iload_n 3, 1) := by decide +kernel
theorem dL_law_635 : decode cL_law 635 = .ok (.iconst 1, 1) := by decide +kernel
theorem dL_law_636 : decode cL_law 636 = .ok (.iadd, 1) := by decide +kernel
theorem dL_law_637 : decode cL_law 637 = .ok (.iaload, 1) := by decide +kernel
theorem dL_law_638 : decode cL_law 638 = .ok (.aload_n 0, 1) := by decide +kernel
theorem dL_law_639 : decode cL_law 639 = .ok (.iload_n 3, 1) := by decide +kernel
theorem dL_law_640 : decode cL_law 640 = .ok (.iconst 2, 1) := by decide +kernel
theorem dL_law_641 : decode cL_law 641 = .ok (.iadd, 1) := by decide +kernel
theorem dL_law_642 : decode cL_law 642 = .ok (.iaload, 1) := by decide +kernel
theorem dL_law_643 : decode cL_law 643 = .ok (.invokevirtual 66, 3) := by decide +kernel
theorem dL_law_646 : decode cL_law 646 = .ok (.aload_n 2, 1) := by decide +kernel
theorem dL_law_647 : decode cL_law 647 = .ok (.aload_n 0, 1) := by decide +kernel
theorem dL_law_648 : decode cL_law 648 = .ok (.iload_n 3, 1) := by decide +kernel
theorem dL_law_649 : decode cL_law 649 = .ok (.iconst 1, 1) := by decide +kernel
theorem dL_law_650 : decode cL_law 650 = .ok (.iadd, 1) := by decide +kernel
theorem dL_law_651 : decode cL_law 651 = .ok (.iaload, 1) := by decide +kernel
theorem dL_law_652 : decode cL_law 652 = .ok (.aload_n 0, 1) := by decide +kernel
theorem dL_law_653 : decode cL_law 653 = .ok (.iload_n 3, 1) := by decide +kernel
theorem dL_law_654 : decode cL_law 654 = .ok (.iconst 2, 1) := by decide +kernel
theorem dL_law_655 : decode cL_law 655 = .ok (.iadd, 1) := by decide +kernel
theorem dL_law_656 : decode cL_law 656 = .ok (.iaload, 1) := by decide +kernel
theorem dL_law_657 : decode cL_law 657 = .ok (.invokevirtual 69, 3) := by decide +kernel
theorem dL_law_660 : decode cL_law 660 = .ok (.if_icmp .eq 660, 3) := by decide +kernel
theorem dL_law_663 : decode cL_law 663 = .ok (.iconst 0, 1) := by decide +kernel
theorem dL_law_664 : decode cL_law 664 = .ok (.ireturn, 1) := by decide +kernel
theorem dL_law_665 : decode cL_law 665 = .ok (.aload_n 1, 1) := by decide +kernel
theorem dL_law_666 : decode cL_law 666 = .ok (.aload_n 0, 1) := by decide +kernel
theorem dL_law_667 : decode cL_law 667 = .ok (.iload_n 3, 1) := by decide +kernel
theorem dL_law_668 : decode cL_law 668 = .ok (.iconst 1, 1) := by decide +kernel
theorem dL_law_669 : decode cL_law 669 = .ok (.iadd, 1) := by decide +kernel
theorem dL_law_670 : decode cL_law 670 = .ok (.iaload, 1) := by decide +kernel
theorem dL_law_671 : decode cL_law 671 = .ok (.aload_n 0, 1) := by decide +kernel
theorem dL_law_672 : decode cL_law 672 = .ok (.iload_n 3, 1) := by decide +kernel
theorem dL_law_673 : decode cL_law 673 = .ok (.iconst 2, 1) := by decide +kernel
theorem dL_law_674 : decode cL_law 674 = .ok (.iadd, 1) := by decide +kernel
theorem dL_law_675 : decode cL_law 675 = .ok (.iaload, 1) := by decide +kernel
theorem dL_law_676 : decode cL_law 676 = .ok (.invokevirtual 70, 3) := by decide +kernel
theorem dL_law_679 : decode cL_law 679 = .ok (.aload_n 2, 1) := by decide +kernel
theorem dL_law_680 : decode cL_law 680 = .ok (.aload_n 0, 1) := by decide +kernel
theorem dL_law_681 : decode cL_law 681 = .ok (.iload_n 3, 1) := by decide +kernel
theorem dL_law_682 : decode cL_law 682 = .ok (.iconst 1, 1) := by decide +kernel
theorem dL_law_683 : decode cL_law 683 = .ok (.iadd, 1) := by decide +kernel
theorem dL_law_684 : decode cL_law 684 = .ok (.iaload, 1) := by decide +kernel
theorem dL_law_685 : decode cL_law 685 = .ok (.aload_n 0, 1) := by decide +kernel
theorem dL_law_686 : decode cL_law 686 = .ok (.iload_n 3, 1) := by decide +kernel
theorem dL_law_687 : decode cL_law 687 = .ok (.iconst 2, 1) := by decide +kernel
theorem dL_law_688 : decode cL_law 688 = .ok (.iadd, 1) := by decide +kernel
theorem dL_law_689 : decode cL_law 689 = .ok (.iaload, 1) := by decide +kernel
theorem dL_law_690 : decode cL_law 690 = .ok (.invokevirtual 73, 3) := by decide +kernel
theorem dL_law_693 : decode cL_law 693 = .ok (.if_icmp .eq 627, 3) := by decide +kernel
theorem dL_law_696 : decode cL_law 696 = .ok (.iconst 0, 1) := by decide +kernel
theorem dL_law_697 : decode cL_law 697 = .ok (.ireturn, 1) := by decide +kernel
theorem dL_law_698 : decode cL_law 698 = .ok (.aload_n 1, 1) := by decide +kernel
theorem dL_law_699 : decode cL_law 699 = .ok (.aload_n 0, 1) := by decide +kernel
theorem dL_law_700 : decode cL_law 700 = .ok (.iload_n 3, 1) := by decide +kernel
theorem dL_law_701 : decode cL_law 701 = .ok (.iconst 1, 1) := by decide +kernel
theorem dL_law_702 : decode cL_law 702 = .ok (.iadd, 1) := by decide +kernel
theorem dL_law_703 : decode cL_law 703 = .ok (.iaload, 1) := by decide +kernel
theorem dL_law_704 : decode cL_law 704 = .ok (.aload_n 0, 1) := by decide +kernel
theorem dL_law_705 : decode cL_law 705 = .ok (.iload_n 3, 1) := by decide +kernel
theorem dL_law_706 : decode cL_law 706 = .ok (.iconst 2, 1) := by decide +kernel
theorem dL_law_707 : decode cL_law 707 = .ok (.iadd, 1) := by decide +kernel
theorem dL_law_708 : decode cL_law 708 = .ok (.iaload, 1) := by decide +kernel
theorem dL_law_709 : decode cL_law 709 = .ok (.invokevirtual 74, 3) := by decide +kernel
theorem dL_law_712 : decode cL_law 712 = .ok (.aload_n 2, 1) := by decide +kernel
theorem dL_law_713 : decode cL_law 713 = .ok (.aload_n 0, 1) := by decide +kernel
theorem dL_law_714 : decode cL_law 714 = .ok (.iload_n 3, 1) := by decide +kernel
theorem dL_law_715 : decode cL_law 715 = .ok (.iconst 1, 1) := by decide +kernel
theorem dL_law_716 : decode cL_law 716 = .ok (.iadd, 1) := by decide +kernel
theorem dL_law_717 : decode cL_law 717 = .ok (.iaload, 1) := by decide +kernel
theorem dL_law_718 : decode cL_law 718 = .ok (.aload_n 0, 1) := by decide +kernel
theorem dL_law_719 : decode cL_law 719 = .ok (.iload_n 3, 1) := by decide +kernel
theorem dL_law_720 : decode cL_law 720 = .ok (.iconst 2, 1) := by decide +kernel
theorem dL_law_721 : decode cL_law 721 = .ok (.iadd, 1) := by decide +kernel
theorem dL_law_722 : decode cL_law 722 = .ok (.iaload, 1) := by decide +kernel
theorem dL_law_723 : decode cL_law 723 = .ok (.invokevirtual 77, 3) := by decide +kernel
theorem dL_law_726 : decode cL_law 726 = .ok (.if_icmp .eq 594, 3) := by decide +kernel
theorem dL_law_729 : decode cL_law 729 = .ok (.iconst 0, 1) := by decide +kernel
theorem dL_law_730 : decode cL_law 730 = .ok (.ireturn, 1) := by decide +kernel
theorem dL_law_731 : decode cL_law 731 = .ok (.aload_n 1, 1) := by decide +kernel
theorem dL_law_732 : decode cL_law 732 = .ok (.aload_n 0, 1) := by decide +kernel
theorem dL_law_733 : decode cL_law 733 = .ok (.iload_n 3, 1) := by decide +kernel
theorem dL_law_734 : decode cL_law 734 = .ok (.iconst 1, 1) := by decide +kernel
theorem dL_law_735 : decode cL_law 735 = .ok (.iadd, 1) := by decide +kernel
theorem dL_law_736 : decode cL_law 736 = .ok (.iaload, 1) := by decide +kernel
theorem dL_law_737 : decode cL_law 737 = .ok (.invokevirtual 78, 3) := by decide +kernel
theorem dL_law_740 : decode cL_law 740 = .ok (.aload_n 2, 1) := by decide +kernel
theorem dL_law_741 : decode cL_law 741 = .ok (.aload_n 0, 1) := by decide +kernel
theorem dL_law_742 : decode cL_law 742 = .ok (.iload_n 3, 1) := by decide +kernel
theorem dL_law_743 : decode cL_law 743 = .ok (.iconst 1, 1) := by decide +kernel
theorem dL_law_744 : decode cL_law 744 = .ok (.iadd, 1) := by decide +kernel
theorem dL_law_745 : decode cL_law 745 = .ok (.iaload, 1) := by decide +kernel
theorem dL_law_746 : decode cL_law 746 = .ok (.invokevirtual 82, 3) := by decide +kernel
theorem dL_law_749 : decode cL_law 749 = .ok (.if_icmp .eq 571, 3) := by decide +kernel
theorem dL_law_752 : decode cL_law 752 = .ok (.iconst 0, 1) := by decide +kernel
theorem dL_law_753 : decode cL_law 753 = .ok (.ireturn, 1) := by decide +kernel
theorem dL_law_754 : decode cL_law 754 = .ok (.aload_n 1, 1) := by decide +kernel
theorem dL_law_755 : decode cL_law 755 = .ok (.invokevirtual 83, 3) := by decide +kernel
theorem dL_law_758 : decode cL_law 758 = .ok (.aload_n 2, 1) := by decide +kernel
theorem dL_law_759 : decode cL_law 759 = .ok (.invokevirtual 86, 3) := by decide +kernel
theorem dL_law_762 : decode cL_law 762 = .ok (.if_icmp .eq 558, 3) := by decide +kernel
theorem dL_law_765 : decode cL_law 765 = .ok (.iconst 0, 1) := by decide +kernel
theorem dL_law_766 : decode cL_law 766 = .ok (.ireturn, 1) := by decide +kernel
theorem dL_law_767 : decode cL_law 767 = .ok (.aload_n 1, 1) := by decide +kernel
theorem dL_law_768 : decode cL_law 768 = .ok (.aload_n 0, 1) := by decide +kernel
theorem dL_law_769 : decode cL_law 769 = .ok (.iload_n 3, 1) := by decide +kernel
theorem dL_law_770 : decode cL_law 770 = .ok (.iconst 1, 1) := by decide +kernel
theorem dL_law_771 : decode cL_law 771 = .ok (.iadd, 1) := by decide +kernel
theorem dL_law_772 : decode cL_law 772 = .ok (.iaload, 1) := by decide +kernel
theorem dL_law_773 : decode cL_law 773 = .ok (.aload_n 0, 1) := by decide +kernel
theorem dL_law_774 : decode cL_law 774 = .ok (.iload_n 3, 1) := by decide +kernel
theorem dL_law_775 : decode cL_law 775 = .ok (.iconst 2, 1) := by decide +kernel
theorem dL_law_776 : decode cL_law 776 = .ok (.iadd, 1) := by decide +kernel
theorem dL_law_777 : decode cL_law 777 = .ok (.iaload, 1) := by decide +kernel
theorem dL_law_778 : decode cL_law 778 = .ok (.aload_n 0, 1) := by decide +kernel
theorem dL_law_779 : decode cL_law 779 = .ok (.iload_n 3, 1) := by decide +kernel
theorem dL_law_780 : decode cL_law 780 = .ok (.iconst 3, 1) := by decide +kernel
theorem dL_law_781 : decode cL_law 781 = .ok (.iadd, 1) := by decide +kernel
theorem dL_law_782 : decode cL_law 782 = .ok (.iaload, 1) := by decide +kernel
theorem dL_law_783 : decode cL_law 783 = .ok (.invokevirtual 87, 3) := by decide +kernel
theorem dL_law_786 : decode cL_law 786 = .ok (.aload_n 2, 1) := by decide +kernel
theorem dL_law_787 : decode cL_law 787 = .ok (.aload_n 0, 1) := by decide +kernel
theorem dL_law_788 : decode cL_law 788 = .ok (.iload_n 3, 1) := by decide +kernel
theorem dL_law_789 : decode cL_law 789 = .ok (.iconst 1, 1) := by decide +kernel
theorem dL_law_790 : decode cL_law 790 = .ok (.iadd, 1) := by decide +kernel
theorem dL_law_791 : decode cL_law 791 = .ok (.iaload, 1) := by decide +kernel
theorem dL_law_792 : decode cL_law 792 = .ok (.aload_n 0, 1) := by decide +kernel
theorem dL_law_793 : decode cL_law 793 = .ok (.iload_n 3, 1) := by decide +kernel
theorem dL_law_794 : decode cL_law 794 = .ok (.iconst 2, 1) := by decide +kernel
theorem dL_law_795 : decode cL_law 795 = .ok (.iadd, 1) := by decide +kernel
theorem dL_law_796 : decode cL_law 796 = .ok (.iaload, 1) := by decide +kernel
theorem dL_law_797 : decode cL_law 797 = .ok (.aload_n 0, 1) := by decide +kernel
theorem dL_law_798 : decode cL_law 798 = .ok (.iload_n 3, 1) := by decide +kernel
theorem dL_law_799 : decode cL_law 799 = .ok (.iconst 3, 1) := by decide +kernel
theorem dL_law_800 : decode cL_law 800 = .ok (.iadd, 1) := by decide +kernel
theorem dL_law_801 : decode cL_law 801 = .ok (.iaload, 1) := by decide +kernel
theorem dL_law_802 : decode cL_law 802 = .ok (.invokevirtual 91, 3) := by decide +kernel
theorem dL_law_805 : decode cL_law 805 = .ok (.lcmp, 1) := by decide +kernel
theorem dL_law_806 : decode cL_law 806 = .ok (.ifCond .eq 514, 3) := by decide +kernel
theorem dL_law_809 : decode cL_law 809 = .ok (.iconst 0, 1) := by decide +kernel
theorem dL_law_810 : decode cL_law 810 = .ok (.ireturn, 1) := by decide +kernel
theorem dL_law_811 : decode cL_law 811 = .ok (.aload_n 1, 1) := by decide +kernel
theorem dL_law_812 : decode cL_law 812 = .ok (.invokevirtual 92, 3) := by decide +kernel
theorem dL_law_815 : decode cL_law 815 = .ok (.aload_n 2, 1) := by decide +kernel
theorem dL_law_816 : decode cL_law 816 = .ok (.invokevirtual 95, 3) := by decide +kernel
theorem dL_law_819 : decode cL_law 819 = .ok (.if_icmp .eq 501, 3) := by decide +kernel
theorem dL_law_822 : decode cL_law 822 = .ok (.iconst 0, 1) := by decide +kernel
theorem dL_law_823 : decode cL_law 823 = .ok (.ireturn, 1) := by decide +kernel
theorem dL_law_824 : decode cL_law 824 = .ok (.aload_n 1, 1) := by decide +kernel
theorem dL_law_825 : decode cL_law 825 = .ok (.aload_n 0, 1) := by decide +kernel
theorem dL_law_826 : decode cL_law 826 = .ok (.iload_n 3, 1) := by decide +kernel
theorem dL_law_827 : decode cL_law 827 = .ok (.iconst 1, 1) := by decide +kernel
theorem dL_law_828 : decode cL_law 828 = .ok (.iadd, 1) := by decide +kernel
theorem dL_law_829 : decode cL_law 829 = .ok (.iaload, 1) := by decide +kernel
theorem dL_law_830 : decode cL_law 830 = .ok (.aload_n 0, 1) := by decide +kernel
theorem dL_law_831 : decode cL_law 831 = .ok (.iload_n 3, 1) := by decide +kernel
theorem dL_law_832 : decode cL_law 832 = .ok (.iconst 2, 1) := by decide +kernel
theorem dL_law_833 : decode cL_law 833 = .ok (.iadd, 1) := by decide +kernel
theorem dL_law_834 : decode cL_law 834 = .ok (.iaload, 1) := by decide +kernel
theorem dL_law_835 : decode cL_law 835 = .ok (.invokevirtual 96, 3) := by decide +kernel
theorem dL_law_838 : decode cL_law 838 = .ok (.aload_n 2, 1) := by decide +kernel
theorem dL_law_839 : decode cL_law 839 = .ok (.aload_n 0, 1) := by decide +kernel
theorem dL_law_840 : decode cL_law 840 = .ok (.iload_n 3, 1) := by decide +kernel
theorem dL_law_841 : decode cL_law 841 = .ok (.iconst 1, 1) := by decide +kernel
theorem dL_law_842 : decode cL_law 842 = .ok (.iadd, 1) := by decide +kernel
theorem dL_law_843 : decode cL_law 843 = .ok (.iaload, 1) := by decide +kernel
theorem dL_law_844 : decode cL_law 844 = .ok (.aload_n 0, 1) := by decide +kernel
theorem dL_law_845 : decode cL_law 845 = .ok (.iload_n 3, 1) := by decide +kernel
theorem dL_law_846 : decode cL_law 846 = .ok (.iconst 2, 1) := by decide +kernel
theorem dL_law_847 : decode cL_law 847 = .ok (.iadd, 1) := by decide +kernel
theorem dL_law_848 : decode cL_law 848 = .ok (.iaload, 1) := by decide +kernel
theorem dL_law_849 : decode cL_law 849 = .ok (.invokevirtual 99, 3) := by decide +kernel
theorem dL_law_852 : decode cL_law 852 = .ok (.if_icmp .eq 468, 3) := by decide +kernel
theorem dL_law_855 : decode cL_law 855 = .ok (.iconst 0, 1) := by decide +kernel
theorem dL_law_856 : decode cL_law 856 = .ok (.ireturn, 1) := by decide +kernel
theorem dL_law_857 : decode cL_law 857 = .ok (.aload_n 1, 1) := by decide +kernel
theorem dL_law_858 : decode cL_law 858 = .ok (.aload_n 0, 1) := by decide +kernel
theorem dL_law_859 : decode cL_law 859 = .ok (.iload_n 3, 1) := by decide +kernel
theorem dL_law_860 : decode cL_law 860 = .ok (.iconst 1, 1) := by decide +kernel
theorem dL_law_861 : decode cL_law 861 = .ok (.iadd, 1) := by decide +kernel
theorem dL_law_862 : decode cL_law 862 = .ok (.iaload, 1) := by decide +kernel
theorem dL_law_863 : decode cL_law 863 = .ok (.invokevirtual 100, 3) := by decide +kernel
theorem dL_law_866 : decode cL_law 866 = .ok (.aload_n 2, 1) := by decide +kernel
theorem dL_law_867 : decode cL_law 867 = .ok (.aload_n 0, 1) := by decide +kernel
theorem dL_law_868 : decode cL_law 868 = .ok (.iload_n 3, 1) := by decide +kernel
theorem dL_law_869 : decode cL_law 869 = .ok (.iconst 1, 1) := by decide +kernel
theorem dL_law_870 : decode cL_law 870 = .ok (.iadd, 1) := by decide +kernel
theorem dL_law_871 : decode cL_law 871 = .ok (.iaload, 1) := by decide +kernel
theorem dL_law_872 : decode cL_law 872 = .ok (.invokevirtual 103, 3) := by decide +kernel
theorem dL_law_875 : decode cL_law 875 = .ok (.if_icmp .eq 445, 3) := by decide +kernel
theorem dL_law_878 : decode cL_law 878 = .ok (.iconst 0, 1) := by decide +kernel
theorem dL_law_879 : decode cL_law 879 = .ok (.ireturn, 1) := by decide +kernel
theorem dL_law_880 : decode cL_law 880 = .ok (.aload_n 1, 1) := by decide +kernel
theorem dL_law_881 : decode cL_law 881 = .ok (.aload_n 0, 1) := by decide +kernel
theorem dL_law_882 : decode cL_law 882 = .ok (.iload_n 3, 1) := by decide +kernel
theorem dL_law_883 : decode cL_law 883 = .ok (.iconst 1, 1) := by decide +kernel
theorem dL_law_884 : decode cL_law 884 = .ok (.iadd, 1) := by decide +kernel
theorem dL_law_885 : decode cL_law 885 = .ok (.iaload, 1) := by decide +kernel
theorem dL_law_886 : decode cL_law 886 = .ok (.invokevirtual 104, 3) := by decide +kernel
theorem dL_law_889 : decode cL_law 889 = .ok (.aload_n 2, 1) := by decide +kernel
theorem dL_law_890 : decode cL_law 890 = .ok (.aload_n 0, 1) := by decide +kernel
theorem dL_law_891 : decode cL_law 891 = .ok (.iload_n 3, 1) := by decide +kernel
theorem dL_law_892 : decode cL_law 892 = .ok (.iconst 1, 1) := by decide +kernel
theorem dL_law_893 : decode cL_law 893 = .ok (.iadd, 1) := by decide +kernel
theorem dL_law_894 : decode cL_law 894 = .ok (.iaload, 1) := by decide +kernel
theorem dL_law_895 : decode cL_law 895 = .ok (.invokevirtual 107, 3) := by decide +kernel
theorem dL_law_898 : decode cL_law 898 = .ok (.if_icmp .eq 422, 3) := by decide +kernel
theorem dL_law_901 : decode cL_law 901 = .ok (.iconst 0, 1) := by decide +kernel
theorem dL_law_902 : decode cL_law 902 = .ok (.ireturn, 1) := by decide +kernel
theorem dL_law_903 : decode cL_law 903 = .ok (.aload_n 1, 1) := by decide +kernel
theorem dL_law_904 : decode cL_law 904 = .ok (.invokevirtual 108, 3) := by decide +kernel
theorem dL_law_907 : decode cL_law 907 = .ok (.aload_n 2, 1) := by decide +kernel
theorem dL_law_908 : decode cL_law 908 = .ok (.invokevirtual 111, 3) := by decide +kernel
theorem dL_law_911 : decode cL_law 911 = .ok (.if_icmp .eq 409, 3) := by decide +kernel
theorem dL_law_914 : decode cL_law 914 = .ok (.iconst 0, 1) := by decide +kernel
theorem dL_law_915 : decode cL_law 915 = .ok (.ireturn, 1) := by decide +kernel
theorem dL_law_916 : decode cL_law 916 = .ok (.aload_n 1, 1) := by decide +kernel
theorem dL_law_917 : decode cL_law 917 = .ok (.aload_n 0, 1) := by decide +kernel
theorem dL_law_918 : decode cL_law 918 = .ok (.iload_n 3, 1) := by decide +kernel
theorem dL_law_919 : decode cL_law 919 = .ok (.iconst 1, 1) := by decide +kernel
theorem dL_law_920 : decode cL_law 920 = .ok (.iadd, 1) := by decide +kernel
theorem dL_law_921 : decode cL_law 921 = .ok (.iaload, 1) := by decide +kernel
theorem dL_law_922 : decode cL_law 922 = .ok (.aload_n 0, 1) := by decide +kernel
theorem dL_law_923 : decode cL_law 923 = .ok (.iload_n 3, 1) := by decide +kernel
theorem dL_law_924 : decode cL_law 924 = .ok (.iconst 2, 1) := by decide +kernel
theorem dL_law_925 : decode cL_law 925 = .ok (.iadd, 1) := by decide +kernel
theorem dL_law_926 : decode cL_law 926 = .ok (.iaload, 1) := by decide +kernel
theorem dL_law_927 : decode cL_law 927 = .ok (.aload_n 0, 1) := by decide +kernel
theorem dL_law_928 : decode cL_law 928 = .ok (.iload_n 3, 1) := by decide +kernel
theorem dL_law_929 : decode cL_law 929 = .ok (.iconst 3, 1) := by decide +kernel
theorem dL_law_930 : decode cL_law 930 = .ok (.iadd, 1) := by decide +kernel
theorem dL_law_931 : decode cL_law 931 = .ok (.iaload, 1) := by decide +kernel
theorem dL_law_932 : decode cL_law 932 = .ok (.invokevirtual 112, 3) := by decide +kernel
theorem dL_law_935 : decode cL_law 935 = .ok (.aload_n 2, 1) := by decide +kernel
theorem dL_law_936 : decode cL_law 936 = .ok (.aload_n 0, 1) := by decide +kernel
theorem dL_law_937 : decode cL_law 937 = .ok (.iload_n 3, 1) := by decide +kernel
theorem dL_law_938 : decode cL_law 938 = .ok (.iconst 1, 1) := by decide +kernel
theorem dL_law_939 : decode cL_law 939 = .ok (.iadd, 1) := by decide +kernel
theorem dL_law_940 : decode cL_law 940 = .ok (.iaload, 1) := by decide +kernel
theorem dL_law_941 : decode cL_law 941 = .ok (.aload_n 0, 1) := by decide +kernel
theorem dL_law_942 : decode cL_law 942 = .ok (.iload_n 3, 1) := by decide +kernel
theorem dL_law_943 : decode cL_law 943 = .ok (.iconst 2, 1) := by decide +kernel
theorem dL_law_944 : decode cL_law 944 = .ok (.iadd, 1) := by decide +kernel
theorem dL_law_945 : decode cL_law 945 = .ok (.iaload, 1) := by decide +kernel
theorem dL_law_946 : decode cL_law 946 = .ok (.aload_n 0, 1) := by decide +kernel
theorem dL_law_947 : decode cL_law 947 = .ok (.iload_n 3, 1) := by decide +kernel
theorem dL_law_948 : decode cL_law 948 = .ok (.iconst 3, 1) := by decide +kernel
theorem dL_law_949 : decode cL_law 949 = .ok (.iadd, 1) := by decide +kernel
theorem dL_law_950 : decode cL_law 950 = .ok (.iaload, 1) := by decide +kernel
theorem dL_law_951 : decode cL_law 951 = .ok (.invokevirtual 115, 3) := by decide +kernel
theorem dL_law_954 : decode cL_law 954 = .ok (.if_icmp .eq 366, 3) := by decide +kernel
theorem dL_law_957 : decode cL_law 957 = .ok (.iconst 0, 1) := by decide +kernel
theorem dL_law_958 : decode cL_law 958 = .ok (.ireturn, 1) := by decide +kernel
theorem dL_law_959 : decode cL_law 959 = .ok (.aload_n 1, 1) := by decide +kernel
theorem dL_law_960 : decode cL_law 960 = .ok (.invokevirtual 116, 3) := by decide +kernel
theorem dL_law_963 : decode cL_law 963 = .ok (.aload_n 2, 1) := by decide +kernel
theorem dL_law_964 : decode cL_law 964 = .ok (.invokevirtual 119, 3) := by decide +kernel
theorem dL_law_967 : decode cL_law 967 = .ok (.if_icmp .eq 353, 3) := by decide +kernel
theorem dL_law_970 : decode cL_law 970 = .ok (.iconst 0, 1) := by decide +kernel
theorem dL_law_971 : decode cL_law 971 = .ok (.ireturn, 1) := by decide +kernel
theorem dL_law_972 : decode cL_law 972 = .ok (.aload_n 1, 1) := by decide +kernel
theorem dL_law_973 : decode cL_law 973 = .ok (.invokevirtual 120, 3) := by decide +kernel
theorem dL_law_976 : decode cL_law 976 = .ok (.aload_n 2, 1) := by decide +kernel
theorem dL_law_977 : decode cL_law 977 = .ok (.invokevirtual 123, 3) := by decide +kernel
theorem dL_law_980 : decode cL_law 980 = .ok (.if_icmp .eq 340, 3) := by decide +kernel
theorem dL_law_983 : decode cL_law 983 = .ok (.iconst 0, 1) := by decide +kernel
theorem dL_law_984 : decode cL_law 984 = .ok (.ireturn, 1) := by decide +kernel
theorem dL_law_985 : decode cL_law 985 = .ok (.aload_n 1, 1) := by decide +kernel
theorem dL_law_986 : decode cL_law 986 = .ok (.aload_n 0, 1) := by decide +kernel
theorem dL_law_987 : decode cL_law 987 = .ok (.iload_n 3, 1) := by decide +kernel
theorem dL_law_988 : decode cL_law 988 = .ok (.iconst 1, 1) := by decide +kernel
theorem dL_law_989 : decode cL_law 989 = .ok (.iadd, 1) := by decide +kernel
theorem dL_law_990 : decode cL_law 990 = .ok (.iaload, 1) := by decide +kernel
theorem dL_law_991 : decode cL_law 991 = .ok (.aload_n 0, 1) := by decide +kernel
theorem dL_law_992 : decode cL_law 992 = .ok (.iload_n 3, 1) := by decide +kernel
theorem dL_law_993 : decode cL_law 993 = .ok (.iconst 2, 1) := by decide +kernel
theorem dL_law_994 : decode cL_law 994 = .ok (.iadd, 1) := by decide +kernel
theorem dL_law_995 : decode cL_law 995 = .ok (.iaload, 1) := by decide +kernel
theorem dL_law_996 : decode cL_law 996 = .ok (.aload_n 0, 1) := by decide +kernel
theorem dL_law_997 : decode cL_law 997 = .ok (.iload_n 3, 1) := by decide +kernel
theorem dL_law_998 : decode cL_law 998 = .ok (.iconst 3, 1) := by decide +kernel
theorem dL_law_999 : decode cL_law 999 = .ok (.iadd, 1) := by decide +kernel
theorem dL_law_1000 : decode cL_law 1000 = .ok (.iaload, 1) := by decide +kernel
theorem dL_law_1001 : decode cL_law 1001 = .ok (.invokevirtual 124, 3) := by decide +kernel
theorem dL_law_1004 : decode cL_law 1004 = .ok (.aload_n 2, 1) := by decide +kernel
theorem dL_law_1005 : decode cL_law 1005 = .ok (.aload_n 0, 1) := by decide +kernel
theorem dL_law_1006 : decode cL_law 1006 = .ok (.iload_n 3, 1) := by decide +kernel
theorem dL_law_1007 : decode cL_law 1007 = .ok (.iconst 1, 1) := by decide +kernel
theorem dL_law_1008 : decode cL_law 1008 = .ok (.iadd, 1) := by decide +kernel
theorem dL_law_1009 : decode cL_law 1009 = .ok (.iaload, 1) := by decide +kernel
theorem dL_law_1010 : decode cL_law 1010 = .ok (.aload_n 0, 1) := by decide +kernel
theorem dL_law_1011 : decode cL_law 1011 = .ok (.iload_n 3, 1) := by decide +kernel
theorem dL_law_1012 : decode cL_law 1012 = .ok (.iconst 2, 1) := by decide +kernel
theorem dL_law_1013 : decode cL_law 1013 = .ok (.iadd, 1) := by decide +kernel
theorem dL_law_1014 : decode cL_law 1014 = .ok (.iaload, 1) := by decide +kernel
theorem dL_law_1015 : decode cL_law 1015 = .ok (.aload_n 0, 1) := by decide +kernel
theorem dL_law_1016 : decode cL_law 1016 = .ok (.iload_n 3, 1) := by decide +kernel
theorem dL_law_1017 : decode cL_law 1017 = .ok (.iconst 3, 1) := by decide +kernel
theorem dL_law_1018 : decode cL_law 1018 = .ok (.iadd, 1) := by decide +kernel
theorem dL_law_1019 : decode cL_law 1019 = .ok (.iaload, 1) := by decide +kernel
theorem dL_law_1020 : decode cL_law 1020 = .ok (.invokevirtual 127, 3) := by decide +kernel
theorem dL_law_1023 : decode cL_law 1023 = .ok (.if_icmp .eq 297, 3) := by decide +kernel
theorem dL_law_1026 : decode cL_law 1026 = .ok (.iconst 0, 1) := by decide +kernel
theorem dL_law_1027 : decode cL_law 1027 = .ok (.ireturn, 1) := by decide +kernel
theorem dL_law_1028 : decode cL_law 1028 = .ok (.aload_n 1, 1) := by decide +kernel
theorem dL_law_1029 : decode cL_law 1029 = .ok (.aload_n 0, 1) := by decide +kernel
theorem dL_law_1030 : decode cL_law 1030 = .ok (.iload_n 3, 1) := by decide +kernel
theorem dL_law_1031 : decode cL_law 1031 = .ok (.iconst 1, 1) := by decide +kernel
theorem dL_law_1032 : decode cL_law 1032 = .ok (.iadd, 1) := by decide +kernel
theorem dL_law_1033 : decode cL_law 1033 = .ok (.iaload, 1) := by decide +kernel
theorem dL_law_1034 : decode cL_law 1034 = .ok (.invokevirtual 128, 3) := by decide +kernel
theorem dL_law_1037 : decode cL_law 1037 = .ok (.aload_n 2, 1) := by decide +kernel
theorem dL_law_1038 : decode cL_law 1038 = .ok (.aload_n 0, 1) := by decide +kernel
theorem dL_law_1039 : decode cL_law 1039 = .ok (.iload_n 3, 1) := by decide +kernel
theorem dL_law_1040 : decode cL_law 1040 = .ok (.iconst 1, 1) := by decide +kernel
theorem dL_law_1041 : decode cL_law 1041 = .ok (.iadd, 1) := by decide +kernel
theorem dL_law_1042 : decode cL_law 1042 = .ok (.iaload, 1) := by decide +kernel
theorem dL_law_1043 : decode cL_law 1043 = .ok (.invokevirtual 131, 3) := by decide +kernel
theorem dL_law_1046 : decode cL_law 1046 = .ok (.if_icmp .eq 274, 3) := by decide +kernel
theorem dL_law_1049 : decode cL_law 1049 = .ok (.iconst 0, 1) := by decide +kernel
theorem dL_law_1050 : decode cL_law 1050 = .ok (.ireturn, 1) := by decide +kernel
theorem dL_law_1051 : decode cL_law 1051 = .ok (.aload_n 1, 1) := by decide +kernel
theorem dL_law_1052 : decode cL_law 1052 = .ok (.aload_n 0, 1) := by decide +kernel
theorem dL_law_1053 : decode cL_law 1053 = .ok (.iload_n 3, 1) := by decide +kernel
theorem dL_law_1054 : decode cL_law 1054 = .ok (.iconst 1, 1) := by decide +kernel
theorem dL_law_1055 : decode cL_law 1055 = .ok (.iadd, 1) := by decide +kernel
theorem dL_law_1056 : decode cL_law 1056 = .ok (.iaload, 1) := by decide +kernel
theorem dL_law_1057 : decode cL_law 1057 = .ok (.aload_n 0, 1) := by decide +kernel
theorem dL_law_1058 : decode cL_law 1058 = .ok (.iload_n 3, 1) := by decide +kernel
theorem dL_law_1059 : decode cL_law 1059 = .ok (.iconst 2, 1) := by decide +kernel
theorem dL_law_1060 : decode cL_law 1060 = .ok (.iadd, 1) := by decide +kernel
theorem dL_law_1061 : decode cL_law 1061 = .ok (.iaload, 1) := by decide +kernel
theorem dL_law_1062 : decode cL_law 1062 = .ok (.invokevirtual 132, 3) := by decide +kernel
theorem dL_law_1065 : decode cL_law 1065 = .ok (.aload_n 2, 1) := by decide +kernel
theorem dL_law_1066 : decode cL_law 1066 = .ok (.aload_n 0, 1) := by decide +kernel
theorem dL_law_1067 : decode cL_law 1067 = .ok (.iload_n 3, 1) := by decide +kernel
theorem dL_law_1068 : decode cL_law 1068 = .ok (.iconst 1, 1) := by decide +kernel
theorem dL_law_1069 : decode cL_law 1069 = .ok (.iadd, 1) := by decide +kernel
theorem dL_law_1070 : decode cL_law 1070 = .ok (.iaload, 1) := by decide +kernel
theorem dL_law_1071 : decode cL_law 1071 = .ok (.aload_n 0, 1) := by decide +kernel
theorem dL_law_1072 : decode cL_law 1072 = .ok (.iload_n 3, 1) := by decide +kernel
theorem dL_law_1073 : decode cL_law 1073 = .ok (.iconst 2, 1) := by decide +kernel
theorem dL_law_1074 : decode cL_law 1074 = .ok (.iadd, 1) := by decide +kernel
theorem dL_law_1075 : decode cL_law 1075 = .ok (.iaload, 1) := by decide +kernel
theorem dL_law_1076 : decode cL_law 1076 = .ok (.invokevirtual 135, 3) := by decide +kernel
theorem dL_law_1079 : decode cL_law 1079 = .ok (.if_icmp .eq 241, 3) := by decide +kernel
theorem dL_law_1082 : decode cL_law 1082 = .ok (.iconst 0, 1) := by decide +kernel
theorem dL_law_1083 : decode cL_law 1083 = .ok (.ireturn, 1) := by decide +kernel
theorem dL_law_1084 : decode cL_law 1084 = .ok (.aload_n 1, 1) := by decide +kernel
theorem dL_law_1085 : decode cL_law 1085 = .ok (.aload_n 0, 1) := by decide +kernel
theorem dL_law_1086 : decode cL_law 1086 = .ok (.iload_n 3, 1) := by decide +kernel
theorem dL_law_1087 : decode cL_law 1087 = .ok (.iconst 1, 1) := by decide +kernel
theorem dL_law_1088 : decode cL_law 1088 = .ok (.iadd, 1) := by decide +kernel
theorem dL_law_1089 : decode cL_law 1089 = .ok (.iaload, 1) := by decide +kernel
theorem dL_law_1090 : decode cL_law 1090 = .ok (.invokevirtual 136, 3) := by decide +kernel
theorem dL_law_1093 : decode cL_law 1093 = .ok (.aload_n 2, 1) := by decide +kernel
theorem dL_law_1094 : decode cL_law 1094 = .ok (.aload_n 0, 1) := by decide +kernel
theorem dL_law_1095 : decode cL_law 1095 = .ok (.iload_n 3, 1) := by decide +kernel
theorem dL_law_1096 : decode cL_law 1096 = .ok (.iconst 1, 1) := by decide +kernel
theorem dL_law_1097 : decode cL_law 1097 = .ok (.iadd, 1) := by decide +kernel
theorem dL_law_1098 : decode cL_law 1098 = .ok (.iaload, 1) := by decide +kernel
theorem dL_law_1099 : decode cL_law 1099 = .ok (.invokevirtual 139, 3) := by decide +kernel
theorem dL_law_1102 : decode cL_law 1102 = .ok (.if_icmp .eq 218, 3) := by decide +kernel
theorem dL_law_1105 : decode cL_law 1105 = .ok (.iconst 0, 1) := by decide +kernel
theorem dL_law_1106 : decode cL_law 1106 = .ok (.ireturn, 1) := by decide +kernel
theorem dL_law_1107 : decode cL_law 1107 = .ok (.aload_n 1, 1) := by decide +kernel
theorem dL_law_1108 : decode cL_law 1108 = .ok (.aload_n 0, 1) := by decide +kernel
theorem dL_law_1109 : decode cL_law 1109 = .ok (.iload_n 3, 1) := by decide +kernel
theorem dL_law_1110 : decode cL_law 1110 = .ok (.iconst 1, 1) := by decide +kernel
theorem dL_law_1111 : decode cL_law 1111 = .ok (.iadd, 1) := by decide +kernel
theorem dL_law_1112 : decode cL_law 1112 = .ok (.iaload, 1) := by decide +kernel
theorem dL_law_1113 : decode cL_law 1113 = .ok (.aload_n 0, 1) := by decide +kernel
theorem dL_law_1114 : decode cL_law 1114 = .ok (.iload_n 3, 1) := by decide +kernel
theorem dL_law_1115 : decode cL_law 1115 = .ok (.iconst 2, 1) := by decide +kernel
theorem dL_law_1116 : decode cL_law 1116 = .ok (.iadd, 1) := by decide +kernel
theorem dL_law_1117 : decode cL_law 1117 = .ok (.iaload, 1) := by decide +kernel
theorem dL_law_1118 : decode cL_law 1118 = .ok (.aload_n 0, 1) := by decide +kernel
theorem dL_law_1119 : decode cL_law 1119 = .ok (.iload_n 3, 1) := by decide +kernel
theorem dL_law_1120 : decode cL_law 1120 = .ok (.iconst 3, 1) := by decide +kernel
theorem dL_law_1121 : decode cL_law 1121 = .ok (.iadd, 1) := by decide +kernel
theorem dL_law_1122 : decode cL_law 1122 = .ok (.iaload, 1) := by decide +kernel
theorem dL_law_1123 : decode cL_law 1123 = .ok (.invokevirtual 140, 3) := by decide +kernel
theorem dL_law_1126 : decode cL_law 1126 = .ok (.aload_n 2, 1) := by decide +kernel
theorem dL_law_1127 : decode cL_law 1127 = .ok (.aload_n 0, 1) := by decide +kernel
theorem dL_law_1128 : decode cL_law 1128 = .ok (.iload_n 3, 1) := by decide +kernel
theorem dL_law_1129 : decode cL_law 1129 = .ok (.iconst 1, 1) := by decide +kernel
theorem dL_law_1130 : decode cL_law 1130 = .ok (.iadd, 1) := by decide +kernel
theorem dL_law_1131 : decode cL_law 1131 = .ok (.iaload, 1) := by decide +kernel
theorem dL_law_1132 : decode cL_law 1132 = .ok (.aload_n 0, 1) := by decide +kernel
theorem dL_law_1133 : decode cL_law 1133 = .ok (.iload_n 3, 1) := by decide +kernel
theorem dL_law_1134 : decode cL_law 1134 = .ok (.iconst 2, 1) := by decide +kernel
theorem dL_law_1135 : decode cL_law 1135 = .ok (.iadd, 1) := by decide +kernel
theorem dL_law_1136 : decode cL_law 1136 = .ok (.iaload, 1) := by decide +kernel
theorem dL_law_1137 : decode cL_law 1137 = .ok (.aload_n 0, 1) := by decide +kernel
theorem dL_law_1138 : decode cL_law 1138 = .ok (.iload_n 3, 1) := by decide +kernel
theorem dL_law_1139 : decode cL_law 1139 = .ok (.iconst 3, 1) := by decide +kernel
theorem dL_law_1140 : decode cL_law 1140 = .ok (.iadd, 1) := by decide +kernel
theorem dL_law_1141 : decode cL_law 1141 = .ok (.iaload, 1) := by decide +kernel
theorem dL_law_1142 : decode cL_law 1142 = .ok (.invokevirtual 143, 3) := by decide +kernel
theorem dL_law_1145 : decode cL_law 1145 = .ok (.if_icmp .eq 175, 3) := by decide +kernel
theorem dL_law_1148 : decode cL_law 1148 = .ok (.iconst 0, 1) := by decide +kernel
theorem dL_law_1149 : decode cL_law 1149 = .ok (.ireturn, 1) := by decide +kernel
theorem dL_law_1150 : decode cL_law 1150 = .ok (.aload_n 1, 1) := by decide +kernel
theorem dL_law_1151 : decode cL_law 1151 = .ok (.aload_n 0, 1) := by decide +kernel
theorem dL_law_1152 : decode cL_law 1152 = .ok (.iload_n 3, 1) := by decide +kernel
theorem dL_law_1153 : decode cL_law 1153 = .ok (.iconst 1, 1) := by decide +kernel
theorem dL_law_1154 : decode cL_law 1154 = .ok (.iadd, 1) := by decide +kernel
theorem dL_law_1155 : decode cL_law 1155 = .ok (.iaload, 1) := by decide +kernel
theorem dL_law_1156 : decode cL_law 1156 = .ok (.aload_n 0, 1) := by decide +kernel
theorem dL_law_1157 : decode cL_law 1157 = .ok (.iload_n 3, 1) := by decide +kernel
theorem dL_law_1158 : decode cL_law 1158 = .ok (.iconst 2, 1) := by decide +kernel
theorem dL_law_1159 : decode cL_law 1159 = .ok (.iadd, 1) := by decide +kernel
theorem dL_law_1160 : decode cL_law 1160 = .ok (.iaload, 1) := by decide +kernel
theorem dL_law_1161 : decode cL_law 1161 = .ok (.aload_n 0, 1) := by decide +kernel
theorem dL_law_1162 : decode cL_law 1162 = .ok (.iload_n 3, 1) := by decide +kernel
theorem dL_law_1163 : decode cL_law 1163 = .ok (.iconst 3, 1) := by decide +kernel
theorem dL_law_1164 : decode cL_law 1164 = .ok (.iadd, 1) := by decide +kernel
theorem dL_law_1165 : decode cL_law 1165 = .ok (.iaload, 1) := by decide +kernel
theorem dL_law_1166 : decode cL_law 1166 = .ok (.i2l, 1) := by decide +kernel
theorem dL_law_1167 : decode cL_law 1167 = .ok (.bipush 32, 2) := by decide +kernel
theorem dL_law_1169 : decode cL_law 1169 = .ok (.lshl, 1) := by decide +kernel
theorem dL_law_1170 : decode cL_law 1170 = .ok (.aload_n 0, 1) := by decide +kernel
theorem dL_law_1171 : decode cL_law 1171 = .ok (.iload_n 3, 1) := by decide +kernel
theorem dL_law_1172 : decode cL_law 1172 = .ok (.iconst 4, 1) := by decide +kernel
theorem dL_law_1173 : decode cL_law 1173 = .ok (.iadd, 1) := by decide +kernel
theorem dL_law_1174 : decode cL_law 1174 = .ok (.iaload, 1) := by decide +kernel
theorem dL_law_1175 : decode cL_law 1175 = .ok (.i2l, 1) := by decide +kernel
theorem dL_law_1176 : decode cL_law 1176 = .ok (.ldc2_w 144, 3) := by decide +kernel
theorem dL_law_1179 : decode cL_law 1179 = .ok (.land, 1) := by decide +kernel
theorem dL_law_1180 : decode cL_law 1180 = .ok (.lor, 1) := by decide +kernel
theorem dL_law_1181 : decode cL_law 1181 = .ok (.invokevirtual 146, 3) := by decide +kernel
theorem dL_law_1184 : decode cL_law 1184 = .ok (.aload_n 2, 1) := by decide +kernel
theorem dL_law_1185 : decode cL_law 1185 = .ok (.aload_n 0, 1) := by decide +kernel
theorem dL_law_1186 : decode cL_law 1186 = .ok (.iload_n 3, 1) := by decide +kernel
theorem dL_law_1187 : decode cL_law 1187 = .ok (.iconst 1, 1) := by decide +kernel
theorem dL_law_1188 : decode cL_law 1188 = .ok (.iadd, 1) := by decide +kernel
theorem dL_law_1189 : decode cL_law 1189 = .ok (.iaload, 1) := by decide +kernel
theorem dL_law_1190 : decode cL_law 1190 = .ok (.aload_n 0, 1) := by decide +kernel
theorem dL_law_1191 : decode cL_law 1191 = .ok (.iload_n 3, 1) := by decide +kernel
theorem dL_law_1192 : decode cL_law 1192 = .ok (.iconst 2, 1) := by decide +kernel
theorem dL_law_1193 : decode cL_law 1193 = .ok (.iadd, 1) := by decide +kernel
theorem dL_law_1194 : decode cL_law 1194 = .ok (.iaload, 1) := by decide +kernel
theorem dL_law_1195 : decode cL_law 1195 = .ok (.aload_n 0, 1) := by decide +kernel
theorem dL_law_1196 : decode cL_law 1196 = .ok (.iload_n 3, 1) := by decide +kernel
theorem dL_law_1197 : decode cL_law 1197 = .ok (.iconst 3, 1) := by decide +kernel
theorem dL_law_1198 : decode cL_law 1198 = .ok (.iadd, 1) := by decide +kernel
theorem dL_law_1199 : decode cL_law 1199 = .ok (.iaload, 1) := by decide +kernel
theorem dL_law_1200 : decode cL_law 1200 = .ok (.i2l, 1) := by decide +kernel
theorem dL_law_1201 : decode cL_law 1201 = .ok (.bipush 32, 2) := by decide +kernel
theorem dL_law_1203 : decode cL_law 1203 = .ok (.lshl, 1) := by decide +kernel
theorem dL_law_1204 : decode cL_law 1204 = .ok (.aload_n 0, 1) := by decide +kernel
theorem dL_law_1205 : decode cL_law 1205 = .ok (.iload_n 3, 1) := by decide +kernel
theorem dL_law_1206 : decode cL_law 1206 = .ok (.iconst 4, 1) := by decide +kernel
theorem dL_law_1207 : decode cL_law 1207 = .ok (.iadd, 1) := by decide +kernel
theorem dL_law_1208 : decode cL_law 1208 = .ok (.iaload, 1) := by decide +kernel
theorem dL_law_1209 : decode cL_law 1209 = .ok (.i2l, 1) := by decide +kernel
theorem dL_law_1210 : decode cL_law 1210 = .ok (.ldc2_w 144, 3) := by decide +kernel
theorem dL_law_1213 : decode cL_law 1213 = .ok (.land, 1) := by decide +kernel
theorem dL_law_1214 : decode cL_law 1214 = .ok (.lor, 1) := by decide +kernel
theorem dL_law_1215 : decode cL_law 1215 = .ok (.invokevirtual 150, 3) := by decide +kernel
theorem dL_law_1218 : decode cL_law 1218 = .ok (.if_icmp .eq 102, 3) := by decide +kernel
theorem dL_law_1221 : decode cL_law 1221 = .ok (.iconst 0, 1) := by decide +kernel
theorem dL_law_1222 : decode cL_law 1222 = .ok (.ireturn, 1) := by decide +kernel
theorem dL_law_1223 : decode cL_law 1223 = .ok (.aload_n 1, 1) := by decide +kernel
theorem dL_law_1224 : decode cL_law 1224 = .ok (.aload_n 0, 1) := by decide +kernel
theorem dL_law_1225 : decode cL_law 1225 = .ok (.iload_n 3, 1) := by decide +kernel
theorem dL_law_1226 : decode cL_law 1226 = .ok (.iconst 1, 1) := by decide +kernel
theorem dL_law_1227 : decode cL_law 1227 = .ok (.iadd, 1) := by decide +kernel
theorem dL_law_1228 : decode cL_law 1228 = .ok (.iaload, 1) := by decide +kernel
theorem dL_law_1229 : decode cL_law 1229 = .ok (.aload_n 0, 1) := by decide +kernel
theorem dL_law_1230 : decode cL_law 1230 = .ok (.iload_n 3, 1) := by decide +kernel
theorem dL_law_1231 : decode cL_law 1231 = .ok (.iconst 2, 1) := by decide +kernel
theorem dL_law_1232 : decode cL_law 1232 = .ok (.iadd, 1) := by decide +kernel
theorem dL_law_1233 : decode cL_law 1233 = .ok (.iaload, 1) := by decide +kernel
theorem dL_law_1234 : decode cL_law 1234 = .ok (.invokevirtual 151, 3) := by decide +kernel
theorem dL_law_1237 : decode cL_law 1237 = .ok (.aload_n 2, 1) := by decide +kernel
theorem dL_law_1238 : decode cL_law 1238 = .ok (.aload_n 0, 1) := by decide +kernel
theorem dL_law_1239 : decode cL_law 1239 = .ok (.iload_n 3, 1) := by decide +kernel
theorem dL_law_1240 : decode cL_law 1240 = .ok (.iconst 1, 1) := by decide +kernel
theorem dL_law_1241 : decode cL_law 1241 = .ok (.iadd, 1) := by decide +kernel
theorem dL_law_1242 : decode cL_law 1242 = .ok (.iaload, 1) := by decide +kernel
theorem dL_law_1243 : decode cL_law 1243 = .ok (.aload_n 0, 1) := by decide +kernel
theorem dL_law_1244 : decode cL_law 1244 = .ok (.iload_n 3, 1) := by decide +kernel
theorem dL_law_1245 : decode cL_law 1245 = .ok (.iconst 2, 1) := by decide +kernel
theorem dL_law_1246 : decode cL_law 1246 = .ok (.iadd, 1) := by decide +kernel
theorem dL_law_1247 : decode cL_law 1247 = .ok (.iaload, 1) := by decide +kernel
theorem dL_law_1248 : decode cL_law 1248 = .ok (.invokevirtual 155, 3) := by decide +kernel
theorem dL_law_1251 : decode cL_law 1251 = .ok (.lcmp, 1) := by decide +kernel
theorem dL_law_1252 : decode cL_law 1252 = .ok (.ifCond .eq 68, 3) := by decide +kernel
theorem dL_law_1255 : decode cL_law 1255 = .ok (.iconst 0, 1) := by decide +kernel
theorem dL_law_1256 : decode cL_law 1256 = .ok (.ireturn, 1) := by decide +kernel
theorem dL_law_1257 : decode cL_law 1257 = .ok (.aload_n 1, 1) := by decide +kernel
theorem dL_law_1258 : decode cL_law 1258 = .ok (.aload_n 0, 1) := by decide +kernel
theorem dL_law_1259 : decode cL_law 1259 = .ok (.iload_n 3, 1) := by decide +kernel
theorem dL_law_1260 : decode cL_law 1260 = .ok (.iconst 1, 1) := by decide +kernel
theorem dL_law_1261 : decode cL_law 1261 = .ok (.iadd, 1) := by decide +kernel
theorem dL_law_1262 : decode cL_law 1262 = .ok (.iaload, 1) := by decide +kernel
theorem dL_law_1263 : decode cL_law 1263 = .ok (.aload_n 0, 1) := by decide +kernel
theorem dL_law_1264 : decode cL_law 1264 = .ok (.iload_n 3, 1) := by decide +kernel
theorem dL_law_1265 : decode cL_law 1265 = .ok (.iconst 2, 1) := by decide +kernel
theorem dL_law_1266 : decode cL_law 1266 = .ok (.iadd, 1) := by decide +kernel
theorem dL_law_1267 : decode cL_law 1267 = .ok (.iaload, 1) := by decide +kernel
theorem dL_law_1268 : decode cL_law 1268 = .ok (.aload_n 0, 1) := by decide +kernel
theorem dL_law_1269 : decode cL_law 1269 = .ok (.iload_n 3, 1) := by decide +kernel
theorem dL_law_1270 : decode cL_law 1270 = .ok (.iconst 3, 1) := by decide +kernel
theorem dL_law_1271 : decode cL_law 1271 = .ok (.iadd, 1) := by decide +kernel
theorem dL_law_1272 : decode cL_law 1272 = .ok (.iaload, 1) := by decide +kernel
theorem dL_law_1273 : decode cL_law 1273 = .ok (.aload_n 0, 1) := by decide +kernel
theorem dL_law_1274 : decode cL_law 1274 = .ok (.iload_n 3, 1) := by decide +kernel
theorem dL_law_1275 : decode cL_law 1275 = .ok (.iconst 4, 1) := by decide +kernel
theorem dL_law_1276 : decode cL_law 1276 = .ok (.iadd, 1) := by decide +kernel
theorem dL_law_1277 : decode cL_law 1277 = .ok (.iaload, 1) := by decide +kernel
theorem dL_law_1278 : decode cL_law 1278 = .ok (.aload_n 0, 1) := by decide +kernel
theorem dL_law_1279 : decode cL_law 1279 = .ok (.iload_n 3, 1) := by decide +kernel
theorem dL_law_1280 : decode cL_law 1280 = .ok (.iconst 5, 1) := by decide +kernel
theorem dL_law_1281 : decode cL_law 1281 = .ok (.iadd, 1) := by decide +kernel
theorem dL_law_1282 : decode cL_law 1282 = .ok (.iaload, 1) := by decide +kernel
theorem dL_law_1283 : decode cL_law 1283 = .ok (.invokevirtual 156, 3) := by decide +kernel
theorem dL_law_1286 : decode cL_law 1286 = .ok (.aload_n 2, 1) := by decide +kernel
theorem dL_law_1287 : decode cL_law 1287 = .ok (.aload_n 0, 1) := by decide +kernel
theorem dL_law_1288 : decode cL_law 1288 = .ok (.iload_n 3, 1) := by decide +kernel
theorem dL_law_1289 : decode cL_law 1289 = .ok (.iconst 1, 1) := by decide +kernel
theorem dL_law_1290 : decode cL_law 1290 = .ok (.iadd, 1) := by decide +kernel
theorem dL_law_1291 : decode cL_law 1291 = .ok (.iaload, 1) := by decide +kernel
theorem dL_law_1292 : decode cL_law 1292 = .ok (.aload_n 0, 1) := by decide +kernel
theorem dL_law_1293 : decode cL_law 1293 = .ok (.iload_n 3, 1) := by decide +kernel
theorem dL_law_1294 : decode cL_law 1294 = .ok (.iconst 2, 1) := by decide +kernel
theorem dL_law_1295 : decode cL_law 1295 = .ok (.iadd, 1) := by decide +kernel
theorem dL_law_1296 : decode cL_law 1296 = .ok (.iaload, 1) := by decide +kernel
theorem dL_law_1297 : decode cL_law 1297 = .ok (.aload_n 0, 1) := by decide +kernel
theorem dL_law_1298 : decode cL_law 1298 = .ok (.iload_n 3, 1) := by decide +kernel
theorem dL_law_1299 : decode cL_law 1299 = .ok (.iconst 3, 1) := by decide +kernel
theorem dL_law_1300 : decode cL_law 1300 = .ok (.iadd, 1) := by decide +kernel
theorem dL_law_1301 : decode cL_law 1301 = .ok (.iaload, 1) := by decide +kernel
theorem dL_law_1302 : decode cL_law 1302 = .ok (.aload_n 0, 1) := by decide +kernel
theorem dL_law_1303 : decode cL_law 1303 = .ok (.iload_n 3, 1) := by decide +kernel
theorem dL_law_1304 : decode cL_law 1304 = .ok (.iconst 4, 1) := by decide +kernel
theorem dL_law_1305 : decode cL_law 1305 = .ok (.iadd, 1) := by decide +kernel
theorem dL_law_1306 : decode cL_law 1306 = .ok (.iaload, 1) := by decide +kernel
theorem dL_law_1307 : decode cL_law 1307 = .ok (.aload_n 0, 1) := by decide +kernel
theorem dL_law_1308 : decode cL_law 1308 = .ok (.iload_n 3, 1) := by decide +kernel
theorem dL_law_1309 : decode cL_law 1309 = .ok (.iconst 5, 1) := by decide +kernel
theorem dL_law_1310 : decode cL_law 1310 = .ok (.iadd, 1) := by decide +kernel
theorem dL_law_1311 : decode cL_law 1311 = .ok (.iaload, 1) := by decide +kernel
theorem dL_law_1312 : decode cL_law 1312 = .ok (.invokevirtual 160, 3) := by decide +kernel
theorem dL_law_1315 : decode cL_law 1315 = .ok (.if_icmp .eq 5, 3) := by decide +kernel
theorem dL_law_1318 : decode cL_law 1318 = .ok (.iconst 0, 1) := by decide +kernel
theorem dL_law_1319 : decode cL_law 1319 = .ok (.ireturn, 1) := by decide +kernel
theorem dL_law_1320 : decode cL_law 1320 = .ok (.iinc 3 6, 3) := by decide +kernel
theorem dL_law_1323 : decode cL_law 1323 = .ok (.goto (-1305), 3) := by decide +kernel
theorem dL_law_1326 : decode cL_law 1326 = .ok (.iconst 1, 1) := by decide +kernel
theorem dL_law_1327 : decode cL_law 1327 = .ok (.ireturn, 1) := by decide +kernel
def OP_0 (Rel : PM → PM → Prop) : Prop := ∀ (u w : PM) (a0 : Int32) (a1 : Int32), Rel u w → (a1 = 0 ∨ a1 = 1) → ∃ (r : Int32) (u' w' : PM), f_X9_house a0 a1 u = some (r, u') ∧ f_X10_house a0 a1 w = some (r, w') ∧ Rel u' w'
set_option maxHeartbeats 4000000 in
set_option maxRecDepth 20000 in
theorem law_case_0 {l : Launch} {nm : String} {Rel : PM → PM → Prop} (H : OP_0 Rel) {N i kc kn mc ms : Nat} {xs : Nat → Int32} {T : Option AV × List Key × AM} (hi : i + 6 ≤ N ∧ N ≤ 3072) (hkc : kc ≤ mc) (hkn : kn ≤ ms) {u w : PM} (hrel : Rel u w) (cont : ∀ u' w', Rel u' w' → XS (sE N xs) l (mL nm) 2048 mc ms false T kA kc kn 1320 [some (vR (95, 100, 0)), some (vR (0, 0, 0)), some (vR (40, 0, 0)), some (vI (nI i))] [] (mg u' w')) : XS (sE N xs) l (mL nm) 2048 mc ms false T kA kc kn 184 [some (vR (95, 100, 0)), some (vR (0, 0, 0)), some (vR (40, 0, 0)), some (vI (nI i))] [] (mg u w) := by
  by_cases hz : xs (i + 2) = 0
  · obtain ⟨r, u', w', hc, hm, hrel'⟩ := H u w (xs (i + 1)) (0 : Int32) hrel (Or.inl rfl)
    refine s_aload_n (x := (0, 0, 0)) dL_law_184 rfl ?_
    refine s_aload_n (x := (95, 100, 0)) dL_law_185 rfl ?_
    refine s_iload_n (x := nI i) dL_law_186 rfl ?_
    refine s_iconst (v := 1) dL_law_187 rfl ?_
    refine s_iadd dL_law_188 ?_
    refine s_sld (n := (i + 1)) dL_law_189 (nI_cl i 1 hi) (nI_vp i 1 (by decide) hi) ?_
    refine s_aload_n (x := (95, 100, 0)) dL_law_190 rfl ?_
    refine s_iload_n (x := nI i) dL_law_191 rfl ?_
    refine s_iconst (v := 2) dL_law_192 rfl ?_
    refine s_iadd dL_law_193 ?_
    refine s_sld (n := (i + 2)) dL_law_194 (nI_cl i 2 hi) (nI_vp i 2 (by decide) hi) ?_
    refine s_if_eq (tgt := 202) dL_law_195 (by decide) (fun _ => ?_) (fun hc => absurd hz hc)
    refine s_iconst (v := 0) dL_law_202 rfl ?_
    refine s_callC (as := [vI (xs (i + 1)), vI (0 : Int32)]) (st := []) (n := 2) (r := some (vI r)) (u' := u') mw_L_13 mv_X9_house (C_X9_house (l := l) hc) (le_b rfl) dL_law_203 rfl rfl (le_b rfl) hkc hkn ?_
    show XS _ l _ _ _ _ _ _ _ kc kn 206 [some (vR (95, 100, 0)), some (vR (0, 0, 0)), some (vR (40, 0, 0)), some (vI (nI i))] [vI r] (mg u' w)
    refine s_aload_n (x := (40, 0, 0)) dL_law_206 rfl ?_
    refine s_aload_n (x := (95, 100, 0)) dL_law_207 rfl ?_
    refine s_iload_n (x := nI i) dL_law_208 rfl ?_
    refine s_iconst (v := 1) dL_law_209 rfl ?_
    refine s_iadd dL_law_210 ?_
    refine s_sld (n := (i + 1)) dL_law_211 (nI_cl i 1 hi) (nI_vp i 1 (by decide) hi) ?_
    refine s_aload_n (x := (95, 100, 0)) dL_law_212 rfl ?_
    refine s_iload_n (x := nI i) dL_law_213 rfl ?_
    refine s_iconst (v := 2) dL_law_214 rfl ?_
    refine s_iadd dL_law_215 ?_
    refine s_sld (n := (i + 2)) dL_law_216 (nI_cl i 2 hi) (nI_vp i 2 (by decide) hi) ?_
    refine s_if_eq (tgt := 224) dL_law_217 (by decide) (fun _ => ?_) (fun hc => absurd hz hc)
    refine s_iconst (v := 0) dL_law_224 rfl ?_
    refine s_callM (as := [vI (xs (i + 1)), vI (0 : Int32)]) (st := [vI r]) (n := 2) (r := some (vI r)) (w' := w') mw_L_17 mv_X10_house (C_X10_house (l := l) hm) (le_b rfl) dL_law_225 rfl rfl (le_b rfl) hkc hkn ?_
    show XS _ l _ _ _ _ _ _ _ kc kn 228 [some (vR (95, 100, 0)), some (vR (0, 0, 0)), some (vR (40, 0, 0)), some (vI (nI i))] [vI r, vI r] (mg u' w')
    refine s_icmp_eq (tgt := 1320) dL_law_228 (by decide) (fun _ => ?_) (fun hc => absurd rfl hc)
    exact cont u' w' hrel'
  · obtain ⟨r, u', w', hc, hm, hrel'⟩ := H u w (xs (i + 1)) (1 : Int32) hrel (Or.inr rfl)
    refine s_aload_n (x := (0, 0, 0)) dL_law_184 rfl ?_
    refine s_aload_n (x := (95, 100, 0)) dL_law_185 rfl ?_
    refine s_iload_n (x := nI i) dL_law_186 rfl ?_
    refine s_iconst (v := 1) dL_law_187 rfl ?_
    refine s_iadd dL_law_188 ?_
    refine s_sld (n := (i + 1)) dL_law_189 (nI_cl i 1 hi) (nI_vp i 1 (by decide) hi) ?_
    refine s_aload_n (x := (95, 100, 0)) dL_law_190 rfl ?_
    refine s_iload_n (x := nI i) dL_law_191 rfl ?_
    refine s_iconst (v := 2) dL_law_192 rfl ?_
    refine s_iadd dL_law_193 ?_
    refine s_sld (n := (i + 2)) dL_law_194 (nI_cl i 2 hi) (nI_vp i 2 (by decide) hi) ?_
    refine s_if_eq (tgt := 202) dL_law_195 (by decide) (fun hc => absurd hc hz) (fun _ => ?_)
    refine s_iconst (v := 1) dL_law_198 rfl ?_
    refine s_goto (tgt := 203) dL_law_199 (by decide) ?_
    refine s_callC (as := [vI (xs (i + 1)), vI (1 : Int32)]) (st := []) (n := 2) (r := some (vI r)) (u' := u') mw_L_13 mv_X9_house (C_X9_house (l := l) hc) (le_b rfl) dL_law_203 rfl rfl (le_b rfl) hkc hkn ?_
    show XS _ l _ _ _ _ _ _ _ kc kn 206 [some (vR (95, 100, 0)), some (vR (0, 0, 0)), some (vR (40, 0, 0)), some (vI (nI i))] [vI r] (mg u' w)
    refine s_aload_n (x := (40, 0, 0)) dL_law_206 rfl ?_
    refine s_aload_n (x := (95, 100, 0)) dL_law_207 rfl ?_
    refine s_iload_n (x := nI i) dL_law_208 rfl ?_
    refine s_iconst (v := 1) dL_law_209 rfl ?_
    refine s_iadd dL_law_210 ?_
    refine s_sld (n := (i + 1)) dL_law_211 (nI_cl i 1 hi) (nI_vp i 1 (by decide) hi) ?_
    refine s_aload_n (x := (95, 100, 0)) dL_law_212 rfl ?_
    refine s_iload_n (x := nI i) dL_law_213 rfl ?_
    refine s_iconst (v := 2) dL_law_214 rfl ?_
    refine s_iadd dL_law_215 ?_
    refine s_sld (n := (i + 2)) dL_law_216 (nI_cl i 2 hi) (nI_vp i 2 (by decide) hi) ?_
    refine s_if_eq (tgt := 224) dL_law_217 (by decide) (fun hc => absurd hc hz) (fun _ => ?_)
    refine s_iconst (v := 1) dL_law_220 rfl ?_
    refine s_goto (tgt := 225) dL_law_221 (by decide) ?_
    refine s_callM (as := [vI (xs (i + 1)), vI (1 : Int32)]) (st := [vI r]) (n := 2) (r := some (vI r)) (w' := w') mw_L_17 mv_X10_house (C_X10_house (l := l) hm) (le_b rfl) dL_law_225 rfl rfl (le_b rfl) hkc hkn ?_
    show XS _ l _ _ _ _ _ _ _ kc kn 228 [some (vR (95, 100, 0)), some (vR (0, 0, 0)), some (vR (40, 0, 0)), some (vI (nI i))] [vI r, vI r] (mg u' w')
    refine s_icmp_eq (tgt := 1320) dL_law_228 (by decide) (fun _ => ?_) (fun hc => absurd rfl hc)
    exact cont u' w' hrel'
def OP_1 (Rel : PM → PM → Prop) : Prop := ∀ (u w : PM) (a0 : Int32) (a1 : Int32), Rel u w → ∃ (r : Int32) (u' w' : PM), f_X9_of a0 a1 u = some r ∧ f_X10_of a0 a1 w = some r ∧ Rel u' w' ∧ u = u' ∧ w = w'
set_option maxHeartbeats 4000000 in
set_option maxRecDepth 20000 in
theorem law_case_1 {l : Launch} {nm : String} {Rel : PM → PM → Prop} (H : OP_1 Rel) {N i kc kn mc ms : Nat} {xs : Nat → Int32} {T : Option AV × List Key × AM} (hi : i + 6 ≤ N ∧ N ≤ 3072) (hkc : kc ≤ mc) (hkn : kn ≤ ms) {u w : PM} (hrel : Rel u w) (cont : ∀ u' w', Rel u' w' → XS (sE N xs) l (mL nm) 2048 mc ms false T kA kc kn 1320 [some (vR (95, 100, 0)), some (vR (0, 0, 0)), some (vR (40, 0, 0)), some (vI (nI i))] [] (mg u' w')) : XS (sE N xs) l (mL nm) 2048 mc ms false T kA kc kn 233 [some (vR (95, 100, 0)), some (vR (0, 0, 0)), some (vR (40, 0, 0)), some (vI (nI i))] [] (mg u w) := by
  obtain ⟨r, u', w', hc, hm, hrel', rfl, rfl⟩ := H u w (xs (i + 1)) (xs (i + 2)) hrel
  refine s_aload_n (x := (0, 0, 0)) dL_law_233 rfl ?_
  refine s_aload_n (x := (95, 100, 0)) dL_law_234 rfl ?_
  refine s_iload_n (x := nI i) dL_law_235 rfl ?_
  refine s_iconst (v := 1) dL_law_236 rfl ?_
  refine s_iadd dL_law_237 ?_
  refine s_sld (n := (i + 1)) dL_law_238 (nI_cl i 1 hi) (nI_vp i 1 (by decide) hi) ?_
  refine s_aload_n (x := (95, 100, 0)) dL_law_239 rfl ?_
  refine s_iload_n (x := nI i) dL_law_240 rfl ?_
  refine s_iconst (v := 2) dL_law_241 rfl ?_
  refine s_iadd dL_law_242 ?_
  refine s_sld (n := (i + 2)) dL_law_243 (nI_cl i 2 hi) (nI_vp i 2 (by decide) hi) ?_
  refine s_callC (as := [vI (xs (i + 1)), vI (xs (i + 2))]) (st := []) (n := 2) (r := some (vI r)) (u' := u) mw_L_18 mv_X9_of (C_X9_of (l := l) hc) (le_b rfl) dL_law_244 rfl rfl (le_b rfl) hkc hkn ?_
  show XS _ l _ _ _ _ _ _ _ kc kn 247 [some (vR (95, 100, 0)), some (vR (0, 0, 0)), some (vR (40, 0, 0)), some (vI (nI i))] [vI r] (mg u w)
  refine s_aload_n (x := (40, 0, 0)) dL_law_247 rfl ?_
  refine s_aload_n (x := (95, 100, 0)) dL_law_248 rfl ?_
  refine s_iload_n (x := nI i) dL_law_249 rfl ?_
  refine s_iconst (v := 1) dL_law_250 rfl ?_
  refine s_iadd dL_law_251 ?_
  refine s_sld (n := (i + 1)) dL_law_252 (nI_cl i 1 hi) (nI_vp i 1 (by decide) hi) ?_
  refine s_aload_n (x := (95, 100, 0)) dL_law_253 rfl ?_
  refine s_iload_n (x := nI i) dL_law_254 rfl ?_
  refine s_iconst (v := 2) dL_law_255 rfl ?_
  refine s_iadd dL_law_256 ?_
  refine s_sld (n := (i + 2)) dL_law_257 (nI_cl i 2 hi) (nI_vp i 2 (by decide) hi) ?_
  refine s_callM (as := [vI (xs (i + 1)), vI (xs (i + 2))]) (st := [vI r]) (n := 2) (r := some (vI r)) (w' := w) mw_L_22 mv_X10_of (C_X10_of (l := l) hm) (le_b rfl) dL_law_258 rfl rfl (le_b rfl) hkc hkn ?_
  show XS _ l _ _ _ _ _ _ _ kc kn 261 [some (vR (95, 100, 0)), some (vR (0, 0, 0)), some (vR (40, 0, 0)), some (vI (nI i))] [vI r, vI r] (mg u w)
  refine s_icmp_eq (tgt := 1320) dL_law_261 (by decide) (fun _ => ?_) (fun hc => absurd rfl hc)
  exact cont u w hrel'
def OP_2 (Rel : PM → PM → Prop) : Prop := ∀ (u w : PM) (a0 : Int32) (a1 : Int32), Rel u w → ∃ (r : Int32) (u' w' : PM), f_X9_wood a0 a1 u = some (r, u') ∧ f_X10_wood a0 a1 w = some (r, w') ∧ Rel u' w'
set_option maxHeartbeats 4000000 in
set_option maxRecDepth 20000 in
theorem law_case_2 {l : Launch} {nm : String} {Rel : PM → PM → Prop} (H : OP_2 Rel) {N i kc kn mc ms : Nat} {xs : Nat → Int32} {T : Option AV × List Key × AM} (hi : i + 6 ≤ N ∧ N ≤ 3072) (hkc : kc ≤ mc) (hkn : kn ≤ ms) {u w : PM} (hrel : Rel u w) (cont : ∀ u' w', Rel u' w' → XS (sE N xs) l (mL nm) 2048 mc ms false T kA kc kn 1320 [some (vR (95, 100, 0)), some (vR (0, 0, 0)), some (vR (40, 0, 0)), some (vI (nI i))] [] (mg u' w')) : XS (sE N xs) l (mL nm) 2048 mc ms false T kA kc kn 266 [some (vR (95, 100, 0)), some (vR (0, 0, 0)), some (vR (40, 0, 0)), some (vI (nI i))] [] (mg u w) := by
  obtain ⟨r, u', w', hc, hm, hrel'⟩ := H u w (xs (i + 1)) (xs (i + 2)) hrel
  refine s_aload_n (x := (0, 0, 0)) dL_law_266 rfl ?_
  refine s_aload_n (x := (95, 100, 0)) dL_law_267 rfl ?_
  refine s_iload_n (x := nI i) dL_law_268 rfl ?_
  refine s_iconst (v := 1) dL_law_269 rfl ?_
  refine s_iadd dL_law_270 ?_
  refine s_sld (n := (i + 1)) dL_law_271 (nI_cl i 1 hi) (nI_vp i 1 (by decide) hi) ?_
  refine s_aload_n (x := (95, 100, 0)) dL_law_272 rfl ?_
  refine s_iload_n (x := nI i) dL_law_273 rfl ?_
  refine s_iconst (v := 2) dL_law_274 rfl ?_
  refine s_iadd dL_law_275 ?_
  refine s_sld (n := (i + 2)) dL_law_276 (nI_cl i 2 hi) (nI_vp i 2 (by decide) hi) ?_
  refine s_callC (as := [vI (xs (i + 1)), vI (xs (i + 2))]) (st := []) (n := 2) (r := some (vI r)) (u' := u') mw_L_23 mv_X9_wood (C_X9_wood (l := l) hc) (le_b rfl) dL_law_277 rfl rfl (le_b rfl) hkc hkn ?_
  show XS _ l _ _ _ _ _ _ _ kc kn 280 [some (vR (95, 100, 0)), some (vR (0, 0, 0)), some (vR (40, 0, 0)), some (vI (nI i))] [vI r] (mg u' w)
  refine s_aload_n (x := (40, 0, 0)) dL_law_280 rfl ?_
  refine s_aload_n (x := (95, 100, 0)) dL_law_281 rfl ?_
  refine s_iload_n (x := nI i) dL_law_282 rfl ?_
  refine s_iconst (v := 1) dL_law_283 rfl ?_
  refine s_iadd dL_law_284 ?_
  refine s_sld (n := (i + 1)) dL_law_285 (nI_cl i 1 hi) (nI_vp i 1 (by decide) hi) ?_
  refine s_aload_n (x := (95, 100, 0)) dL_law_286 rfl ?_
  refine s_iload_n (x := nI i) dL_law_287 rfl ?_
  refine s_iconst (v := 2) dL_law_288 rfl ?_
  refine s_iadd dL_law_289 ?_
  refine s_sld (n := (i + 2)) dL_law_290 (nI_cl i 2 hi) (nI_vp i 2 (by decide) hi) ?_
  refine s_callM (as := [vI (xs (i + 1)), vI (xs (i + 2))]) (st := [vI r]) (n := 2) (r := some (vI r)) (w' := w') mw_L_26 mv_X10_wood (C_X10_wood (l := l) hm) (le_b rfl) dL_law_291 rfl rfl (le_b rfl) hkc hkn ?_
  show XS _ l _ _ _ _ _ _ _ kc kn 294 [some (vR (95, 100, 0)), some (vR (0, 0, 0)), some (vR (40, 0, 0)), some (vI (nI i))] [vI r, vI r] (mg u' w')
  refine s_icmp_eq (tgt := 1320) dL_law_294 (by decide) (fun _ => ?_) (fun hc => absurd rfl hc)
  exact cont u' w' hrel'
def OP_3 (Rel : PM → PM → Prop) : Prop := ∀ (u w : PM) (a0 : Int32) (a1 : Int32), Rel u w → (a1 = 0 ∨ a1 = 1) → ∃ (r : Int32) (u' w' : PM), f_X9_light a0 a1 u = some (r, u') ∧ f_X10_light a0 a1 w = some (r, w') ∧ Rel u' w'
set_option maxHeartbeats 4000000 in
set_option maxRecDepth 20000 in
theorem law_case_3 {l : Launch} {nm : String} {Rel : PM → PM → Prop} (H : OP_3 Rel) {N i kc kn mc ms : Nat} {xs : Nat → Int32} {T : Option AV × List Key × AM} (hi : i + 6 ≤ N ∧ N ≤ 3072) (hkc : kc ≤ mc) (hkn : kn ≤ ms) {u w : PM} (hrel : Rel u w) (cont : ∀ u' w', Rel u' w' → XS (sE N xs) l (mL nm) 2048 mc ms false T kA kc kn 1320 [some (vR (95, 100, 0)), some (vR (0, 0, 0)), some (vR (40, 0, 0)), some (vI (nI i))] [] (mg u' w')) : XS (sE N xs) l (mL nm) 2048 mc ms false T kA kc kn 299 [some (vR (95, 100, 0)), some (vR (0, 0, 0)), some (vR (40, 0, 0)), some (vI (nI i))] [] (mg u w) := by
  by_cases hz : xs (i + 2) = 0
  · obtain ⟨r, u', w', hc, hm, hrel'⟩ := H u w (xs (i + 1)) (0 : Int32) hrel (Or.inl rfl)
    refine s_aload_n (x := (0, 0, 0)) dL_law_299 rfl ?_
    refine s_aload_n (x := (95, 100, 0)) dL_law_300 rfl ?_
    refine s_iload_n (x := nI i) dL_law_301 rfl ?_
    refine s_iconst (v := 1) dL_law_302 rfl ?_
    refine s_iadd dL_law_303 ?_
    refine s_sld (n := (i + 1)) dL_law_304 (nI_cl i 1 hi) (nI_vp i 1 (by decide) hi) ?_
    refine s_aload_n (x := (95, 100, 0)) dL_law_305 rfl ?_
    refine s_iload_n (x := nI i) dL_law_306 rfl ?_
    refine s_iconst (v := 2) dL_law_307 rfl ?_
    refine s_iadd dL_law_308 ?_
    refine s_sld (n := (i + 2)) dL_law_309 (nI_cl i 2 hi) (nI_vp i 2 (by decide) hi) ?_
    refine s_if_eq (tgt := 317) dL_law_310 (by decide) (fun _ => ?_) (fun hc => absurd hz hc)
    refine s_iconst (v := 0) dL_law_317 rfl ?_
    refine s_callC (as := [vI (xs (i + 1)), vI (0 : Int32)]) (st := []) (n := 2) (r := some (vI r)) (u' := u') mw_L_27 mv_X9_light (C_X9_light (l := l) hc) (le_b rfl) dL_law_318 rfl rfl (le_b rfl) hkc hkn ?_
    show XS _ l _ _ _ _ _ _ _ kc kn 321 [some (vR (95, 100, 0)), some (vR (0, 0, 0)), some (vR (40, 0, 0)), some (vI (nI i))] [vI r] (mg u' w)
    refine s_aload_n (x := (40, 0, 0)) dL_law_321 rfl ?_
    refine s_aload_n (x := (95, 100, 0)) dL_law_322 rfl ?_
    refine s_iload_n (x := nI i) dL_law_323 rfl ?_
    refine s_iconst (v := 1) dL_law_324 rfl ?_
    refine s_iadd dL_law_325 ?_
    refine s_sld (n := (i + 1)) dL_law_326 (nI_cl i 1 hi) (nI_vp i 1 (by decide) hi) ?_
    refine s_aload_n (x := (95, 100, 0)) dL_law_327 rfl ?_
    refine s_iload_n (x := nI i) dL_law_328 rfl ?_
    refine s_iconst (v := 2) dL_law_329 rfl ?_
    refine s_iadd dL_law_330 ?_
    refine s_sld (n := (i + 2)) dL_law_331 (nI_cl i 2 hi) (nI_vp i 2 (by decide) hi) ?_
    refine s_if_eq (tgt := 339) dL_law_332 (by decide) (fun _ => ?_) (fun hc => absurd hz hc)
    refine s_iconst (v := 0) dL_law_339 rfl ?_
    refine s_callM (as := [vI (xs (i + 1)), vI (0 : Int32)]) (st := [vI r]) (n := 2) (r := some (vI r)) (w' := w') mw_L_30 mv_X10_light (C_X10_light (l := l) hm) (le_b rfl) dL_law_340 rfl rfl (le_b rfl) hkc hkn ?_
    show XS _ l _ _ _ _ _ _ _ kc kn 343 [some (vR (95, 100, 0)), some (vR (0, 0, 0)), some (vR (40, 0, 0)), some (vI (nI i))] [vI r, vI r] (mg u' w')
    refine s_icmp_eq (tgt := 1320) dL_law_343 (by decide) (fun _ => ?_) (fun hc => absurd rfl hc)
    exact cont u' w' hrel'
  · obtain ⟨r, u', w', hc, hm, hrel'⟩ := H u w (xs (i + 1)) (1 : Int32) hrel (Or.inr rfl)
    refine s_aload_n (x := (0, 0, 0)) dL_law_299 rfl ?_
    refine s_aload_n (x := (95, 100, 0)) dL_law_300 rfl ?_
    refine s_iload_n (x := nI i) dL_law_301 rfl ?_
    refine s_iconst (v := 1) dL_law_302 rfl ?_
    refine s_iadd dL_law_303 ?_
    refine s_sld (n := (i + 1)) dL_law_304 (nI_cl i 1 hi) (nI_vp i 1 (by decide) hi) ?_
    refine s_aload_n (x := (95, 100, 0)) dL_law_305 rfl ?_
    refine s_iload_n (x := nI i) dL_law_306 rfl ?_
    refine s_iconst (v := 2) dL_law_307 rfl ?_
    refine s_iadd dL_law_308 ?_
    refine s_sld (n := (i + 2)) dL_law_309 (nI_cl i 2 hi) (nI_vp i 2 (by decide) hi) ?_
    refine s_if_eq (tgt := 317) dL_law_310 (by decide) (fun hc => absurd hc hz) (fun _ => ?_)
    refine s_iconst (v := 1) dL_law_313 rfl ?_
    refine s_goto (tgt := 318) dL_law_314 (by decide) ?_
    refine s_callC (as := [vI (xs (i + 1)), vI (1 : Int32)]) (st := []) (n := 2) (r := some (vI r)) (u' := u') mw_L_27 mv_X9_light (C_X9_light (l := l) hc) (le_b rfl) dL_law_318 rfl rfl (le_b rfl) hkc hkn ?_
    show XS _ l _ _ _ _ _ _ _ kc kn 321 [some (vR (95, 100, 0)), some (vR (0, 0, 0)), some (vR (40, 0, 0)), some (vI (nI i))] [vI r] (mg u' w)
    refine s_aload_n (x := (40, 0, 0)) dL_law_321 rfl ?_
    refine s_aload_n (x := (95, 100, 0)) dL_law_322 rfl ?_
    refine s_iload_n (x := nI i) dL_law_323 rfl ?_
    refine s_iconst (v := 1) dL_law_324 rfl ?_
    refine s_iadd dL_law_325 ?_
    refine s_sld (n := (i + 1)) dL_law_326 (nI_cl i 1 hi) (nI_vp i 1 (by decide) hi) ?_
    refine s_aload_n (x := (95, 100, 0)) dL_law_327 rfl ?_
    refine s_iload_n (x := nI i) dL_law_328 rfl ?_
    refine s_iconst (v := 2) dL_law_329 rfl ?_
    refine s_iadd dL_law_330 ?_
    refine s_sld (n := (i + 2)) dL_law_331 (nI_cl i 2 hi) (nI_vp i 2 (by decide) hi) ?_
    refine s_if_eq (tgt := 339) dL_law_332 (by decide) (fun hc => absurd hc hz) (fun _ => ?_)
    refine s_iconst (v := 1) dL_law_335 rfl ?_
    refine s_goto (tgt := 340) dL_law_336 (by decide) ?_
    refine s_callM (as := [vI (xs (i + 1)), vI (1 : Int32)]) (st := [vI r]) (n := 2) (r := some (vI r)) (w' := w') mw_L_30 mv_X10_light (C_X10_light (l := l) hm) (le_b rfl) dL_law_340 rfl rfl (le_b rfl) hkc hkn ?_
    show XS _ l _ _ _ _ _ _ _ kc kn 343 [some (vR (95, 100, 0)), some (vR (0, 0, 0)), some (vR (40, 0, 0)), some (vI (nI i))] [vI r, vI r] (mg u' w')
    refine s_icmp_eq (tgt := 1320) dL_law_343 (by decide) (fun _ => ?_) (fun hc => absurd rfl hc)
    exact cont u' w' hrel'
def OP_4 (Rel : PM → PM → Prop) : Prop := ∀ (u w : PM) (a0 : Int32) (a1 : Int32) (a2 : Int32), Rel u w → ∃ (r : Int32) (u' w' : PM), f_X9_way a0 a1 a2 u = some (r, u') ∧ f_X10_way a0 a1 a2 w = some (r, w') ∧ Rel u' w'
set_option maxHeartbeats 4000000 in
set_option maxRecDepth 20000 in
theorem law_case_4 {l : Launch} {nm : String} {Rel : PM → PM → Prop} (H : OP_4 Rel) {N i kc kn mc ms : Nat} {xs : Nat → Int32} {T : Option AV × List Key × AM} (hi : i + 6 ≤ N ∧ N ≤ 3072) (hkc : kc ≤ mc) (hkn : kn ≤ ms) {u w : PM} (hrel : Rel u w) (cont : ∀ u' w', Rel u' w' → XS (sE N xs) l (mL nm) 2048 mc ms false T kA kc kn 1320 [some (vR (95, 100, 0)), some (vR (0, 0, 0)), some (vR (40, 0, 0)), some (vI (nI i))] [] (mg u' w')) : XS (sE N xs) l (mL nm) 2048 mc ms false T kA kc kn 348 [some (vR (95, 100, 0)), some (vR (0, 0, 0)), some (vR (40, 0, 0)), some (vI (nI i))] [] (mg u w) := by
  obtain ⟨r, u', w', hc, hm, hrel'⟩ := H u w (xs (i + 1)) (xs (i + 2)) (xs (i + 3)) hrel
  refine s_aload_n (x := (0, 0, 0)) dL_law_348 rfl ?_
  refine s_aload_n (x := (95, 100, 0)) dL_law_349 rfl ?_
  refine s_iload_n (x := nI i) dL_law_350 rfl ?_
  refine s_iconst (v := 1) dL_law_351 rfl ?_
  refine s_iadd dL_law_352 ?_
  refine s_sld (n := (i + 1)) dL_law_353 (nI_cl i 1 hi) (nI_vp i 1 (by decide) hi) ?_
  refine s_aload_n (x := (95, 100, 0)) dL_law_354 rfl ?_
  refine s_iload_n (x := nI i) dL_law_355 rfl ?_
  refine s_iconst (v := 2) dL_law_356 rfl ?_
  refine s_iadd dL_law_357 ?_
  refine s_sld (n := (i + 2)) dL_law_358 (nI_cl i 2 hi) (nI_vp i 2 (by decide) hi) ?_
  refine s_aload_n (x := (95, 100, 0)) dL_law_359 rfl ?_
  refine s_iload_n (x := nI i) dL_law_360 rfl ?_
  refine s_iconst (v := 3) dL_law_361 rfl ?_
  refine s_iadd dL_law_362 ?_
  refine s_sld (n := (i + 3)) dL_law_363 (nI_cl i 3 hi) (nI_vp i 3 (by decide) hi) ?_
  refine s_callC (as := [vI (xs (i + 1)), vI (xs (i + 2)), vI (xs (i + 3))]) (st := []) (n := 3) (r := some (vI r)) (u' := u') mw_L_31 mv_X9_way (C_X9_way (l := l) hc) (le_b rfl) dL_law_364 rfl rfl (le_b rfl) hkc hkn ?_
  show XS _ l _ _ _ _ _ _ _ kc kn 367 [some (vR (95, 100, 0)), some (vR (0, 0, 0)), some (vR (40, 0, 0)), some (vI (nI i))] [vI r] (mg u' w)
  refine s_aload_n (x := (40, 0, 0)) dL_law_367 rfl ?_
  refine s_aload_n (x := (95, 100, 0)) dL_law_368 rfl ?_
  refine s_iload_n (x := nI i) dL_law_369 rfl ?_
  refine s_iconst (v := 1) dL_law_370 rfl ?_
  refine s_iadd dL_law_371 ?_
  refine s_sld (n := (i + 1)) dL_law_372 (nI_cl i 1 hi) (nI_vp i 1 (by decide) hi) ?_
  refine s_aload_n (x := (95, 100, 0)) dL_law_373 rfl ?_
  refine s_iload_n (x := nI i) dL_law_374 rfl ?_
  refine s_iconst (v := 2) dL_law_375 rfl ?_
  refine s_iadd dL_law_376 ?_
  refine s_sld (n := (i + 2)) dL_law_377 (nI_cl i 2 hi) (nI_vp i 2 (by decide) hi) ?_
  refine s_aload_n (x := (95, 100, 0)) dL_law_378 rfl ?_
  refine s_iload_n (x := nI i) dL_law_379 rfl ?_
  refine s_iconst (v := 3) dL_law_380 rfl ?_
  refine s_iadd dL_law_381 ?_
  refine s_sld (n := (i + 3)) dL_law_382 (nI_cl i 3 hi) (nI_vp i 3 (by decide) hi) ?_
  refine s_callM (as := [vI (xs (i + 1)), vI (xs (i + 2)), vI (xs (i + 3))]) (st := [vI r]) (n := 3) (r := some (vI r)) (w' := w') mw_L_35 mv_X10_way (C_X10_way (l := l) hm) (le_b rfl) dL_law_383 rfl rfl (le_b rfl) hkc hkn ?_
  show XS _ l _ _ _ _ _ _ _ kc kn 386 [some (vR (95, 100, 0)), some (vR (0, 0, 0)), some (vR (40, 0, 0)), some (vI (nI i))] [vI r, vI r] (mg u' w')
  refine s_icmp_eq (tgt := 1320) dL_law_386 (by decide) (fun _ => ?_) (fun hc => absurd rfl hc)
  exact cont u' w' hrel'
def OP_5 (Rel : PM → PM → Prop) : Prop := ∀ (u w : PM) (a0 : Int32) (a1 : Int32), Rel u w → ∃ (r : Int32) (u' w' : PM), f_X9_feed a0 a1 u = some (r, u') ∧ f_X10_feed a0 a1 w = some (r, w') ∧ Rel u' w'
set_option maxHeartbeats 4000000 in
set_option maxRecDepth 20000 in
theorem law_case_5 {l : Launch} {nm : String} {Rel : PM → PM → Prop} (H : OP_5 Rel) {N i kc kn mc ms : Nat} {xs : Nat → Int32} {T : Option AV × List Key × AM} (hi : i + 6 ≤ N ∧ N ≤ 3072) (hkc : kc ≤ mc) (hkn : kn ≤ ms) {u w : PM} (hrel : Rel u w) (cont : ∀ u' w', Rel u' w' → XS (sE N xs) l (mL nm) 2048 mc ms false T kA kc kn 1320 [some (vR (95, 100, 0)), some (vR (0, 0, 0)), some (vR (40, 0, 0)), some (vI (nI i))] [] (mg u' w')) : XS (sE N xs) l (mL nm) 2048 mc ms false T kA kc kn 391 [some (vR (95, 100, 0)), some (vR (0, 0, 0)), some (vR (40, 0, 0)), some (vI (nI i))] [] (mg u w) := by
  obtain ⟨r, u', w', hc, hm, hrel'⟩ := H u w (xs (i + 1)) (xs (i + 2)) hrel
  refine s_aload_n (x := (0, 0, 0)) dL_law_391 rfl ?_
  refine s_aload_n (x := (95, 100, 0)) dL_law_392 rfl ?_
  refine s_iload_n (x := nI i) dL_law_393 rfl ?_
  refine s_iconst (v := 1) dL_law_394 rfl ?_
  refine s_iadd dL_law_395 ?_
  refine s_sld (n := (i + 1)) dL_law_396 (nI_cl i 1 hi) (nI_vp i 1 (by decide) hi) ?_
  refine s_aload_n (x := (95, 100, 0)) dL_law_397 rfl ?_
  refine s_iload_n (x := nI i) dL_law_398 rfl ?_
  refine s_iconst (v := 2) dL_law_399 rfl ?_
  refine s_iadd dL_law_400 ?_
  refine s_sld (n := (i + 2)) dL_law_401 (nI_cl i 2 hi) (nI_vp i 2 (by decide) hi) ?_
  refine s_callC (as := [vI (xs (i + 1)), vI (xs (i + 2))]) (st := []) (n := 2) (r := some (vI r)) (u' := u') mw_L_36 mv_X9_feed (C_X9_feed (l := l) hc) (le_b rfl) dL_law_402 rfl rfl (le_b rfl) hkc hkn ?_
  show XS _ l _ _ _ _ _ _ _ kc kn 405 [some (vR (95, 100, 0)), some (vR (0, 0, 0)), some (vR (40, 0, 0)), some (vI (nI i))] [vI r] (mg u' w)
  refine s_aload_n (x := (40, 0, 0)) dL_law_405 rfl ?_
  refine s_aload_n (x := (95, 100, 0)) dL_law_406 rfl ?_
  refine s_iload_n (x := nI i) dL_law_407 rfl ?_
  refine s_iconst (v := 1) dL_law_408 rfl ?_
  refine s_iadd dL_law_409 ?_
  refine s_sld (n := (i + 1)) dL_law_410 (nI_cl i 1 hi) (nI_vp i 1 (by decide) hi) ?_
  refine s_aload_n (x := (95, 100, 0)) dL_law_411 rfl ?_
  refine s_iload_n (x := nI i) dL_law_412 rfl ?_
  refine s_iconst (v := 2) dL_law_413 rfl ?_
  refine s_iadd dL_law_414 ?_
  refine s_sld (n := (i + 2)) dL_law_415 (nI_cl i 2 hi) (nI_vp i 2 (by decide) hi) ?_
  refine s_callM (as := [vI (xs (i + 1)), vI (xs (i + 2))]) (st := [vI r]) (n := 2) (r := some (vI r)) (w' := w') mw_L_39 mv_X10_feed (C_X10_feed (l := l) hm) (le_b rfl) dL_law_416 rfl rfl (le_b rfl) hkc hkn ?_
  show XS _ l _ _ _ _ _ _ _ kc kn 419 [some (vR (95, 100, 0)), some (vR (0, 0, 0)), some (vR (40, 0, 0)), some (vI (nI i))] [vI r, vI r] (mg u' w')
  refine s_icmp_eq (tgt := 1320) dL_law_419 (by decide) (fun _ => ?_) (fun hc => absurd rfl hc)
  exact cont u' w' hrel'
def OP_6 (Rel : PM → PM → Prop) : Prop := ∀ (u w : PM) , Rel u w → ∃ (r : Int32) (u' w' : PM), f_X9_land u = some (r, u') ∧ f_X10_land w = some (r, w') ∧ Rel u' w'
set_option maxHeartbeats 4000000 in
set_option maxRecDepth 20000 in
theorem law_case_6 {l : Launch} {nm : String} {Rel : PM → PM → Prop} (H : OP_6 Rel) {N i kc kn mc ms : Nat} {xs : Nat → Int32} {T : Option AV × List Key × AM} (hi : i + 6 ≤ N ∧ N ≤ 3072) (hkc : kc ≤ mc) (hkn : kn ≤ ms) {u w : PM} (hrel : Rel u w) (cont : ∀ u' w', Rel u' w' → XS (sE N xs) l (mL nm) 2048 mc ms false T kA kc kn 1320 [some (vR (95, 100, 0)), some (vR (0, 0, 0)), some (vR (40, 0, 0)), some (vI (nI i))] [] (mg u' w')) : XS (sE N xs) l (mL nm) 2048 mc ms false T kA kc kn 424 [some (vR (95, 100, 0)), some (vR (0, 0, 0)), some (vR (40, 0, 0)), some (vI (nI i))] [] (mg u w) := by
  obtain ⟨r, u', w', hc, hm, hrel'⟩ := H u w  hrel
  refine s_aload_n (x := (0, 0, 0)) dL_law_424 rfl ?_
  refine s_callC (as := []) (st := []) (n := 0) (r := some (vI r)) (u' := u') mw_L_40 mv_X9_land (C_X9_land (l := l) hc) (le_b rfl) dL_law_425 rfl rfl (le_b rfl) hkc hkn ?_
  show XS _ l _ _ _ _ _ _ _ kc kn 428 [some (vR (95, 100, 0)), some (vR (0, 0, 0)), some (vR (40, 0, 0)), some (vI (nI i))] [vI r] (mg u' w)
  refine s_aload_n (x := (40, 0, 0)) dL_law_428 rfl ?_
  refine s_callM (as := []) (st := [vI r]) (n := 0) (r := some (vI r)) (w' := w') mw_L_44 mv_X10_land (C_X10_land (l := l) hm) (le_b rfl) dL_law_429 rfl rfl (le_b rfl) hkc hkn ?_
  show XS _ l _ _ _ _ _ _ _ kc kn 432 [some (vR (95, 100, 0)), some (vR (0, 0, 0)), some (vR (40, 0, 0)), some (vI (nI i))] [vI r, vI r] (mg u' w')
  refine s_icmp_eq (tgt := 1320) dL_law_432 (by decide) (fun _ => ?_) (fun hc => absurd rfl hc)
  exact cont u' w' hrel'
def OP_7 (Rel : PM → PM → Prop) : Prop := ∀ (u w : PM) (a0 : Int32) (a1 : Int32) (a2 : Int32), Rel u w → ∃ (r : Int32) (u' w' : PM), f_X9_told a0 a1 a2 u = some (r, u') ∧ f_X10_told a0 a1 a2 w = some (r, w') ∧ Rel u' w'
set_option maxHeartbeats 4000000 in
set_option maxRecDepth 20000 in
theorem law_case_7 {l : Launch} {nm : String} {Rel : PM → PM → Prop} (H : OP_7 Rel) {N i kc kn mc ms : Nat} {xs : Nat → Int32} {T : Option AV × List Key × AM} (hi : i + 6 ≤ N ∧ N ≤ 3072) (hkc : kc ≤ mc) (hkn : kn ≤ ms) {u w : PM} (hrel : Rel u w) (cont : ∀ u' w', Rel u' w' → XS (sE N xs) l (mL nm) 2048 mc ms false T kA kc kn 1320 [some (vR (95, 100, 0)), some (vR (0, 0, 0)), some (vR (40, 0, 0)), some (vI (nI i))] [] (mg u' w')) : XS (sE N xs) l (mL nm) 2048 mc ms false T kA kc kn 437 [some (vR (95, 100, 0)), some (vR (0, 0, 0)), some (vR (40, 0, 0)), some (vI (nI i))] [] (mg u w) := by
  obtain ⟨r, u', w', hc, hm, hrel'⟩ := H u w (xs (i + 1)) (xs (i + 2)) (xs (i + 3)) hrel
  refine s_aload_n (x := (0, 0, 0)) dL_law_437 rfl ?_
  refine s_aload_n (x := (95, 100, 0)) dL_law_438 rfl ?_
  refine s_iload_n (x := nI i) dL_law_439 rfl ?_
  refine s_iconst (v := 1) dL_law_440 rfl ?_
  refine s_iadd dL_law_441 ?_
  refine s_sld (n := (i + 1)) dL_law_442 (nI_cl i 1 hi) (nI_vp i 1 (by decide) hi) ?_
  refine s_aload_n (x := (95, 100, 0)) dL_law_443 rfl ?_
  refine s_iload_n (x := nI i) dL_law_444 rfl ?_
  refine s_iconst (v := 2) dL_law_445 rfl ?_
  refine s_iadd dL_law_446 ?_
  refine s_sld (n := (i + 2)) dL_law_447 (nI_cl i 2 hi) (nI_vp i 2 (by decide) hi) ?_
  refine s_aload_n (x := (95, 100, 0)) dL_law_448 rfl ?_
  refine s_iload_n (x := nI i) dL_law_449 rfl ?_
  refine s_iconst (v := 3) dL_law_450 rfl ?_
  refine s_iadd dL_law_451 ?_
  refine s_sld (n := (i + 3)) dL_law_452 (nI_cl i 3 hi) (nI_vp i 3 (by decide) hi) ?_
  refine s_callC (as := [vI (xs (i + 1)), vI (xs (i + 2)), vI (xs (i + 3))]) (st := []) (n := 3) (r := some (vI r)) (u' := u') mw_L_45 mv_X9_told (C_X9_told (l := l) hc) (le_b rfl) dL_law_453 rfl rfl (le_b rfl) hkc hkn ?_
  show XS _ l _ _ _ _ _ _ _ kc kn 456 [some (vR (95, 100, 0)), some (vR (0, 0, 0)), some (vR (40, 0, 0)), some (vI (nI i))] [vI r] (mg u' w)
  refine s_aload_n (x := (40, 0, 0)) dL_law_456 rfl ?_
  refine s_aload_n (x := (95, 100, 0)) dL_law_457 rfl ?_
  refine s_iload_n (x := nI i) dL_law_458 rfl ?_
  refine s_iconst (v := 1) dL_law_459 rfl ?_
  refine s_iadd dL_law_460 ?_
  refine s_sld (n := (i + 1)) dL_law_461 (nI_cl i 1 hi) (nI_vp i 1 (by decide) hi) ?_
  refine s_aload_n (x := (95, 100, 0)) dL_law_462 rfl ?_
  refine s_iload_n (x := nI i) dL_law_463 rfl ?_
  refine s_iconst (v := 2) dL_law_464 rfl ?_
  refine s_iadd dL_law_465 ?_
  refine s_sld (n := (i + 2)) dL_law_466 (nI_cl i 2 hi) (nI_vp i 2 (by decide) hi) ?_
  refine s_aload_n (x := (95, 100, 0)) dL_law_467 rfl ?_
  refine s_iload_n (x := nI i) dL_law_468 rfl ?_
  refine s_iconst (v := 3) dL_law_469 rfl ?_
  refine s_iadd dL_law_470 ?_
  refine s_sld (n := (i + 3)) dL_law_471 (nI_cl i 3 hi) (nI_vp i 3 (by decide) hi) ?_
  refine s_callM (as := [vI (xs (i + 1)), vI (xs (i + 2)), vI (xs (i + 3))]) (st := [vI r]) (n := 3) (r := some (vI r)) (w' := w') mw_L_48 mv_X10_told (C_X10_told (l := l) hm) (le_b rfl) dL_law_472 rfl rfl (le_b rfl) hkc hkn ?_
  show XS _ l _ _ _ _ _ _ _ kc kn 475 [some (vR (95, 100, 0)), some (vR (0, 0, 0)), some (vR (40, 0, 0)), some (vI (nI i))] [vI r, vI r] (mg u' w')
  refine s_icmp_eq (tgt := 1320) dL_law_475 (by decide) (fun _ => ?_) (fun hc => absurd rfl hc)
  exact cont u' w' hrel'
def OP_8 (Rel : PM → PM → Prop) : Prop := ∀ (u w : PM) (a0 : Int32) (a1 : Int32), Rel u w → ∃ (r : Int32) (u' w' : PM), f_X9_follows a0 a1 u = some r ∧ f_X10_follows a0 a1 w = some (r, w') ∧ Rel u' w' ∧ u = u'
set_option maxHeartbeats 4000000 in
set_option maxRecDepth 20000 in
theorem law_case_8 {l : Launch} {nm : String} {Rel : PM → PM → Prop} (H : OP_8 Rel) {N i kc kn mc ms : Nat} {xs : Nat → Int32} {T : Option AV × List Key × AM} (hi : i + 6 ≤ N ∧ N ≤ 3072) (hkc : kc ≤ mc) (hkn : kn ≤ ms) {u w : PM} (hrel : Rel u w) (cont : ∀ u' w', Rel u' w' → XS (sE N xs) l (mL nm) 2048 mc ms false T kA kc kn 1320 [some (vR (95, 100, 0)), some (vR (0, 0, 0)), some (vR (40, 0, 0)), some (vI (nI i))] [] (mg u' w')) : XS (sE N xs) l (mL nm) 2048 mc ms false T kA kc kn 480 [some (vR (95, 100, 0)), some (vR (0, 0, 0)), some (vR (40, 0, 0)), some (vI (nI i))] [] (mg u w) := by
  obtain ⟨r, u', w', hc, hm, hrel', rfl⟩ := H u w (xs (i + 1)) (xs (i + 2)) hrel
  refine s_aload_n (x := (0, 0, 0)) dL_law_480 rfl ?_
  refine s_aload_n (x := (95, 100, 0)) dL_law_481 rfl ?_
  refine s_iload_n (x := nI i) dL_law_482 rfl ?_
  refine s_iconst (v := 1) dL_law_483 rfl ?_
  refine s_iadd dL_law_484 ?_
  refine s_sld (n := (i + 1)) dL_law_485 (nI_cl i 1 hi) (nI_vp i 1 (by decide) hi) ?_
  refine s_aload_n (x := (95, 100, 0)) dL_law_486 rfl ?_
  refine s_iload_n (x := nI i) dL_law_487 rfl ?_
  refine s_iconst (v := 2) dL_law_488 rfl ?_
  refine s_iadd dL_law_489 ?_
  refine s_sld (n := (i + 2)) dL_law_490 (nI_cl i 2 hi) (nI_vp i 2 (by decide) hi) ?_
  refine s_callC (as := [vI (xs (i + 1)), vI (xs (i + 2))]) (st := []) (n := 2) (r := some (vI r)) (u' := u) mw_L_49 mv_X9_follows (C_X9_follows (l := l) hc) (le_b rfl) dL_law_491 rfl rfl (le_b rfl) hkc hkn ?_
  show XS _ l _ _ _ _ _ _ _ kc kn 494 [some (vR (95, 100, 0)), some (vR (0, 0, 0)), some (vR (40, 0, 0)), some (vI (nI i))] [vI r] (mg u w)
  refine s_aload_n (x := (40, 0, 0)) dL_law_494 rfl ?_
  refine s_aload_n (x := (95, 100, 0)) dL_law_495 rfl ?_
  refine s_iload_n (x := nI i) dL_law_496 rfl ?_
  refine s_iconst (v := 1) dL_law_497 rfl ?_
  refine s_iadd dL_law_498 ?_
  refine s_sld (n := (i + 1)) dL_law_499 (nI_cl i 1 hi) (nI_vp i 1 (by decide) hi) ?_
  refine s_aload_n (x := (95, 100, 0)) dL_law_500 rfl ?_
  refine s_iload_n (x := nI i) dL_law_501 rfl ?_
  refine s_iconst (v := 2) dL_law_502 rfl ?_
  refine s_iadd dL_law_503 ?_
  refine s_sld (n := (i + 2)) dL_law_504 (nI_cl i 2 hi) (nI_vp i 2 (by decide) hi) ?_
  refine s_callM (as := [vI (xs (i + 1)), vI (xs (i + 2))]) (st := [vI r]) (n := 2) (r := some (vI r)) (w' := w') mw_L_52 mv_X10_follows (C_X10_follows (l := l) hm) (le_b rfl) dL_law_505 rfl rfl (le_b rfl) hkc hkn ?_
  show XS _ l _ _ _ _ _ _ _ kc kn 508 [some (vR (95, 100, 0)), some (vR (0, 0, 0)), some (vR (40, 0, 0)), some (vI (nI i))] [vI r, vI r] (mg u w')
  refine s_icmp_eq (tgt := 1320) dL_law_508 (by decide) (fun _ => ?_) (fun hc => absurd rfl hc)
  exact cont u w' hrel'
def OP_9 (Rel : PM → PM → Prop) : Prop := ∀ (u w : PM) (a0 : Int32) (a1 : Int32) (a2 : Int32) (a3 : Int32), Rel u w → ∃ (r : Int32) (u' w' : PM), f_X9_keeper a0 a1 a2 a3 u = some (r, u') ∧ f_X10_keeper a0 a1 a2 a3 w = some (r, w') ∧ Rel u' w'
set_option maxHeartbeats 4000000 in
set_option maxRecDepth 20000 in
theorem law_case_9 {l : Launch} {nm : String} {Rel : PM → PM → Prop} (H : OP_9 Rel) {N i kc kn mc ms : Nat} {xs : Nat → Int32} {T : Option AV × List Key × AM} (hi : i + 6 ≤ N ∧ N ≤ 3072) (hkc : kc ≤ mc) (hkn : kn ≤ ms) {u w : PM} (hrel : Rel u w) (cont : ∀ u' w', Rel u' w' → XS (sE N xs) l (mL nm) 2048 mc ms false T kA kc kn 1320 [some (vR (95, 100, 0)), some (vR (0, 0, 0)), some (vR (40, 0, 0)), some (vI (nI i))] [] (mg u' w')) : XS (sE N xs) l (mL nm) 2048 mc ms false T kA kc kn 513 [some (vR (95, 100, 0)), some (vR (0, 0, 0)), some (vR (40, 0, 0)), some (vI (nI i))] [] (mg u w) := by
  obtain ⟨r, u', w', hc, hm, hrel'⟩ := H u w (xs (i + 1)) (xs (i + 2)) (xs (i + 3)) (xs (i + 4)) hrel
  refine s_aload_n (x := (0, 0, 0)) dL_law_513 rfl ?_
  refine s_aload_n (x := (95, 100, 0)) dL_law_514 rfl ?_
  refine s_iload_n (x := nI i) dL_law_515 rfl ?_
  refine s_iconst (v := 1) dL_law_516 rfl ?_
  refine s_iadd dL_law_517 ?_
  refine s_sld (n := (i + 1)) dL_law_518 (nI_cl i 1 hi) (nI_vp i 1 (by decide) hi) ?_
  refine s_aload_n (x := (95, 100, 0)) dL_law_519 rfl ?_
  refine s_iload_n (x := nI i) dL_law_520 rfl ?_
  refine s_iconst (v := 2) dL_law_521 rfl ?_
  refine s_iadd dL_law_522 ?_
  refine s_sld (n := (i + 2)) dL_law_523 (nI_cl i 2 hi) (nI_vp i 2 (by decide) hi) ?_
  refine s_aload_n (x := (95, 100, 0)) dL_law_524 rfl ?_
  refine s_iload_n (x := nI i) dL_law_525 rfl ?_
  refine s_iconst (v := 3) dL_law_526 rfl ?_
  refine s_iadd dL_law_527 ?_
  refine s_sld (n := (i + 3)) dL_law_528 (nI_cl i 3 hi) (nI_vp i 3 (by decide) hi) ?_
  refine s_aload_n (x := (95, 100, 0)) dL_law_529 rfl ?_
  refine s_iload_n (x := nI i) dL_law_530 rfl ?_
  refine s_iconst (v := 4) dL_law_531 rfl ?_
  refine s_iadd dL_law_532 ?_
  refine s_sld (n := (i + 4)) dL_law_533 (nI_cl i 4 hi) (nI_vp i 4 (by decide) hi) ?_
  refine s_callC (as := [vI (xs (i + 1)), vI (xs (i + 2)), vI (xs (i + 3)), vI (xs (i + 4))]) (st := []) (n := 4) (r := some (vI r)) (u' := u') mw_L_53 mv_X9_keeper (C_X9_keeper (l := l) hc) (le_b rfl) dL_law_534 rfl rfl (le_b rfl) hkc hkn ?_
  show XS _ l _ _ _ _ _ _ _ kc kn 537 [some (vR (95, 100, 0)), some (vR (0, 0, 0)), some (vR (40, 0, 0)), some (vI (nI i))] [vI r] (mg u' w)
  refine s_aload_n (x := (40, 0, 0)) dL_law_537 rfl ?_
  refine s_aload_n (x := (95, 100, 0)) dL_law_538 rfl ?_
  refine s_iload_n (x := nI i) dL_law_539 rfl ?_
  refine s_iconst (v := 1) dL_law_540 rfl ?_
  refine s_iadd dL_law_541 ?_
  refine s_sld (n := (i + 1)) dL_law_542 (nI_cl i 1 hi) (nI_vp i 1 (by decide) hi) ?_
  refine s_aload_n (x := (95, 100, 0)) dL_law_543 rfl ?_
  refine s_iload_n (x := nI i) dL_law_544 rfl ?_
  refine s_iconst (v := 2) dL_law_545 rfl ?_
  refine s_iadd dL_law_546 ?_
  refine s_sld (n := (i + 2)) dL_law_547 (nI_cl i 2 hi) (nI_vp i 2 (by decide) hi) ?_
  refine s_aload_n (x := (95, 100, 0)) dL_law_548 rfl ?_
  refine s_iload_n (x := nI i) dL_law_549 rfl ?_
  refine s_iconst (v := 3) dL_law_550 rfl ?_
  refine s_iadd dL_law_551 ?_
  refine s_sld (n := (i + 3)) dL_law_552 (nI_cl i 3 hi) (nI_vp i 3 (by decide) hi) ?_
  refine s_aload_n (x := (95, 100, 0)) dL_law_553 rfl ?_
  refine s_iload_n (x := nI i) dL_law_554 rfl ?_
  refine s_iconst (v := 4) dL_law_555 rfl ?_
  refine s_iadd dL_law_556 ?_
  refine s_sld (n := (i + 4)) dL_law_557 (nI_cl i 4 hi) (nI_vp i 4 (by decide) hi) ?_
  refine s_callM (as := [vI (xs (i + 1)), vI (xs (i + 2)), vI (xs (i + 3)), vI (xs (i + 4))]) (st := [vI r]) (n := 4) (r := some (vI r)) (w' := w') mw_L_57 mv_X10_keeper (C_X10_keeper (l := l) hm) (le_b rfl) dL_law_558 rfl rfl (le_b rfl) hkc hkn ?_
  show XS _ l _ _ _ _ _ _ _ kc kn 561 [some (vR (95, 100, 0)), some (vR (0, 0, 0)), some (vR (40, 0, 0)), some (vI (nI i))] [vI r, vI r] (mg u' w')
  refine s_icmp_eq (tgt := 1320) dL_law_561 (by decide) (fun _ => ?_) (fun hc => absurd rfl hc)
  exact cont u' w' hrel'
def OP_10 (Rel : PM → PM → Prop) : Prop := ∀ (u w : PM) (a0 : Int32) (a1 : Int32), Rel u w → ∃ (r : Int32) (u' w' : PM), f_X9_would a0 a1 u = some (r, u') ∧ f_X10_would a0 a1 w = some (r, w') ∧ Rel u' w'
set_option maxHeartbeats 4000000 in
set_option maxRecDepth 20000 in
theorem law_case_10 {l : Launch} {nm : String} {Rel : PM → PM → Prop} (H : OP_10 Rel) {N i kc kn mc ms : Nat} {xs : Nat → Int32} {T : Option AV × List Key × AM} (hi : i + 6 ≤ N ∧ N ≤ 3072) (hkc : kc ≤ mc) (hkn : kn ≤ ms) {u w : PM} (hrel : Rel u w) (cont : ∀ u' w', Rel u' w' → XS (sE N xs) l (mL nm) 2048 mc ms false T kA kc kn 1320 [some (vR (95, 100, 0)), some (vR (0, 0, 0)), some (vR (40, 0, 0)), some (vI (nI i))] [] (mg u' w')) : XS (sE N xs) l (mL nm) 2048 mc ms false T kA kc kn 566 [some (vR (95, 100, 0)), some (vR (0, 0, 0)), some (vR (40, 0, 0)), some (vI (nI i))] [] (mg u w) := by
  obtain ⟨r, u', w', hc, hm, hrel'⟩ := H u w (xs (i + 1)) (xs (i + 2)) hrel
  refine s_aload_n (x := (0, 0, 0)) dL_law_566 rfl ?_
  refine s_aload_n (x := (95, 100, 0)) dL_law_567 rfl ?_
  refine s_iload_n (x := nI i) dL_law_568 rfl ?_
  refine s_iconst (v := 1) dL_law_569 rfl ?_
  refine s_iadd dL_law_570 ?_
  refine s_sld (n := (i + 1)) dL_law_571 (nI_cl i 1 hi) (nI_vp i 1 (by decide) hi) ?_
  refine s_aload_n (x := (95, 100, 0)) dL_law_572 rfl ?_
  refine s_iload_n (x := nI i) dL_law_573 rfl ?_
  refine s_iconst (v := 2) dL_law_574 rfl ?_
  refine s_iadd dL_law_575 ?_
  refine s_sld (n := (i + 2)) dL_law_576 (nI_cl i 2 hi) (nI_vp i 2 (by decide) hi) ?_
  refine s_callC (as := [vI (xs (i + 1)), vI (xs (i + 2))]) (st := []) (n := 2) (r := some (vI r)) (u' := u') mw_L_58 mv_X9_would (C_X9_would (l := l) hc) (le_b rfl) dL_law_577 rfl rfl (le_b rfl) hkc hkn ?_
  show XS _ l _ _ _ _ _ _ _ kc kn 580 [some (vR (95, 100, 0)), some (vR (0, 0, 0)), some (vR (40, 0, 0)), some (vI (nI i))] [vI r] (mg u' w)
  refine s_aload_n (x := (40, 0, 0)) dL_law_580 rfl ?_
  refine s_aload_n (x := (95, 100, 0)) dL_law_581 rfl ?_
  refine s_iload_n (x := nI i) dL_law_582 rfl ?_
  refine s_iconst (v := 1) dL_law_583 rfl ?_
  refine s_iadd dL_law_584 ?_
  refine s_sld (n := (i + 1)) dL_law_585 (nI_cl i 1 hi) (nI_vp i 1 (by decide) hi) ?_
  refine s_aload_n (x := (95, 100, 0)) dL_law_586 rfl ?_
  refine s_iload_n (x := nI i) dL_law_587 rfl ?_
  refine s_iconst (v := 2) dL_law_588 rfl ?_
  refine s_iadd dL_law_589 ?_
  refine s_sld (n := (i + 2)) dL_law_590 (nI_cl i 2 hi) (nI_vp i 2 (by decide) hi) ?_
  refine s_callM (as := [vI (xs (i + 1)), vI (xs (i + 2))]) (st := [vI r]) (n := 2) (r := some (vI r)) (w' := w') mw_L_61 mv_X10_would (C_X10_would (l := l) hm) (le_b rfl) dL_law_591 rfl rfl (le_b rfl) hkc hkn ?_
  show XS _ l _ _ _ _ _ _ _ kc kn 594 [some (vR (95, 100, 0)), some (vR (0, 0, 0)), some (vR (40, 0, 0)), some (vI (nI i))] [vI r, vI r] (mg u' w')
  refine s_icmp_eq (tgt := 1320) dL_law_594 (by decide) (fun _ => ?_) (fun hc => absurd rfl hc)
  exact cont u' w' hrel'
def OP_11 (Rel : PM → PM → Prop) : Prop := ∀ (u w : PM) (a0 : Int32) (a1 : Int32), Rel u w → ∃ (r : Int32) (u' w' : PM), f_X9_go a0 a1 u = some (r, u') ∧ f_X10_go a0 a1 w = some (r, w') ∧ Rel u' w'
set_option maxHeartbeats 4000000 in
set_option maxRecDepth 20000 in
theorem law_case_11 {l : Launch} {nm : String} {Rel : PM → PM → Prop} (H : OP_11 Rel) {N i kc kn mc ms : Nat} {xs : Nat → Int32} {T : Option AV × List Key × AM} (hi : i + 6 ≤ N ∧ N ≤ 3072) (hkc : kc ≤ mc) (hkn : kn ≤ ms) {u w : PM} (hrel : Rel u w) (cont : ∀ u' w', Rel u' w' → XS (sE N xs) l (mL nm) 2048 mc ms false T kA kc kn 1320 [some (vR (95, 100, 0)), some (vR (0, 0, 0)), some (vR (40, 0, 0)), some (vI (nI i))] [] (mg u' w')) : XS (sE N xs) l (mL nm) 2048 mc ms false T kA kc kn 599 [some (vR (95, 100, 0)), some (vR (0, 0, 0)), some (vR (40, 0, 0)), some (vI (nI i))] [] (mg u w) := by
  obtain ⟨r, u', w', hc, hm, hrel'⟩ := H u w (xs (i + 1)) (xs (i + 2)) hrel
  refine s_aload_n (x := (0, 0, 0)) dL_law_599 rfl ?_
  refine s_aload_n (x := (95, 100, 0)) dL_law_600 rfl ?_
  refine s_iload_n (x := nI i) dL_law_601 rfl ?_
  refine s_iconst (v := 1) dL_law_602 rfl ?_
  refine s_iadd dL_law_603 ?_
  refine s_sld (n := (i + 1)) dL_law_604 (nI_cl i 1 hi) (nI_vp i 1 (by decide) hi) ?_
  refine s_aload_n (x := (95, 100, 0)) dL_law_605 rfl ?_
  refine s_iload_n (x := nI i) dL_law_606 rfl ?_
  refine s_iconst (v := 2) dL_law_607 rfl ?_
  refine s_iadd dL_law_608 ?_
  refine s_sld (n := (i + 2)) dL_law_609 (nI_cl i 2 hi) (nI_vp i 2 (by decide) hi) ?_
  refine s_callC (as := [vI (xs (i + 1)), vI (xs (i + 2))]) (st := []) (n := 2) (r := some (vI r)) (u' := u') mw_L_62 mv_X9_go (C_X9_go (l := l) hc) (le_b rfl) dL_law_610 rfl rfl (le_b rfl) hkc hkn ?_
  show XS _ l _ _ _ _ _ _ _ kc kn 613 [some (vR (95, 100, 0)), some (vR (0, 0, 0)), some (vR (40, 0, 0)), some (vI (nI i))] [vI r] (mg u' w)
  refine s_aload_n (x := (40, 0, 0)) dL_law_613 rfl ?_
  refine s_aload_n (x := (95, 100, 0)) dL_law_614 rfl ?_
  refine s_iload_n (x := nI i) dL_law_615 rfl ?_
  refine s_iconst (v := 1) dL_law_616 rfl ?_
  refine s_iadd dL_law_617 ?_
  refine s_sld (n := (i + 1)) dL_law_618 (nI_cl i 1 hi) (nI_vp i 1 (by decide) hi) ?_
  refine s_aload_n (x := (95, 100, 0)) dL_law_619 rfl ?_
  refine s_iload_n (x := nI i) dL_law_620 rfl ?_
  refine s_iconst (v := 2) dL_law_621 rfl ?_
  refine s_iadd dL_law_622 ?_
  refine s_sld (n := (i + 2)) dL_law_623 (nI_cl i 2 hi) (nI_vp i 2 (by decide) hi) ?_
  refine s_callM (as := [vI (xs (i + 1)), vI (xs (i + 2))]) (st := [vI r]) (n := 2) (r := some (vI r)) (w' := w') mw_L_65 mv_X10_go (C_X10_go (l := l) hm) (le_b rfl) dL_law_624 rfl rfl (le_b rfl) hkc hkn ?_
  show XS _ l _ _ _ _ _ _ _ kc kn 627 [some (vR (95, 100, 0)), some (vR (0, 0, 0)), some (vR (40, 0, 0)), some (vI (nI i))] [vI r, vI r] (mg u' w')
  refine s_icmp_eq (tgt := 1320) dL_law_627 (by decide) (fun _ => ?_) (fun hc => absurd rfl hc)
  exact cont u' w' hrel'
def OP_12 (Rel : PM → PM → Prop) : Prop := ∀ (u w : PM) (a0 : Int32) (a1 : Int32), Rel u w → ∃ (r : Int32) (u' w' : PM), f_X9_night a0 a1 u = some (r, u') ∧ f_X10_night a0 a1 w = some (r, w') ∧ Rel u' w'
set_option maxHeartbeats 4000000 in
set_option maxRecDepth 20000 in
theorem law_case_12 {l : Launch} {nm : String} {Rel : PM → PM → Prop} (H : OP_12 Rel) {N i kc kn mc ms : Nat} {xs : Nat → Int32} {T : Option AV × List Key × AM} (hi : i + 6 ≤ N ∧ N ≤ 3072) (hkc : kc ≤ mc) (hkn : kn ≤ ms) {u w : PM} (hrel : Rel u w) (cont : ∀ u' w', Rel u' w' → XS (sE N xs) l (mL nm) 2048 mc ms false T kA kc kn 1320 [some (vR (95, 100, 0)), some (vR (0, 0, 0)), some (vR (40, 0, 0)), some (vI (nI i))] [] (mg u' w')) : XS (sE N xs) l (mL nm) 2048 mc ms false T kA kc kn 632 [some (vR (95, 100, 0)), some (vR (0, 0, 0)), some (vR (40, 0, 0)), some (vI (nI i))] [] (mg u w) := by
  obtain ⟨r, u', w', hc, hm, hrel'⟩ := H u w (xs (i + 1)) (xs (i + 2)) hrel
  refine s_aload_n (x := (0, 0, 0)) dL_law_632 rfl ?_
  refine s_aload_n (x := (95, 100, 0)) dL_law_633 rfl ?_
  refine s_iload_n (x := nI i) dL_law_634 rfl ?_
  refine s_iconst (v := 1) dL_law_635 rfl ?_
  refine s_iadd dL_law_636 ?_
  refine s_sld (n := (i + 1)) dL_law_637 (nI_cl i 1 hi) (nI_vp i 1 (by decide) hi) ?_
  refine s_aload_n (x := (95, 100, 0)) dL_law_638 rfl ?_
  refine s_iload_n (x := nI i) dL_law_639 rfl ?_
  refine s_iconst (v := 2) dL_law_640 rfl ?_
  refine s_iadd dL_law_641 ?_
  refine s_sld (n := (i + 2)) dL_law_642 (nI_cl i 2 hi) (nI_vp i 2 (by decide) hi) ?_
  refine s_callC (as := [vI (xs (i + 1)), vI (xs (i + 2))]) (st := []) (n := 2) (r := some (vI r)) (u' := u') mw_L_66 mv_X9_night (C_X9_night (l := l) hc) (le_b rfl) dL_law_643 rfl rfl (le_b rfl) hkc hkn ?_
  show XS _ l _ _ _ _ _ _ _ kc kn 646 [some (vR (95, 100, 0)), some (vR (0, 0, 0)), some (vR (40, 0, 0)), some (vI (nI i))] [vI r] (mg u' w)
  refine s_aload_n (x := (40, 0, 0)) dL_law_646 rfl ?_
  refine s_aload_n (x := (95, 100, 0)) dL_law_647 rfl ?_
  refine s_iload_n (x := nI i) dL_law_648 rfl ?_
  refine s_iconst (v := 1) dL_law_649 rfl ?_
  refine s_iadd dL_law_650 ?_
  refine s_sld (n := (i + 1)) dL_law_651 (nI_cl i 1 hi) (nI_vp i 1 (by decide) hi) ?_
  refine s_aload_n (x := (95, 100, 0)) dL_law_652 rfl ?_
  refine s_iload_n (x := nI i) dL_law_653 rfl ?_
  refine s_iconst (v := 2) dL_law_654 rfl ?_
  refine s_iadd dL_law_655 ?_
  refine s_sld (n := (i + 2)) dL_law_656 (nI_cl i 2 hi) (nI_vp i 2 (by decide) hi) ?_
  refine s_callM (as := [vI (xs (i + 1)), vI (xs (i + 2))]) (st := [vI r]) (n := 2) (r := some (vI r)) (w' := w') mw_L_69 mv_X10_night (C_X10_night (l := l) hm) (le_b rfl) dL_law_657 rfl rfl (le_b rfl) hkc hkn ?_
  show XS _ l _ _ _ _ _ _ _ kc kn 660 [some (vR (95, 100, 0)), some (vR (0, 0, 0)), some (vR (40, 0, 0)), some (vI (nI i))] [vI r, vI r] (mg u' w')
  refine s_icmp_eq (tgt := 1320) dL_law_660 (by decide) (fun _ => ?_) (fun hc => absurd rfl hc)
  exact cont u' w' hrel'
def OP_13 (Rel : PM → PM → Prop) : Prop := ∀ (u w : PM) (a0 : Int32) (a1 : Int32), Rel u w → ∃ (r : Int32) (u' w' : PM), f_X9_hand a0 a1 u = some (r, u') ∧ f_X10_hand a0 a1 w = some (r, w') ∧ Rel u' w'
set_option maxHeartbeats 4000000 in
set_option maxRecDepth 20000 in
theorem law_case_13 {l : Launch} {nm : String} {Rel : PM → PM → Prop} (H : OP_13 Rel) {N i kc kn mc ms : Nat} {xs : Nat → Int32} {T : Option AV × List Key × AM} (hi : i + 6 ≤ N ∧ N ≤ 3072) (hkc : kc ≤ mc) (hkn : kn ≤ ms) {u w : PM} (hrel : Rel u w) (cont : ∀ u' w', Rel u' w' → XS (sE N xs) l (mL nm) 2048 mc ms false T kA kc kn 1320 [some (vR (95, 100, 0)), some (vR (0, 0, 0)), some (vR (40, 0, 0)), some (vI (nI i))] [] (mg u' w')) : XS (sE N xs) l (mL nm) 2048 mc ms false T kA kc kn 665 [some (vR (95, 100, 0)), some (vR (0, 0, 0)), some (vR (40, 0, 0)), some (vI (nI i))] [] (mg u w) := by
  obtain ⟨r, u', w', hc, hm, hrel'⟩ := H u w (xs (i + 1)) (xs (i + 2)) hrel
  refine s_aload_n (x := (0, 0, 0)) dL_law_665 rfl ?_
  refine s_aload_n (x := (95, 100, 0)) dL_law_666 rfl ?_
  refine s_iload_n (x := nI i) dL_law_667 rfl ?_
  refine s_iconst (v := 1) dL_law_668 rfl ?_
  refine s_iadd dL_law_669 ?_
  refine s_sld (n := (i + 1)) dL_law_670 (nI_cl i 1 hi) (nI_vp i 1 (by decide) hi) ?_
  refine s_aload_n (x := (95, 100, 0)) dL_law_671 rfl ?_
  refine s_iload_n (x := nI i) dL_law_672 rfl ?_
  refine s_iconst (v := 2) dL_law_673 rfl ?_
  refine s_iadd dL_law_674 ?_
  refine s_sld (n := (i + 2)) dL_law_675 (nI_cl i 2 hi) (nI_vp i 2 (by decide) hi) ?_
  refine s_callC (as := [vI (xs (i + 1)), vI (xs (i + 2))]) (st := []) (n := 2) (r := some (vI r)) (u' := u') mw_L_70 mv_X9_hand (C_X9_hand (l := l) hc) (le_b rfl) dL_law_676 rfl rfl (le_b rfl) hkc hkn ?_
  show XS _ l _ _ _ _ _ _ _ kc kn 679 [some (vR (95, 100, 0)), some (vR (0, 0, 0)), some (vR (40, 0, 0)), some (vI (nI i))] [vI r] (mg u' w)
  refine s_aload_n (x := (40, 0, 0)) dL_law_679 rfl ?_
  refine s_aload_n (x := (95, 100, 0)) dL_law_680 rfl ?_
  refine s_iload_n (x := nI i) dL_law_681 rfl ?_
  refine s_iconst (v := 1) dL_law_682 rfl ?_
  refine s_iadd dL_law_683 ?_
  refine s_sld (n := (i + 1)) dL_law_684 (nI_cl i 1 hi) (nI_vp i 1 (by decide) hi) ?_
  refine s_aload_n (x := (95, 100, 0)) dL_law_685 rfl ?_
  refine s_iload_n (x := nI i) dL_law_686 rfl ?_
  refine s_iconst (v := 2) dL_law_687 rfl ?_
  refine s_iadd dL_law_688 ?_
  refine s_sld (n := (i + 2)) dL_law_689 (nI_cl i 2 hi) (nI_vp i 2 (by decide) hi) ?_
  refine s_callM (as := [vI (xs (i + 1)), vI (xs (i + 2))]) (st := [vI r]) (n := 2) (r := some (vI r)) (w' := w') mw_L_73 mv_X10_hand (C_X10_hand (l := l) hm) (le_b rfl) dL_law_690 rfl rfl (le_b rfl) hkc hkn ?_
  show XS _ l _ _ _ _ _ _ _ kc kn 693 [some (vR (95, 100, 0)), some (vR (0, 0, 0)), some (vR (40, 0, 0)), some (vI (nI i))] [vI r, vI r] (mg u' w')
  refine s_icmp_eq (tgt := 1320) dL_law_693 (by decide) (fun _ => ?_) (fun hc => absurd rfl hc)
  exact cont u' w' hrel'
def OP_14 (Rel : PM → PM → Prop) : Prop := ∀ (u w : PM) (a0 : Int32) (a1 : Int32), Rel u w → ∃ (r : Int32) (u' w' : PM), f_X9_quickest a0 a1 u = some (r, u') ∧ f_X10_quickest a0 a1 w = some (r, w') ∧ Rel u' w'
set_option maxHeartbeats 4000000 in
set_option maxRecDepth 20000 in
theorem law_case_14 {l : Launch} {nm : String} {Rel : PM → PM → Prop} (H : OP_14 Rel) {N i kc kn mc ms : Nat} {xs : Nat → Int32} {T : Option AV × List Key × AM} (hi : i + 6 ≤ N ∧ N ≤ 3072) (hkc : kc ≤ mc) (hkn : kn ≤ ms) {u w : PM} (hrel : Rel u w) (cont : ∀ u' w', Rel u' w' → XS (sE N xs) l (mL nm) 2048 mc ms false T kA kc kn 1320 [some (vR (95, 100, 0)), some (vR (0, 0, 0)), some (vR (40, 0, 0)), some (vI (nI i))] [] (mg u' w')) : XS (sE N xs) l (mL nm) 2048 mc ms false T kA kc kn 698 [some (vR (95, 100, 0)), some (vR (0, 0, 0)), some (vR (40, 0, 0)), some (vI (nI i))] [] (mg u w) := by
  obtain ⟨r, u', w', hc, hm, hrel'⟩ := H u w (xs (i + 1)) (xs (i + 2)) hrel
  refine s_aload_n (x := (0, 0, 0)) dL_law_698 rfl ?_
  refine s_aload_n (x := (95, 100, 0)) dL_law_699 rfl ?_
  refine s_iload_n (x := nI i) dL_law_700 rfl ?_
  refine s_iconst (v := 1) dL_law_701 rfl ?_
  refine s_iadd dL_law_702 ?_
  refine s_sld (n := (i + 1)) dL_law_703 (nI_cl i 1 hi) (nI_vp i 1 (by decide) hi) ?_
  refine s_aload_n (x := (95, 100, 0)) dL_law_704 rfl ?_
  refine s_iload_n (x := nI i) dL_law_705 rfl ?_
  refine s_iconst (v := 2) dL_law_706 rfl ?_
  refine s_iadd dL_law_707 ?_
  refine s_sld (n := (i + 2)) dL_law_708 (nI_cl i 2 hi) (nI_vp i 2 (by decide) hi) ?_
  refine s_callC (as := [vI (xs (i + 1)), vI (xs (i + 2))]) (st := []) (n := 2) (r := some (vI r)) (u' := u') mw_L_74 mv_X9_quickest (C_X9_quickest (l := l) hc) (le_b rfl) dL_law_709 rfl rfl (le_b rfl) hkc hkn ?_
  show XS _ l _ _ _ _ _ _ _ kc kn 712 [some (vR (95, 100, 0)), some (vR (0, 0, 0)), some (vR (40, 0, 0)), some (vI (nI i))] [vI r] (mg u' w)
  refine s_aload_n (x := (40, 0, 0)) dL_law_712 rfl ?_
  refine s_aload_n (x := (95, 100, 0)) dL_law_713 rfl ?_
  refine s_iload_n (x := nI i) dL_law_714 rfl ?_
  refine s_iconst (v := 1) dL_law_715 rfl ?_
  refine s_iadd dL_law_716 ?_
  refine s_sld (n := (i + 1)) dL_law_717 (nI_cl i 1 hi) (nI_vp i 1 (by decide) hi) ?_
  refine s_aload_n (x := (95, 100, 0)) dL_law_718 rfl ?_
  refine s_iload_n (x := nI i) dL_law_719 rfl ?_
  refine s_iconst (v := 2) dL_law_720 rfl ?_
  refine s_iadd dL_law_721 ?_
  refine s_sld (n := (i + 2)) dL_law_722 (nI_cl i 2 hi) (nI_vp i 2 (by decide) hi) ?_
  refine s_callM (as := [vI (xs (i + 1)), vI (xs (i + 2))]) (st := [vI r]) (n := 2) (r := some (vI r)) (w' := w') mw_L_77 mv_X10_quickest (C_X10_quickest (l := l) hm) (le_b rfl) dL_law_723 rfl rfl (le_b rfl) hkc hkn ?_
  show XS _ l _ _ _ _ _ _ _ kc kn 726 [some (vR (95, 100, 0)), some (vR (0, 0, 0)), some (vR (40, 0, 0)), some (vI (nI i))] [vI r, vI r] (mg u' w')
  refine s_icmp_eq (tgt := 1320) dL_law_726 (by decide) (fun _ => ?_) (fun hc => absurd rfl hc)
  exact cont u' w' hrel'
def OP_15 (Rel : PM → PM → Prop) : Prop := ∀ (u w : PM) (a0 : Int32), Rel u w → ∃ (r : Int32) (u' w' : PM), f_X9_where a0 u = some (r, u') ∧ f_X10_where a0 w = some (r, w') ∧ Rel u' w'
set_option maxHeartbeats 4000000 in
set_option maxRecDepth 20000 in
theorem law_case_15 {l : Launch} {nm : String} {Rel : PM → PM → Prop} (H : OP_15 Rel) {N i kc kn mc ms : Nat} {xs : Nat → Int32} {T : Option AV × List Key × AM} (hi : i + 6 ≤ N ∧ N ≤ 3072) (hkc : kc ≤ mc) (hkn : kn ≤ ms) {u w : PM} (hrel : Rel u w) (cont : ∀ u' w', Rel u' w' → XS (sE N xs) l (mL nm) 2048 mc ms false T kA kc kn 1320 [some (vR (95, 100, 0)), some (vR (0, 0, 0)), some (vR (40, 0, 0)), some (vI (nI i))] [] (mg u' w')) : XS (sE N xs) l (mL nm) 2048 mc ms false T kA kc kn 731 [some (vR (95, 100, 0)), some (vR (0, 0, 0)), some (vR (40, 0, 0)), some (vI (nI i))] [] (mg u w) := by
  obtain ⟨r, u', w', hc, hm, hrel'⟩ := H u w (xs (i + 1)) hrel
  refine s_aload_n (x := (0, 0, 0)) dL_law_731 rfl ?_
  refine s_aload_n (x := (95, 100, 0)) dL_law_732 rfl ?_
  refine s_iload_n (x := nI i) dL_law_733 rfl ?_
  refine s_iconst (v := 1) dL_law_734 rfl ?_
  refine s_iadd dL_law_735 ?_
  refine s_sld (n := (i + 1)) dL_law_736 (nI_cl i 1 hi) (nI_vp i 1 (by decide) hi) ?_
  refine s_callC (as := [vI (xs (i + 1))]) (st := []) (n := 1) (r := some (vI r)) (u' := u') mw_L_78 mv_X9_where (C_X9_where (l := l) hc) (le_b rfl) dL_law_737 rfl rfl (le_b rfl) hkc hkn ?_
  show XS _ l _ _ _ _ _ _ _ kc kn 740 [some (vR (95, 100, 0)), some (vR (0, 0, 0)), some (vR (40, 0, 0)), some (vI (nI i))] [vI r] (mg u' w)
  refine s_aload_n (x := (40, 0, 0)) dL_law_740 rfl ?_
  refine s_aload_n (x := (95, 100, 0)) dL_law_741 rfl ?_
  refine s_iload_n (x := nI i) dL_law_742 rfl ?_
  refine s_iconst (v := 1) dL_law_743 rfl ?_
  refine s_iadd dL_law_744 ?_
  refine s_sld (n := (i + 1)) dL_law_745 (nI_cl i 1 hi) (nI_vp i 1 (by decide) hi) ?_
  refine s_callM (as := [vI (xs (i + 1))]) (st := [vI r]) (n := 1) (r := some (vI r)) (w' := w') mw_L_82 mv_X10_where (C_X10_where (l := l) hm) (le_b rfl) dL_law_746 rfl rfl (le_b rfl) hkc hkn ?_
  show XS _ l _ _ _ _ _ _ _ kc kn 749 [some (vR (95, 100, 0)), some (vR (0, 0, 0)), some (vR (40, 0, 0)), some (vI (nI i))] [vI r, vI r] (mg u' w')
  refine s_icmp_eq (tgt := 1320) dL_law_749 (by decide) (fun _ => ?_) (fun hc => absurd rfl hc)
  exact cont u' w' hrel'
def OP_16 (Rel : PM → PM → Prop) : Prop := ∀ (u w : PM) , Rel u w → ∃ (r : Int32) (u' w' : PM), f_X9_apart u = some (r, u') ∧ f_X10_apart w = some (r, w') ∧ Rel u' w'
set_option maxHeartbeats 4000000 in
set_option maxRecDepth 20000 in
theorem law_case_16 {l : Launch} {nm : String} {Rel : PM → PM → Prop} (H : OP_16 Rel) {N i kc kn mc ms : Nat} {xs : Nat → Int32} {T : Option AV × List Key × AM} (hi : i + 6 ≤ N ∧ N ≤ 3072) (hkc : kc ≤ mc) (hkn : kn ≤ ms) {u w : PM} (hrel : Rel u w) (cont : ∀ u' w', Rel u' w' → XS (sE N xs) l (mL nm) 2048 mc ms false T kA kc kn 1320 [some (vR (95, 100, 0)), some (vR (0, 0, 0)), some (vR (40, 0, 0)), some (vI (nI i))] [] (mg u' w')) : XS (sE N xs) l (mL nm) 2048 mc ms false T kA kc kn 754 [some (vR (95, 100, 0)), some (vR (0, 0, 0)), some (vR (40, 0, 0)), some (vI (nI i))] [] (mg u w) := by
  obtain ⟨r, u', w', hc, hm, hrel'⟩ := H u w  hrel
  refine s_aload_n (x := (0, 0, 0)) dL_law_754 rfl ?_
  refine s_callC (as := []) (st := []) (n := 0) (r := some (vI r)) (u' := u') mw_L_83 mv_X9_apart (C_X9_apart (l := l) hc) (le_b rfl) dL_law_755 rfl rfl (le_b rfl) hkc hkn ?_
  show XS _ l _ _ _ _ _ _ _ kc kn 758 [some (vR (95, 100, 0)), some (vR (0, 0, 0)), some (vR (40, 0, 0)), some (vI (nI i))] [vI r] (mg u' w)
  refine s_aload_n (x := (40, 0, 0)) dL_law_758 rfl ?_
  refine s_callM (as := []) (st := [vI r]) (n := 0) (r := some (vI r)) (w' := w') mw_L_86 mv_X10_apart (C_X10_apart (l := l) hm) (le_b rfl) dL_law_759 rfl rfl (le_b rfl) hkc hkn ?_
  show XS _ l _ _ _ _ _ _ _ kc kn 762 [some (vR (95, 100, 0)), some (vR (0, 0, 0)), some (vR (40, 0, 0)), some (vI (nI i))] [vI r, vI r] (mg u' w')
  refine s_icmp_eq (tgt := 1320) dL_law_762 (by decide) (fun _ => ?_) (fun hc => absurd rfl hc)
  exact cont u' w' hrel'
def OP_17 (Rel : PM → PM → Prop) : Prop := ∀ (u w : PM) (a0 : Int32) (a1 : Int32) (a2 : Int32), Rel u w → ∃ (r : Int64) (u' w' : PM), f_X9_ends a0 a1 a2 u = some (r, u') ∧ f_X10_ends a0 a1 a2 w = some (r, w') ∧ Rel u' w'
set_option maxHeartbeats 4000000 in
set_option maxRecDepth 20000 in
theorem law_case_17 {l : Launch} {nm : String} {Rel : PM → PM → Prop} (H : OP_17 Rel) {N i kc kn mc ms : Nat} {xs : Nat → Int32} {T : Option AV × List Key × AM} (hi : i + 6 ≤ N ∧ N ≤ 3072) (hkc : kc ≤ mc) (hkn : kn ≤ ms) {u w : PM} (hrel : Rel u w) (cont : ∀ u' w', Rel u' w' → XS (sE N xs) l (mL nm) 2048 mc ms false T kA kc kn 1320 [some (vR (95, 100, 0)), some (vR (0, 0, 0)), some (vR (40, 0, 0)), some (vI (nI i))] [] (mg u' w')) : XS (sE N xs) l (mL nm) 2048 mc ms false T kA kc kn 767 [some (vR (95, 100, 0)), some (vR (0, 0, 0)), some (vR (40, 0, 0)), some (vI (nI i))] [] (mg u w) := by
  obtain ⟨r, u', w', hc, hm, hrel'⟩ := H u w (xs (i + 1)) (xs (i + 2)) (xs (i + 3)) hrel
  refine s_aload_n (x := (0, 0, 0)) dL_law_767 rfl ?_
  refine s_aload_n (x := (95, 100, 0)) dL_law_768 rfl ?_
  refine s_iload_n (x := nI i) dL_law_769 rfl ?_
  refine s_iconst (v := 1) dL_law_770 rfl ?_
  refine s_iadd dL_law_771 ?_
  refine s_sld (n := (i + 1)) dL_law_772 (nI_cl i 1 hi) (nI_vp i 1 (by decide) hi) ?_
  refine s_aload_n (x := (95, 100, 0)) dL_law_773 rfl ?_
  refine s_iload_n (x := nI i) dL_law_774 rfl ?_
  refine s_iconst (v := 2) dL_law_775 rfl ?_
  refine s_iadd dL_law_776 ?_
  refine s_sld (n := (i + 2)) dL_law_777 (nI_cl i 2 hi) (nI_vp i 2 (by decide) hi) ?_
  refine s_aload_n (x := (95, 100, 0)) dL_law_778 rfl ?_
  refine s_iload_n (x := nI i) dL_law_779 rfl ?_
  refine s_iconst (v := 3) dL_law_780 rfl ?_
  refine s_iadd dL_law_781 ?_
  refine s_sld (n := (i + 3)) dL_law_782 (nI_cl i 3 hi) (nI_vp i 3 (by decide) hi) ?_
  refine s_callC (as := [vI (xs (i + 1)), vI (xs (i + 2)), vI (xs (i + 3))]) (st := []) (n := 3) (r := some (vJ r)) (u' := u') mw_L_87 mv_X9_ends (C_X9_ends (l := l) hc) (le_b rfl) dL_law_783 rfl rfl (le_b rfl) hkc hkn ?_
  show XS _ l _ _ _ _ _ _ _ kc kn 786 [some (vR (95, 100, 0)), some (vR (0, 0, 0)), some (vR (40, 0, 0)), some (vI (nI i))] [vJ r] (mg u' w)
  refine s_aload_n (x := (40, 0, 0)) dL_law_786 rfl ?_
  refine s_aload_n (x := (95, 100, 0)) dL_law_787 rfl ?_
  refine s_iload_n (x := nI i) dL_law_788 rfl ?_
  refine s_iconst (v := 1) dL_law_789 rfl ?_
  refine s_iadd dL_law_790 ?_
  refine s_sld (n := (i + 1)) dL_law_791 (nI_cl i 1 hi) (nI_vp i 1 (by decide) hi) ?_
  refine s_aload_n (x := (95, 100, 0)) dL_law_792 rfl ?_
  refine s_iload_n (x := nI i) dL_law_793 rfl ?_
  refine s_iconst (v := 2) dL_law_794 rfl ?_
  refine s_iadd dL_law_795 ?_
  refine s_sld (n := (i + 2)) dL_law_796 (nI_cl i 2 hi) (nI_vp i 2 (by decide) hi) ?_
  refine s_aload_n (x := (95, 100, 0)) dL_law_797 rfl ?_
  refine s_iload_n (x := nI i) dL_law_798 rfl ?_
  refine s_iconst (v := 3) dL_law_799 rfl ?_
  refine s_iadd dL_law_800 ?_
  refine s_sld (n := (i + 3)) dL_law_801 (nI_cl i 3 hi) (nI_vp i 3 (by decide) hi) ?_
  refine s_callM (as := [vI (xs (i + 1)), vI (xs (i + 2)), vI (xs (i + 3))]) (st := [vJ r]) (n := 3) (r := some (vJ r)) (w' := w') mw_L_91 mv_X10_ends (C_X10_ends (l := l) hm) (le_b rfl) dL_law_802 rfl rfl (le_b rfl) hkc hkn ?_
  show XS _ l _ _ _ _ _ _ _ kc kn 805 [some (vR (95, 100, 0)), some (vR (0, 0, 0)), some (vR (40, 0, 0)), some (vI (nI i))] [vJ r, vJ r] (mg u' w')
  refine s_lcmp dL_law_805 ?_
  refine s_if_eq (tgt := 1320) dL_law_806 (by decide) (fun _ => ?_) (fun hc => absurd ((lg_cmp_eq r r).mpr rfl) hc)
  exact cont u' w' hrel'
def OP_18 (Rel : PM → PM → Prop) : Prop := ∀ (u w : PM) , Rel u w → ∃ (r : Int32) (u' w' : PM), f_X9_lasts u = some (r, u') ∧ f_X10_lasts w = some (r, w') ∧ Rel u' w'
set_option maxHeartbeats 4000000 in
set_option maxRecDepth 20000 in
theorem law_case_18 {l : Launch} {nm : String} {Rel : PM → PM → Prop} (H : OP_18 Rel) {N i kc kn mc ms : Nat} {xs : Nat → Int32} {T : Option AV × List Key × AM} (hi : i + 6 ≤ N ∧ N ≤ 3072) (hkc : kc ≤ mc) (hkn : kn ≤ ms) {u w : PM} (hrel : Rel u w) (cont : ∀ u' w', Rel u' w' → XS (sE N xs) l (mL nm) 2048 mc ms false T kA kc kn 1320 [some (vR (95, 100, 0)), some (vR (0, 0, 0)), some (vR (40, 0, 0)), some (vI (nI i))] [] (mg u' w')) : XS (sE N xs) l (mL nm) 2048 mc ms false T kA kc kn 811 [some (vR (95, 100, 0)), some (vR (0, 0, 0)), some (vR (40, 0, 0)), some (vI (nI i))] [] (mg u w) := by
  obtain ⟨r, u', w', hc, hm, hrel'⟩ := H u w  hrel
  refine s_aload_n (x := (0, 0, 0)) dL_law_811 rfl ?_
  refine s_callC (as := []) (st := []) (n := 0) (r := some (vI r)) (u' := u') mw_L_92 mv_X9_lasts (C_X9_lasts (l := l) hc) (le_b rfl) dL_law_812 rfl rfl (le_b rfl) hkc hkn ?_
  show XS _ l _ _ _ _ _ _ _ kc kn 815 [some (vR (95, 100, 0)), some (vR (0, 0, 0)), some (vR (40, 0, 0)), some (vI (nI i))] [vI r] (mg u' w)
  refine s_aload_n (x := (40, 0, 0)) dL_law_815 rfl ?_
  refine s_callM (as := []) (st := [vI r]) (n := 0) (r := some (vI r)) (w' := w') mw_L_95 mv_X10_lasts (C_X10_lasts (l := l) hm) (le_b rfl) dL_law_816 rfl rfl (le_b rfl) hkc hkn ?_
  show XS _ l _ _ _ _ _ _ _ kc kn 819 [some (vR (95, 100, 0)), some (vR (0, 0, 0)), some (vR (40, 0, 0)), some (vI (nI i))] [vI r, vI r] (mg u' w')
  refine s_icmp_eq (tgt := 1320) dL_law_819 (by decide) (fun _ => ?_) (fun hc => absurd rfl hc)
  exact cont u' w' hrel'
def OP_19 (Rel : PM → PM → Prop) : Prop := ∀ (u w : PM) (a0 : Int32) (a1 : Int32), Rel u w → ∃ (r : Int32) (u' w' : PM), f_X9_match a0 a1 u = some (r, u') ∧ f_X10_match a0 a1 w = some (r, w') ∧ Rel u' w'
set_option maxHeartbeats 4000000 in
set_option maxRecDepth 20000 in
theorem law_case_19 {l : Launch} {nm : String} {Rel : PM → PM → Prop} (H : OP_19 Rel) {N i kc kn mc ms : Nat} {xs : Nat → Int32} {T : Option AV × List Key × AM} (hi : i + 6 ≤ N ∧ N ≤ 3072) (hkc : kc ≤ mc) (hkn : kn ≤ ms) {u w : PM} (hrel : Rel u w) (cont : ∀ u' w', Rel u' w' → XS (sE N xs) l (mL nm) 2048 mc ms false T kA kc kn 1320 [some (vR (95, 100, 0)), some (vR (0, 0, 0)), some (vR (40, 0, 0)), some (vI (nI i))] [] (mg u' w')) : XS (sE N xs) l (mL nm) 2048 mc ms false T kA kc kn 824 [some (vR (95, 100, 0)), some (vR (0, 0, 0)), some (vR (40, 0, 0)), some (vI (nI i))] [] (mg u w) := by
  obtain ⟨r, u', w', hc, hm, hrel'⟩ := H u w (xs (i + 1)) (xs (i + 2)) hrel
  refine s_aload_n (x := (0, 0, 0)) dL_law_824 rfl ?_
  refine s_aload_n (x := (95, 100, 0)) dL_law_825 rfl ?_
  refine s_iload_n (x := nI i) dL_law_826 rfl ?_
  refine s_iconst (v := 1) dL_law_827 rfl ?_
  refine s_iadd dL_law_828 ?_
  refine s_sld (n := (i + 1)) dL_law_829 (nI_cl i 1 hi) (nI_vp i 1 (by decide) hi) ?_
  refine s_aload_n (x := (95, 100, 0)) dL_law_830 rfl ?_
  refine s_iload_n (x := nI i) dL_law_831 rfl ?_
  refine s_iconst (v := 2) dL_law_832 rfl ?_
  refine s_iadd dL_law_833 ?_
  refine s_sld (n := (i + 2)) dL_law_834 (nI_cl i 2 hi) (nI_vp i 2 (by decide) hi) ?_
  refine s_callC (as := [vI (xs (i + 1)), vI (xs (i + 2))]) (st := []) (n := 2) (r := some (vI r)) (u' := u') mw_L_96 mv_X9_match (C_X9_match (l := l) hc) (le_b rfl) dL_law_835 rfl rfl (le_b rfl) hkc hkn ?_
  show XS _ l _ _ _ _ _ _ _ kc kn 838 [some (vR (95, 100, 0)), some (vR (0, 0, 0)), some (vR (40, 0, 0)), some (vI (nI i))] [vI r] (mg u' w)
  refine s_aload_n (x := (40, 0, 0)) dL_law_838 rfl ?_
  refine s_aload_n (x := (95, 100, 0)) dL_law_839 rfl ?_
  refine s_iload_n (x := nI i) dL_law_840 rfl ?_
  refine s_iconst (v := 1) dL_law_841 rfl ?_
  refine s_iadd dL_law_842 ?_
  refine s_sld (n := (i + 1)) dL_law_843 (nI_cl i 1 hi) (nI_vp i 1 (by decide) hi) ?_
  refine s_aload_n (x := (95, 100, 0)) dL_law_844 rfl ?_
  refine s_iload_n (x := nI i) dL_law_845 rfl ?_
  refine s_iconst (v := 2) dL_law_846 rfl ?_
  refine s_iadd dL_law_847 ?_
  refine s_sld (n := (i + 2)) dL_law_848 (nI_cl i 2 hi) (nI_vp i 2 (by decide) hi) ?_
  refine s_callM (as := [vI (xs (i + 1)), vI (xs (i + 2))]) (st := [vI r]) (n := 2) (r := some (vI r)) (w' := w') mw_L_99 mv_X10_match (C_X10_match (l := l) hm) (le_b rfl) dL_law_849 rfl rfl (le_b rfl) hkc hkn ?_
  show XS _ l _ _ _ _ _ _ _ kc kn 852 [some (vR (95, 100, 0)), some (vR (0, 0, 0)), some (vR (40, 0, 0)), some (vI (nI i))] [vI r, vI r] (mg u' w')
  refine s_icmp_eq (tgt := 1320) dL_law_852 (by decide) (fun _ => ?_) (fun hc => absurd rfl hc)
  exact cont u' w' hrel'
def OP_20 (Rel : PM → PM → Prop) : Prop := ∀ (u w : PM) (a0 : Int32), Rel u w → ∃ (r : Int32) (u' w' : PM), f_X9_asked a0 u = some (r, u') ∧ f_X10_asked a0 w = some (r, w') ∧ Rel u' w'
set_option maxHeartbeats 4000000 in
set_option maxRecDepth 20000 in
theorem law_case_20 {l : Launch} {nm : String} {Rel : PM → PM → Prop} (H : OP_20 Rel) {N i kc kn mc ms : Nat} {xs : Nat → Int32} {T : Option AV × List Key × AM} (hi : i + 6 ≤ N ∧ N ≤ 3072) (hkc : kc ≤ mc) (hkn : kn ≤ ms) {u w : PM} (hrel : Rel u w) (cont : ∀ u' w', Rel u' w' → XS (sE N xs) l (mL nm) 2048 mc ms false T kA kc kn 1320 [some (vR (95, 100, 0)), some (vR (0, 0, 0)), some (vR (40, 0, 0)), some (vI (nI i))] [] (mg u' w')) : XS (sE N xs) l (mL nm) 2048 mc ms false T kA kc kn 857 [some (vR (95, 100, 0)), some (vR (0, 0, 0)), some (vR (40, 0, 0)), some (vI (nI i))] [] (mg u w) := by
  obtain ⟨r, u', w', hc, hm, hrel'⟩ := H u w (xs (i + 1)) hrel
  refine s_aload_n (x := (0, 0, 0)) dL_law_857 rfl ?_
  refine s_aload_n (x := (95, 100, 0)) dL_law_858 rfl ?_
  refine s_iload_n (x := nI i) dL_law_859 rfl ?_
  refine s_iconst (v := 1) dL_law_860 rfl ?_
  refine s_iadd dL_law_861 ?_
  refine s_sld (n := (i + 1)) dL_law_862 (nI_cl i 1 hi) (nI_vp i 1 (by decide) hi) ?_
  refine s_callC (as := [vI (xs (i + 1))]) (st := []) (n := 1) (r := some (vI r)) (u' := u') mw_L_100 mv_X9_asked (C_X9_asked (l := l) hc) (le_b rfl) dL_law_863 rfl rfl (le_b rfl) hkc hkn ?_
  show XS _ l _ _ _ _ _ _ _ kc kn 866 [some (vR (95, 100, 0)), some (vR (0, 0, 0)), some (vR (40, 0, 0)), some (vI (nI i))] [vI r] (mg u' w)
  refine s_aload_n (x := (40, 0, 0)) dL_law_866 rfl ?_
  refine s_aload_n (x := (95, 100, 0)) dL_law_867 rfl ?_
  refine s_iload_n (x := nI i) dL_law_868 rfl ?_
  refine s_iconst (v := 1) dL_law_869 rfl ?_
  refine s_iadd dL_law_870 ?_
  refine s_sld (n := (i + 1)) dL_law_871 (nI_cl i 1 hi) (nI_vp i 1 (by decide) hi) ?_
  refine s_callM (as := [vI (xs (i + 1))]) (st := [vI r]) (n := 1) (r := some (vI r)) (w' := w') mw_L_103 mv_X10_asked (C_X10_asked (l := l) hm) (le_b rfl) dL_law_872 rfl rfl (le_b rfl) hkc hkn ?_
  show XS _ l _ _ _ _ _ _ _ kc kn 875 [some (vR (95, 100, 0)), some (vR (0, 0, 0)), some (vR (40, 0, 0)), some (vI (nI i))] [vI r, vI r] (mg u' w')
  refine s_icmp_eq (tgt := 1320) dL_law_875 (by decide) (fun _ => ?_) (fun hc => absurd rfl hc)
  exact cont u' w' hrel'
def OP_21 (Rel : PM → PM → Prop) : Prop := ∀ (u w : PM) (a0 : Int32), Rel u w → ∃ (r : Int32) (u' w' : PM), f_X9_law a0 u = some (r, u') ∧ f_X10_law a0 w = some (r, w') ∧ Rel u' w'
set_option maxHeartbeats 4000000 in
set_option maxRecDepth 20000 in
theorem law_case_21 {l : Launch} {nm : String} {Rel : PM → PM → Prop} (H : OP_21 Rel) {N i kc kn mc ms : Nat} {xs : Nat → Int32} {T : Option AV × List Key × AM} (hi : i + 6 ≤ N ∧ N ≤ 3072) (hkc : kc ≤ mc) (hkn : kn ≤ ms) {u w : PM} (hrel : Rel u w) (cont : ∀ u' w', Rel u' w' → XS (sE N xs) l (mL nm) 2048 mc ms false T kA kc kn 1320 [some (vR (95, 100, 0)), some (vR (0, 0, 0)), some (vR (40, 0, 0)), some (vI (nI i))] [] (mg u' w')) : XS (sE N xs) l (mL nm) 2048 mc ms false T kA kc kn 880 [some (vR (95, 100, 0)), some (vR (0, 0, 0)), some (vR (40, 0, 0)), some (vI (nI i))] [] (mg u w) := by
  obtain ⟨r, u', w', hc, hm, hrel'⟩ := H u w (xs (i + 1)) hrel
  refine s_aload_n (x := (0, 0, 0)) dL_law_880 rfl ?_
  refine s_aload_n (x := (95, 100, 0)) dL_law_881 rfl ?_
  refine s_iload_n (x := nI i) dL_law_882 rfl ?_
  refine s_iconst (v := 1) dL_law_883 rfl ?_
  refine s_iadd dL_law_884 ?_
  refine s_sld (n := (i + 1)) dL_law_885 (nI_cl i 1 hi) (nI_vp i 1 (by decide) hi) ?_
  refine s_callC (as := [vI (xs (i + 1))]) (st := []) (n := 1) (r := some (vI r)) (u' := u') mw_L_104 mv_X9_law (C_X9_law (l := l) hc) (le_b rfl) dL_law_886 rfl rfl (le_b rfl) hkc hkn ?_
  show XS _ l _ _ _ _ _ _ _ kc kn 889 [some (vR (95, 100, 0)), some (vR (0, 0, 0)), some (vR (40, 0, 0)), some (vI (nI i))] [vI r] (mg u' w)
  refine s_aload_n (x := (40, 0, 0)) dL_law_889 rfl ?_
  refine s_aload_n (x := (95, 100, 0)) dL_law_890 rfl ?_
  refine s_iload_n (x := nI i) dL_law_891 rfl ?_
  refine s_iconst (v := 1) dL_law_892 rfl ?_
  refine s_iadd dL_law_893 ?_
  refine s_sld (n := (i + 1)) dL_law_894 (nI_cl i 1 hi) (nI_vp i 1 (by decide) hi) ?_
  refine s_callM (as := [vI (xs (i + 1))]) (st := [vI r]) (n := 1) (r := some (vI r)) (w' := w') mw_L_107 mv_X10_law (C_X10_law (l := l) hm) (le_b rfl) dL_law_895 rfl rfl (le_b rfl) hkc hkn ?_
  show XS _ l _ _ _ _ _ _ _ kc kn 898 [some (vR (95, 100, 0)), some (vR (0, 0, 0)), some (vR (40, 0, 0)), some (vI (nI i))] [vI r, vI r] (mg u' w')
  refine s_icmp_eq (tgt := 1320) dL_law_898 (by decide) (fun _ => ?_) (fun hc => absurd rfl hc)
  exact cont u' w' hrel'
def OP_22 (Rel : PM → PM → Prop) : Prop := ∀ (u w : PM) , Rel u w → ∃ (r : Int32) (u' w' : PM), f_X9_freed u = some (r, u') ∧ f_X10_freed w = some (r, w') ∧ Rel u' w'
set_option maxHeartbeats 4000000 in
set_option maxRecDepth 20000 in
theorem law_case_22 {l : Launch} {nm : String} {Rel : PM → PM → Prop} (H : OP_22 Rel) {N i kc kn mc ms : Nat} {xs : Nat → Int32} {T : Option AV × List Key × AM} (hi : i + 6 ≤ N ∧ N ≤ 3072) (hkc : kc ≤ mc) (hkn : kn ≤ ms) {u w : PM} (hrel : Rel u w) (cont : ∀ u' w', Rel u' w' → XS (sE N xs) l (mL nm) 2048 mc ms false T kA kc kn 1320 [some (vR (95, 100, 0)), some (vR (0, 0, 0)), some (vR (40, 0, 0)), some (vI (nI i))] [] (mg u' w')) : XS (sE N xs) l (mL nm) 2048 mc ms false T kA kc kn 903 [some (vR (95, 100, 0)), some (vR (0, 0, 0)), some (vR (40, 0, 0)), some (vI (nI i))] [] (mg u w) := by
  obtain ⟨r, u', w', hc, hm, hrel'⟩ := H u w  hrel
  refine s_aload_n (x := (0, 0, 0)) dL_law_903 rfl ?_
  refine s_callC (as := []) (st := []) (n := 0) (r := some (vI r)) (u' := u') mw_L_108 mv_X9_freed (C_X9_freed (l := l) hc) (le_b rfl) dL_law_904 rfl rfl (le_b rfl) hkc hkn ?_
  show XS _ l _ _ _ _ _ _ _ kc kn 907 [some (vR (95, 100, 0)), some (vR (0, 0, 0)), some (vR (40, 0, 0)), some (vI (nI i))] [vI r] (mg u' w)
  refine s_aload_n (x := (40, 0, 0)) dL_law_907 rfl ?_
  refine s_callM (as := []) (st := [vI r]) (n := 0) (r := some (vI r)) (w' := w') mw_L_111 mv_X10_freed (C_X10_freed (l := l) hm) (le_b rfl) dL_law_908 rfl rfl (le_b rfl) hkc hkn ?_
  show XS _ l _ _ _ _ _ _ _ kc kn 911 [some (vR (95, 100, 0)), some (vR (0, 0, 0)), some (vR (40, 0, 0)), some (vI (nI i))] [vI r, vI r] (mg u' w')
  refine s_icmp_eq (tgt := 1320) dL_law_911 (by decide) (fun _ => ?_) (fun hc => absurd rfl hc)
  exact cont u' w' hrel'
def OP_23 (Rel : PM → PM → Prop) : Prop := ∀ (u w : PM) (a0 : Int32) (a1 : Int32) (a2 : Int32), Rel u w → ∃ (r : Int32) (u' w' : PM), f_X9_judge a0 a1 a2 u = some (r, u') ∧ f_X10_judge a0 a1 a2 w = some (r, w') ∧ Rel u' w'
set_option maxHeartbeats 4000000 in
set_option maxRecDepth 20000 in
theorem law_case_23 {l : Launch} {nm : String} {Rel : PM → PM → Prop} (H : OP_23 Rel) {N i kc kn mc ms : Nat} {xs : Nat → Int32} {T : Option AV × List Key × AM} (hi : i + 6 ≤ N ∧ N ≤ 3072) (hkc : kc ≤ mc) (hkn : kn ≤ ms) {u w : PM} (hrel : Rel u w) (cont : ∀ u' w', Rel u' w' → XS (sE N xs) l (mL nm) 2048 mc ms false T kA kc kn 1320 [some (vR (95, 100, 0)), some (vR (0, 0, 0)), some (vR (40, 0, 0)), some (vI (nI i))] [] (mg u' w')) : XS (sE N xs) l (mL nm) 2048 mc ms false T kA kc kn 916 [some (vR (95, 100, 0)), some (vR (0, 0, 0)), some (vR (40, 0, 0)), some (vI (nI i))] [] (mg u w) := by
  obtain ⟨r, u', w', hc, hm, hrel'⟩ := H u w (xs (i + 1)) (xs (i + 2)) (xs (i + 3)) hrel
  refine s_aload_n (x := (0, 0, 0)) dL_law_916 rfl ?_
  refine s_aload_n (x := (95, 100, 0)) dL_law_917 rfl ?_
  refine s_iload_n (x := nI i) dL_law_918 rfl ?_
  refine s_iconst (v := 1) dL_law_919 rfl ?_
  refine s_iadd dL_law_920 ?_
  refine s_sld (n := (i + 1)) dL_law_921 (nI_cl i 1 hi) (nI_vp i 1 (by decide) hi) ?_
  refine s_aload_n (x := (95, 100, 0)) dL_law_922 rfl ?_
  refine s_iload_n (x := nI i) dL_law_923 rfl ?_
  refine s_iconst (v := 2) dL_law_924 rfl ?_
  refine s_iadd dL_law_925 ?_
  refine s_sld (n := (i + 2)) dL_law_926 (nI_cl i 2 hi) (nI_vp i 2 (by decide) hi) ?_
  refine s_aload_n (x := (95, 100, 0)) dL_law_927 rfl ?_
  refine s_iload_n (x := nI i) dL_law_928 rfl ?_
  refine s_iconst (v := 3) dL_law_929 rfl ?_
  refine s_iadd dL_law_930 ?_
  refine s_sld (n := (i + 3)) dL_law_931 (nI_cl i 3 hi) (nI_vp i 3 (by decide) hi) ?_
  refine s_callC (as := [vI (xs (i + 1)), vI (xs (i + 2)), vI (xs (i + 3))]) (st := []) (n := 3) (r := some (vI r)) (u' := u') mw_L_112 mv_X9_judge (C_X9_judge (l := l) hc) (le_b rfl) dL_law_932 rfl rfl (le_b rfl) hkc hkn ?_
  show XS _ l _ _ _ _ _ _ _ kc kn 935 [some (vR (95, 100, 0)), some (vR (0, 0, 0)), some (vR (40, 0, 0)), some (vI (nI i))] [vI r] (mg u' w)
  refine s_aload_n (x := (40, 0, 0)) dL_law_935 rfl ?_
  refine s_aload_n (x := (95, 100, 0)) dL_law_936 rfl ?_
  refine s_iload_n (x := nI i) dL_law_937 rfl ?_
  refine s_iconst (v := 1) dL_law_938 rfl ?_
  refine s_iadd dL_law_939 ?_
  refine s_sld (n := (i + 1)) dL_law_940 (nI_cl i 1 hi) (nI_vp i 1 (by decide) hi) ?_
  refine s_aload_n (x := (95, 100, 0)) dL_law_941 rfl ?_
  refine s_iload_n (x := nI i) dL_law_942 rfl ?_
  refine s_iconst (v := 2) dL_law_943 rfl ?_
  refine s_iadd dL_law_944 ?_
  refine s_sld (n := (i + 2)) dL_law_945 (nI_cl i 2 hi) (nI_vp i 2 (by decide) hi) ?_
  refine s_aload_n (x := (95, 100, 0)) dL_law_946 rfl ?_
  refine s_iload_n (x := nI i) dL_law_947 rfl ?_
  refine s_iconst (v := 3) dL_law_948 rfl ?_
  refine s_iadd dL_law_949 ?_
  refine s_sld (n := (i + 3)) dL_law_950 (nI_cl i 3 hi) (nI_vp i 3 (by decide) hi) ?_
  refine s_callM (as := [vI (xs (i + 1)), vI (xs (i + 2)), vI (xs (i + 3))]) (st := [vI r]) (n := 3) (r := some (vI r)) (w' := w') mw_L_115 mv_X10_judge (C_X10_judge (l := l) hm) (le_b rfl) dL_law_951 rfl rfl (le_b rfl) hkc hkn ?_
  show XS _ l _ _ _ _ _ _ _ kc kn 954 [some (vR (95, 100, 0)), some (vR (0, 0, 0)), some (vR (40, 0, 0)), some (vI (nI i))] [vI r, vI r] (mg u' w')
  refine s_icmp_eq (tgt := 1320) dL_law_954 (by decide) (fun _ => ?_) (fun hc => absurd rfl hc)
  exact cont u' w' hrel'
def OP_24 (Rel : PM → PM → Prop) : Prop := ∀ (u w : PM) , Rel u w → ∃ (r : Int32) (u' w' : PM), f_X9_image u = some (r, u') ∧ f_X10_image w = some (r, w') ∧ Rel u' w'
set_option maxHeartbeats 4000000 in
set_option maxRecDepth 20000 in
theorem law_case_24 {l : Launch} {nm : String} {Rel : PM → PM → Prop} (H : OP_24 Rel) {N i kc kn mc ms : Nat} {xs : Nat → Int32} {T : Option AV × List Key × AM} (hi : i + 6 ≤ N ∧ N ≤ 3072) (hkc : kc ≤ mc) (hkn : kn ≤ ms) {u w : PM} (hrel : Rel u w) (cont : ∀ u' w', Rel u' w' → XS (sE N xs) l (mL nm) 2048 mc ms false T kA kc kn 1320 [some (vR (95, 100, 0)), some (vR (0, 0, 0)), some (vR (40, 0, 0)), some (vI (nI i))] [] (mg u' w')) : XS (sE N xs) l (mL nm) 2048 mc ms false T kA kc kn 959 [some (vR (95, 100, 0)), some (vR (0, 0, 0)), some (vR (40, 0, 0)), some (vI (nI i))] [] (mg u w) := by
  obtain ⟨r, u', w', hc, hm, hrel'⟩ := H u w  hrel
  refine s_aload_n (x := (0, 0, 0)) dL_law_959 rfl ?_
  refine s_callC (as := []) (st := []) (n := 0) (r := some (vI r)) (u' := u') mw_L_116 mv_X9_image (C_X9_image (l := l) hc) (le_b rfl) dL_law_960 rfl rfl (le_b rfl) hkc hkn ?_
  show XS _ l _ _ _ _ _ _ _ kc kn 963 [some (vR (95, 100, 0)), some (vR (0, 0, 0)), some (vR (40, 0, 0)), some (vI (nI i))] [vI r] (mg u' w)
  refine s_aload_n (x := (40, 0, 0)) dL_law_963 rfl ?_
  refine s_callM (as := []) (st := [vI r]) (n := 0) (r := some (vI r)) (w' := w') mw_L_119 mv_X10_image (C_X10_image (l := l) hm) (le_b rfl) dL_law_964 rfl rfl (le_b rfl) hkc hkn ?_
  show XS _ l _ _ _ _ _ _ _ kc kn 967 [some (vR (95, 100, 0)), some (vR (0, 0, 0)), some (vR (40, 0, 0)), some (vI (nI i))] [vI r, vI r] (mg u' w')
  refine s_icmp_eq (tgt := 1320) dL_law_967 (by decide) (fun _ => ?_) (fun hc => absurd rfl hc)
  exact cont u' w' hrel'
def OP_25 (Rel : PM → PM → Prop) : Prop := ∀ (u w : PM) , Rel u w → ∃ (r : Int32) (u' w' : PM), f_X9_undo u = some (r, u') ∧ f_X10_undo w = some (r, w') ∧ Rel u' w'
set_option maxHeartbeats 4000000 in
set_option maxRecDepth 20000 in
theorem law_case_25 {l : Launch} {nm : String} {Rel : PM → PM → Prop} (H : OP_25 Rel) {N i kc kn mc ms : Nat} {xs : Nat → Int32} {T : Option AV × List Key × AM} (hi : i + 6 ≤ N ∧ N ≤ 3072) (hkc : kc ≤ mc) (hkn : kn ≤ ms) {u w : PM} (hrel : Rel u w) (cont : ∀ u' w', Rel u' w' → XS (sE N xs) l (mL nm) 2048 mc ms false T kA kc kn 1320 [some (vR (95, 100, 0)), some (vR (0, 0, 0)), some (vR (40, 0, 0)), some (vI (nI i))] [] (mg u' w')) : XS (sE N xs) l (mL nm) 2048 mc ms false T kA kc kn 972 [some (vR (95, 100, 0)), some (vR (0, 0, 0)), some (vR (40, 0, 0)), some (vI (nI i))] [] (mg u w) := by
  obtain ⟨r, u', w', hc, hm, hrel'⟩ := H u w  hrel
  refine s_aload_n (x := (0, 0, 0)) dL_law_972 rfl ?_
  refine s_callC (as := []) (st := []) (n := 0) (r := some (vI r)) (u' := u') mw_L_120 mv_X9_undo (C_X9_undo (l := l) hc) (le_b rfl) dL_law_973 rfl rfl (le_b rfl) hkc hkn ?_
  show XS _ l _ _ _ _ _ _ _ kc kn 976 [some (vR (95, 100, 0)), some (vR (0, 0, 0)), some (vR (40, 0, 0)), some (vI (nI i))] [vI r] (mg u' w)
  refine s_aload_n (x := (40, 0, 0)) dL_law_976 rfl ?_
  refine s_callM (as := []) (st := [vI r]) (n := 0) (r := some (vI r)) (w' := w') mw_L_123 mv_X10_undo (C_X10_undo (l := l) hm) (le_b rfl) dL_law_977 rfl rfl (le_b rfl) hkc hkn ?_
  show XS _ l _ _ _ _ _ _ _ kc kn 980 [some (vR (95, 100, 0)), some (vR (0, 0, 0)), some (vR (40, 0, 0)), some (vI (nI i))] [vI r, vI r] (mg u' w')
  refine s_icmp_eq (tgt := 1320) dL_law_980 (by decide) (fun _ => ?_) (fun hc => absurd rfl hc)
  exact cont u' w' hrel'
def OP_26 (Rel : PM → PM → Prop) : Prop := ∀ (u w : PM) (a0 : Int32) (a1 : Int32) (a2 : Int32), Rel u w → ∃ (r : Int32) (u' w' : PM), f_X9_act a0 a1 a2 u = some (r, u') ∧ f_X10_act a0 a1 a2 w = some (r, w') ∧ Rel u' w'
set_option maxHeartbeats 4000000 in
set_option maxRecDepth 20000 in
theorem law_case_26 {l : Launch} {nm : String} {Rel : PM → PM → Prop} (H : OP_26 Rel) {N i kc kn mc ms : Nat} {xs : Nat → Int32} {T : Option AV × List Key × AM} (hi : i + 6 ≤ N ∧ N ≤ 3072) (hkc : kc ≤ mc) (hkn : kn ≤ ms) {u w : PM} (hrel : Rel u w) (cont : ∀ u' w', Rel u' w' → XS (sE N xs) l (mL nm) 2048 mc ms false T kA kc kn 1320 [some (vR (95, 100, 0)), some (vR (0, 0, 0)), some (vR (40, 0, 0)), some (vI (nI i))] [] (mg u' w')) : XS (sE N xs) l (mL nm) 2048 mc ms false T kA kc kn 985 [some (vR (95, 100, 0)), some (vR (0, 0, 0)), some (vR (40, 0, 0)), some (vI (nI i))] [] (mg u w) := by
  obtain ⟨r, u', w', hc, hm, hrel'⟩ := H u w (xs (i + 1)) (xs (i + 2)) (xs (i + 3)) hrel
  refine s_aload_n (x := (0, 0, 0)) dL_law_985 rfl ?_
  refine s_aload_n (x := (95, 100, 0)) dL_law_986 rfl ?_
  refine s_iload_n (x := nI i) dL_law_987 rfl ?_
  refine s_iconst (v := 1) dL_law_988 rfl ?_
  refine s_iadd dL_law_989 ?_
  refine s_sld (n := (i + 1)) dL_law_990 (nI_cl i 1 hi) (nI_vp i 1 (by decide) hi) ?_
  refine s_aload_n (x := (95, 100, 0)) dL_law_991 rfl ?_
  refine s_iload_n (x := nI i) dL_law_992 rfl ?_
  refine s_iconst (v := 2) dL_law_993 rfl ?_
  refine s_iadd dL_law_994 ?_
  refine s_sld (n := (i + 2)) dL_law_995 (nI_cl i 2 hi) (nI_vp i 2 (by decide) hi) ?_
  refine s_aload_n (x := (95, 100, 0)) dL_law_996 rfl ?_
  refine s_iload_n (x := nI i) dL_law_997 rfl ?_
  refine s_iconst (v := 3) dL_law_998 rfl ?_
  refine s_iadd dL_law_999 ?_
  refine s_sld (n := (i + 3)) dL_law_1000 (nI_cl i 3 hi) (nI_vp i 3 (by decide) hi) ?_
  refine s_callC (as := [vI (xs (i + 1)), vI (xs (i + 2)), vI (xs (i + 3))]) (st := []) (n := 3) (r := some (vI r)) (u' := u') mw_L_124 mv_X9_act (C_X9_act (l := l) hc) (le_b rfl) dL_law_1001 rfl rfl (le_b rfl) hkc hkn ?_
  show XS _ l _ _ _ _ _ _ _ kc kn 1004 [some (vR (95, 100, 0)), some (vR (0, 0, 0)), some (vR (40, 0, 0)), some (vI (nI i))] [vI r] (mg u' w)
  refine s_aload_n (x := (40, 0, 0)) dL_law_1004 rfl ?_
  refine s_aload_n (x := (95, 100, 0)) dL_law_1005 rfl ?_
  refine s_iload_n (x := nI i) dL_law_1006 rfl ?_
  refine s_iconst (v := 1) dL_law_1007 rfl ?_
  refine s_iadd dL_law_1008 ?_
  refine s_sld (n := (i + 1)) dL_law_1009 (nI_cl i 1 hi) (nI_vp i 1 (by decide) hi) ?_
  refine s_aload_n (x := (95, 100, 0)) dL_law_1010 rfl ?_
  refine s_iload_n (x := nI i) dL_law_1011 rfl ?_
  refine s_iconst (v := 2) dL_law_1012 rfl ?_
  refine s_iadd dL_law_1013 ?_
  refine s_sld (n := (i + 2)) dL_law_1014 (nI_cl i 2 hi) (nI_vp i 2 (by decide) hi) ?_
  refine s_aload_n (x := (95, 100, 0)) dL_law_1015 rfl ?_
  refine s_iload_n (x := nI i) dL_law_1016 rfl ?_
  refine s_iconst (v := 3) dL_law_1017 rfl ?_
  refine s_iadd dL_law_1018 ?_
  refine s_sld (n := (i + 3)) dL_law_1019 (nI_cl i 3 hi) (nI_vp i 3 (by decide) hi) ?_
  refine s_callM (as := [vI (xs (i + 1)), vI (xs (i + 2)), vI (xs (i + 3))]) (st := [vI r]) (n := 3) (r := some (vI r)) (w' := w') mw_L_127 mv_X10_act (C_X10_act (l := l) hm) (le_b rfl) dL_law_1020 rfl rfl (le_b rfl) hkc hkn ?_
  show XS _ l _ _ _ _ _ _ _ kc kn 1023 [some (vR (95, 100, 0)), some (vR (0, 0, 0)), some (vR (40, 0, 0)), some (vI (nI i))] [vI r, vI r] (mg u' w')
  refine s_icmp_eq (tgt := 1320) dL_law_1023 (by decide) (fun _ => ?_) (fun hc => absurd rfl hc)
  exact cont u' w' hrel'
def OP_27 (Rel : PM → PM → Prop) : Prop := ∀ (u w : PM) (a0 : Int32), Rel u w → ∃ (r : Int32) (u' w' : PM), f_X9_trace a0 u = some r ∧ f_X10_trace a0 w = some r ∧ Rel u' w' ∧ u = u' ∧ w = w'
set_option maxHeartbeats 4000000 in
set_option maxRecDepth 20000 in
theorem law_case_27 {l : Launch} {nm : String} {Rel : PM → PM → Prop} (H : OP_27 Rel) {N i kc kn mc ms : Nat} {xs : Nat → Int32} {T : Option AV × List Key × AM} (hi : i + 6 ≤ N ∧ N ≤ 3072) (hkc : kc ≤ mc) (hkn : kn ≤ ms) {u w : PM} (hrel : Rel u w) (cont : ∀ u' w', Rel u' w' → XS (sE N xs) l (mL nm) 2048 mc ms false T kA kc kn 1320 [some (vR (95, 100, 0)), some (vR (0, 0, 0)), some (vR (40, 0, 0)), some (vI (nI i))] [] (mg u' w')) : XS (sE N xs) l (mL nm) 2048 mc ms false T kA kc kn 1028 [some (vR (95, 100, 0)), some (vR (0, 0, 0)), some (vR (40, 0, 0)), some (vI (nI i))] [] (mg u w) := by
  obtain ⟨r, u', w', hc, hm, hrel', rfl, rfl⟩ := H u w (xs (i + 1)) hrel
  refine s_aload_n (x := (0, 0, 0)) dL_law_1028 rfl ?_
  refine s_aload_n (x := (95, 100, 0)) dL_law_1029 rfl ?_
  refine s_iload_n (x := nI i) dL_law_1030 rfl ?_
  refine s_iconst (v := 1) dL_law_1031 rfl ?_
  refine s_iadd dL_law_1032 ?_
  refine s_sld (n := (i + 1)) dL_law_1033 (nI_cl i 1 hi) (nI_vp i 1 (by decide) hi) ?_
  refine s_callC (as := [vI (xs (i + 1))]) (st := []) (n := 1) (r := some (vI r)) (u' := u) mw_L_128 mv_X9_trace (C_X9_trace (l := l) hc) (le_b rfl) dL_law_1034 rfl rfl (le_b rfl) hkc hkn ?_
  show XS _ l _ _ _ _ _ _ _ kc kn 1037 [some (vR (95, 100, 0)), some (vR (0, 0, 0)), some (vR (40, 0, 0)), some (vI (nI i))] [vI r] (mg u w)
  refine s_aload_n (x := (40, 0, 0)) dL_law_1037 rfl ?_
  refine s_aload_n (x := (95, 100, 0)) dL_law_1038 rfl ?_
  refine s_iload_n (x := nI i) dL_law_1039 rfl ?_
  refine s_iconst (v := 1) dL_law_1040 rfl ?_
  refine s_iadd dL_law_1041 ?_
  refine s_sld (n := (i + 1)) dL_law_1042 (nI_cl i 1 hi) (nI_vp i 1 (by decide) hi) ?_
  refine s_callM (as := [vI (xs (i + 1))]) (st := [vI r]) (n := 1) (r := some (vI r)) (w' := w) mw_L_131 mv_X10_trace (C_X10_trace (l := l) hm) (le_b rfl) dL_law_1043 rfl rfl (le_b rfl) hkc hkn ?_
  show XS _ l _ _ _ _ _ _ _ kc kn 1046 [some (vR (95, 100, 0)), some (vR (0, 0, 0)), some (vR (40, 0, 0)), some (vI (nI i))] [vI r, vI r] (mg u w)
  refine s_icmp_eq (tgt := 1320) dL_law_1046 (by decide) (fun _ => ?_) (fun hc => absurd rfl hc)
  exact cont u w hrel'
def OP_28 (Rel : PM → PM → Prop) : Prop := ∀ (u w : PM) (a0 : Int32) (a1 : Int32), Rel u w → ∃ (r : Int32) (u' w' : PM), f_X9_taken a0 a1 u = some r ∧ f_X10_taken a0 a1 w = some r ∧ Rel u' w' ∧ u = u' ∧ w = w'
set_option maxHeartbeats 4000000 in
set_option maxRecDepth 20000 in
theorem law_case_28 {l : Launch} {nm : String} {Rel : PM → PM → Prop} (H : OP_28 Rel) {N i kc kn mc ms : Nat} {xs : Nat → Int32} {T : Option AV × List Key × AM} (hi : i + 6 ≤ N ∧ N ≤ 3072) (hkc : kc ≤ mc) (hkn : kn ≤ ms) {u w : PM} (hrel : Rel u w) (cont : ∀ u' w', Rel u' w' → XS (sE N xs) l (mL nm) 2048 mc ms false T kA kc kn 1320 [some (vR (95, 100, 0)), some (vR (0, 0, 0)), some (vR (40, 0, 0)), some (vI (nI i))] [] (mg u' w')) : XS (sE N xs) l (mL nm) 2048 mc ms false T kA kc kn 1051 [some (vR (95, 100, 0)), some (vR (0, 0, 0)), some (vR (40, 0, 0)), some (vI (nI i))] [] (mg u w) := by
  obtain ⟨r, u', w', hc, hm, hrel', rfl, rfl⟩ := H u w (xs (i + 1)) (xs (i + 2)) hrel
  refine s_aload_n (x := (0, 0, 0)) dL_law_1051 rfl ?_
  refine s_aload_n (x := (95, 100, 0)) dL_law_1052 rfl ?_
  refine s_iload_n (x := nI i) dL_law_1053 rfl ?_
  refine s_iconst (v := 1) dL_law_1054 rfl ?_
  refine s_iadd dL_law_1055 ?_
  refine s_sld (n := (i + 1)) dL_law_1056 (nI_cl i 1 hi) (nI_vp i 1 (by decide) hi) ?_
  refine s_aload_n (x := (95, 100, 0)) dL_law_1057 rfl ?_
  refine s_iload_n (x := nI i) dL_law_1058 rfl ?_
  refine s_iconst (v := 2) dL_law_1059 rfl ?_
  refine s_iadd dL_law_1060 ?_
  refine s_sld (n := (i + 2)) dL_law_1061 (nI_cl i 2 hi) (nI_vp i 2 (by decide) hi) ?_
  refine s_callC (as := [vI (xs (i + 1)), vI (xs (i + 2))]) (st := []) (n := 2) (r := some (vI r)) (u' := u) mw_L_132 mv_X9_taken (C_X9_taken (l := l) hc) (le_b rfl) dL_law_1062 rfl rfl (le_b rfl) hkc hkn ?_
  show XS _ l _ _ _ _ _ _ _ kc kn 1065 [some (vR (95, 100, 0)), some (vR (0, 0, 0)), some (vR (40, 0, 0)), some (vI (nI i))] [vI r] (mg u w)
  refine s_aload_n (x := (40, 0, 0)) dL_law_1065 rfl ?_
  refine s_aload_n (x := (95, 100, 0)) dL_law_1066 rfl ?_
  refine s_iload_n (x := nI i) dL_law_1067 rfl ?_
  refine s_iconst (v := 1) dL_law_1068 rfl ?_
  refine s_iadd dL_law_1069 ?_
  refine s_sld (n := (i + 1)) dL_law_1070 (nI_cl i 1 hi) (nI_vp i 1 (by decide) hi) ?_
  refine s_aload_n (x := (95, 100, 0)) dL_law_1071 rfl ?_
  refine s_iload_n (x := nI i) dL_law_1072 rfl ?_
  refine s_iconst (v := 2) dL_law_1073 rfl ?_
  refine s_iadd dL_law_1074 ?_
  refine s_sld (n := (i + 2)) dL_law_1075 (nI_cl i 2 hi) (nI_vp i 2 (by decide) hi) ?_
  refine s_callM (as := [vI (xs (i + 1)), vI (xs (i + 2))]) (st := [vI r]) (n := 2) (r := some (vI r)) (w' := w) mw_L_135 mv_X10_taken (C_X10_taken (l := l) hm) (le_b rfl) dL_law_1076 rfl rfl (le_b rfl) hkc hkn ?_
  show XS _ l _ _ _ _ _ _ _ kc kn 1079 [some (vR (95, 100, 0)), some (vR (0, 0, 0)), some (vR (40, 0, 0)), some (vI (nI i))] [vI r, vI r] (mg u w)
  refine s_icmp_eq (tgt := 1320) dL_law_1079 (by decide) (fun _ => ?_) (fun hc => absurd rfl hc)
  exact cont u w hrel'
def OP_29 (Rel : PM → PM → Prop) : Prop := ∀ (u w : PM) (a0 : Int32), Rel u w → ∃ (r : Int32) (u' w' : PM), f_X9_count a0 u = some r ∧ f_X10_count a0 w = some r ∧ Rel u' w' ∧ u = u' ∧ w = w'
set_option maxHeartbeats 4000000 in
set_option maxRecDepth 20000 in
theorem law_case_29 {l : Launch} {nm : String} {Rel : PM → PM → Prop} (H : OP_29 Rel) {N i kc kn mc ms : Nat} {xs : Nat → Int32} {T : Option AV × List Key × AM} (hi : i + 6 ≤ N ∧ N ≤ 3072) (hkc : kc ≤ mc) (hkn : kn ≤ ms) {u w : PM} (hrel : Rel u w) (cont : ∀ u' w', Rel u' w' → XS (sE N xs) l (mL nm) 2048 mc ms false T kA kc kn 1320 [some (vR (95, 100, 0)), some (vR (0, 0, 0)), some (vR (40, 0, 0)), some (vI (nI i))] [] (mg u' w')) : XS (sE N xs) l (mL nm) 2048 mc ms false T kA kc kn 1084 [some (vR (95, 100, 0)), some (vR (0, 0, 0)), some (vR (40, 0, 0)), some (vI (nI i))] [] (mg u w) := by
  obtain ⟨r, u', w', hc, hm, hrel', rfl, rfl⟩ := H u w (xs (i + 1)) hrel
  refine s_aload_n (x := (0, 0, 0)) dL_law_1084 rfl ?_
  refine s_aload_n (x := (95, 100, 0)) dL_law_1085 rfl ?_
  refine s_iload_n (x := nI i) dL_law_1086 rfl ?_
  refine s_iconst (v := 1) dL_law_1087 rfl ?_
  refine s_iadd dL_law_1088 ?_
  refine s_sld (n := (i + 1)) dL_law_1089 (nI_cl i 1 hi) (nI_vp i 1 (by decide) hi) ?_
  refine s_callC (as := [vI (xs (i + 1))]) (st := []) (n := 1) (r := some (vI r)) (u' := u) mw_L_136 mv_X9_count (C_X9_count (l := l) hc) (le_b rfl) dL_law_1090 rfl rfl (le_b rfl) hkc hkn ?_
  show XS _ l _ _ _ _ _ _ _ kc kn 1093 [some (vR (95, 100, 0)), some (vR (0, 0, 0)), some (vR (40, 0, 0)), some (vI (nI i))] [vI r] (mg u w)
  refine s_aload_n (x := (40, 0, 0)) dL_law_1093 rfl ?_
  refine s_aload_n (x := (95, 100, 0)) dL_law_1094 rfl ?_
  refine s_iload_n (x := nI i) dL_law_1095 rfl ?_
  refine s_iconst (v := 1) dL_law_1096 rfl ?_
  refine s_iadd dL_law_1097 ?_
  refine s_sld (n := (i + 1)) dL_law_1098 (nI_cl i 1 hi) (nI_vp i 1 (by decide) hi) ?_
  refine s_callM (as := [vI (xs (i + 1))]) (st := [vI r]) (n := 1) (r := some (vI r)) (w' := w) mw_L_139 mv_X10_count (C_X10_count (l := l) hm) (le_b rfl) dL_law_1099 rfl rfl (le_b rfl) hkc hkn ?_
  show XS _ l _ _ _ _ _ _ _ kc kn 1102 [some (vR (95, 100, 0)), some (vR (0, 0, 0)), some (vR (40, 0, 0)), some (vI (nI i))] [vI r, vI r] (mg u w)
  refine s_icmp_eq (tgt := 1320) dL_law_1102 (by decide) (fun _ => ?_) (fun hc => absurd rfl hc)
  exact cont u w hrel'
def OP_30 (Rel : PM → PM → Prop) : Prop := ∀ (u w : PM) (a0 : Int32) (a1 : Int32) (a2 : Int32), Rel u w → ∃ (r : Int32) (u' w' : PM), f_X9_tape a0 a1 a2 u = some (r, u') ∧ f_X10_tape a0 a1 a2 w = some (r, w') ∧ Rel u' w'
set_option maxHeartbeats 4000000 in
set_option maxRecDepth 20000 in
theorem law_case_30 {l : Launch} {nm : String} {Rel : PM → PM → Prop} (H : OP_30 Rel) {N i kc kn mc ms : Nat} {xs : Nat → Int32} {T : Option AV × List Key × AM} (hi : i + 6 ≤ N ∧ N ≤ 3072) (hkc : kc ≤ mc) (hkn : kn ≤ ms) {u w : PM} (hrel : Rel u w) (cont : ∀ u' w', Rel u' w' → XS (sE N xs) l (mL nm) 2048 mc ms false T kA kc kn 1320 [some (vR (95, 100, 0)), some (vR (0, 0, 0)), some (vR (40, 0, 0)), some (vI (nI i))] [] (mg u' w')) : XS (sE N xs) l (mL nm) 2048 mc ms false T kA kc kn 1107 [some (vR (95, 100, 0)), some (vR (0, 0, 0)), some (vR (40, 0, 0)), some (vI (nI i))] [] (mg u w) := by
  obtain ⟨r, u', w', hc, hm, hrel'⟩ := H u w (xs (i + 1)) (xs (i + 2)) (xs (i + 3)) hrel
  refine s_aload_n (x := (0, 0, 0)) dL_law_1107 rfl ?_
  refine s_aload_n (x := (95, 100, 0)) dL_law_1108 rfl ?_
  refine s_iload_n (x := nI i) dL_law_1109 rfl ?_
  refine s_iconst (v := 1) dL_law_1110 rfl ?_
  refine s_iadd dL_law_1111 ?_
  refine s_sld (n := (i + 1)) dL_law_1112 (nI_cl i 1 hi) (nI_vp i 1 (by decide) hi) ?_
  refine s_aload_n (x := (95, 100, 0)) dL_law_1113 rfl ?_
  refine s_iload_n (x := nI i) dL_law_1114 rfl ?_
  refine s_iconst (v := 2) dL_law_1115 rfl ?_
  refine s_iadd dL_law_1116 ?_
  refine s_sld (n := (i + 2)) dL_law_1117 (nI_cl i 2 hi) (nI_vp i 2 (by decide) hi) ?_
  refine s_aload_n (x := (95, 100, 0)) dL_law_1118 rfl ?_
  refine s_iload_n (x := nI i) dL_law_1119 rfl ?_
  refine s_iconst (v := 3) dL_law_1120 rfl ?_
  refine s_iadd dL_law_1121 ?_
  refine s_sld (n := (i + 3)) dL_law_1122 (nI_cl i 3 hi) (nI_vp i 3 (by decide) hi) ?_
  refine s_callC (as := [vI (xs (i + 1)), vI (xs (i + 2)), vI (xs (i + 3))]) (st := []) (n := 3) (r := some (vI r)) (u' := u') mw_L_140 mv_X9_tape (C_X9_tape (l := l) hc) (le_b rfl) dL_law_1123 rfl rfl (le_b rfl) hkc hkn ?_
  show XS _ l _ _ _ _ _ _ _ kc kn 1126 [some (vR (95, 100, 0)), some (vR (0, 0, 0)), some (vR (40, 0, 0)), some (vI (nI i))] [vI r] (mg u' w)
  refine s_aload_n (x := (40, 0, 0)) dL_law_1126 rfl ?_
  refine s_aload_n (x := (95, 100, 0)) dL_law_1127 rfl ?_
  refine s_iload_n (x := nI i) dL_law_1128 rfl ?_
  refine s_iconst (v := 1) dL_law_1129 rfl ?_
  refine s_iadd dL_law_1130 ?_
  refine s_sld (n := (i + 1)) dL_law_1131 (nI_cl i 1 hi) (nI_vp i 1 (by decide) hi) ?_
  refine s_aload_n (x := (95, 100, 0)) dL_law_1132 rfl ?_
  refine s_iload_n (x := nI i) dL_law_1133 rfl ?_
  refine s_iconst (v := 2) dL_law_1134 rfl ?_
  refine s_iadd dL_law_1135 ?_
  refine s_sld (n := (i + 2)) dL_law_1136 (nI_cl i 2 hi) (nI_vp i 2 (by decide) hi) ?_
  refine s_aload_n (x := (95, 100, 0)) dL_law_1137 rfl ?_
  refine s_iload_n (x := nI i) dL_law_1138 rfl ?_
  refine s_iconst (v := 3) dL_law_1139 rfl ?_
  refine s_iadd dL_law_1140 ?_
  refine s_sld (n := (i + 3)) dL_law_1141 (nI_cl i 3 hi) (nI_vp i 3 (by decide) hi) ?_
  refine s_callM (as := [vI (xs (i + 1)), vI (xs (i + 2)), vI (xs (i + 3))]) (st := [vI r]) (n := 3) (r := some (vI r)) (w' := w') mw_L_143 mv_X10_tape (C_X10_tape (l := l) hm) (le_b rfl) dL_law_1142 rfl rfl (le_b rfl) hkc hkn ?_
  show XS _ l _ _ _ _ _ _ _ kc kn 1145 [some (vR (95, 100, 0)), some (vR (0, 0, 0)), some (vR (40, 0, 0)), some (vI (nI i))] [vI r, vI r] (mg u' w')
  refine s_icmp_eq (tgt := 1320) dL_law_1145 (by decide) (fun _ => ?_) (fun hc => absurd rfl hc)
  exact cont u' w' hrel'
def OP_31 (Rel : PM → PM → Prop) : Prop := ∀ (u w : PM) (a0 : Int32) (a1 : Int32) (a2 : Int64), Rel u w → ∃ (r : Int32) (u' w' : PM), f_X9_item a0 a1 a2 u = some (r, u') ∧ f_X10_item a0 a1 a2 w = some (r, w') ∧ Rel u' w'
set_option maxHeartbeats 4000000 in
set_option maxRecDepth 20000 in
theorem law_case_31 {l : Launch} {nm : String} {Rel : PM → PM → Prop} (H : OP_31 Rel) {N i kc kn mc ms : Nat} {xs : Nat → Int32} {T : Option AV × List Key × AM} (hi : i + 6 ≤ N ∧ N ≤ 3072) (hkc : kc ≤ mc) (hkn : kn ≤ ms) {u w : PM} (hrel : Rel u w) (cont : ∀ u' w', Rel u' w' → XS (sE N xs) l (mL nm) 2048 mc ms false T kA kc kn 1320 [some (vR (95, 100, 0)), some (vR (0, 0, 0)), some (vR (40, 0, 0)), some (vI (nI i))] [] (mg u' w')) : XS (sE N xs) l (mL nm) 2048 mc ms false T kA kc kn 1150 [some (vR (95, 100, 0)), some (vR (0, 0, 0)), some (vR (40, 0, 0)), some (vI (nI i))] [] (mg u w) := by
  obtain ⟨r, u', w', hc, hm, hrel'⟩ := H u w (xs (i + 1)) (xs (i + 2)) ((((xs (i + 3)).toInt64) <<< ((32 : Int32).toInt64 &&& 63)) ||| (((xs (i + 4)).toInt64) &&& (4294967295 : Int64))) hrel
  refine s_aload_n (x := (0, 0, 0)) dL_law_1150 rfl ?_
  refine s_aload_n (x := (95, 100, 0)) dL_law_1151 rfl ?_
  refine s_iload_n (x := nI i) dL_law_1152 rfl ?_
  refine s_iconst (v := 1) dL_law_1153 rfl ?_
  refine s_iadd dL_law_1154 ?_
  refine s_sld (n := (i + 1)) dL_law_1155 (nI_cl i 1 hi) (nI_vp i 1 (by decide) hi) ?_
  refine s_aload_n (x := (95, 100, 0)) dL_law_1156 rfl ?_
  refine s_iload_n (x := nI i) dL_law_1157 rfl ?_
  refine s_iconst (v := 2) dL_law_1158 rfl ?_
  refine s_iadd dL_law_1159 ?_
  refine s_sld (n := (i + 2)) dL_law_1160 (nI_cl i 2 hi) (nI_vp i 2 (by decide) hi) ?_
  refine s_aload_n (x := (95, 100, 0)) dL_law_1161 rfl ?_
  refine s_iload_n (x := nI i) dL_law_1162 rfl ?_
  refine s_iconst (v := 3) dL_law_1163 rfl ?_
  refine s_iadd dL_law_1164 ?_
  refine s_sld (n := (i + 3)) dL_law_1165 (nI_cl i 3 hi) (nI_vp i 3 (by decide) hi) ?_
  refine s_i2l dL_law_1166 ?_
  refine s_bipush (v := 32) dL_law_1167 rfl ?_
  refine s_lshl dL_law_1169 ?_
  refine s_aload_n (x := (95, 100, 0)) dL_law_1170 rfl ?_
  refine s_iload_n (x := nI i) dL_law_1171 rfl ?_
  refine s_iconst (v := 4) dL_law_1172 rfl ?_
  refine s_iadd dL_law_1173 ?_
  refine s_sld (n := (i + 4)) dL_law_1174 (nI_cl i 4 hi) (nI_vp i 4 (by decide) hi) ?_
  refine s_i2l dL_law_1175 ?_
  refine s_ldc2 (v := 4294967295) dL_law_1176 cc_L_144 ?_
  refine s_land dL_law_1179 ?_
  refine s_lor dL_law_1180 ?_
  refine s_callC (as := [vI (xs (i + 1)), vI (xs (i + 2)), vJ ((((xs (i + 3)).toInt64) <<< ((32 : Int32).toInt64 &&& 63)) ||| (((xs (i + 4)).toInt64) &&& (4294967295 : Int64)))]) (st := []) (n := 3) (r := some (vI r)) (u' := u') mw_L_146 mv_X9_item (C_X9_item (l := l) hc) (le_b rfl) dL_law_1181 rfl rfl (le_b rfl) hkc hkn ?_
  show XS _ l _ _ _ _ _ _ _ kc kn 1184 [some (vR (95, 100, 0)), some (vR (0, 0, 0)), some (vR (40, 0, 0)), some (vI (nI i))] [vI r] (mg u' w)
  refine s_aload_n (x := (40, 0, 0)) dL_law_1184 rfl ?_
  refine s_aload_n (x := (95, 100, 0)) dL_law_1185 rfl ?_
  refine s_iload_n (x := nI i) dL_law_1186 rfl ?_
  refine s_iconst (v := 1) dL_law_1187 rfl ?_
  refine s_iadd dL_law_1188 ?_
  refine s_sld (n := (i + 1)) dL_law_1189 (nI_cl i 1 hi) (nI_vp i 1 (by decide) hi) ?_
  refine s_aload_n (x := (95, 100, 0)) dL_law_1190 rfl ?_
  refine s_iload_n (x := nI i) dL_law_1191 rfl ?_
  refine s_iconst (v := 2) dL_law_1192 rfl ?_
  refine s_iadd dL_law_1193 ?_
  refine s_sld (n := (i + 2)) dL_law_1194 (nI_cl i 2 hi) (nI_vp i 2 (by decide) hi) ?_
  refine s_aload_n (x := (95, 100, 0)) dL_law_1195 rfl ?_
  refine s_iload_n (x := nI i) dL_law_1196 rfl ?_
  refine s_iconst (v := 3) dL_law_1197 rfl ?_
  refine s_iadd dL_law_1198 ?_
  refine s_sld (n := (i + 3)) dL_law_1199 (nI_cl i 3 hi) (nI_vp i 3 (by decide) hi) ?_
  refine s_i2l dL_law_1200 ?_
  refine s_bipush (v := 32) dL_law_1201 rfl ?_
  refine s_lshl dL_law_1203 ?_
  refine s_aload_n (x := (95, 100, 0)) dL_law_1204 rfl ?_
  refine s_iload_n (x := nI i) dL_law_1205 rfl ?_
  refine s_iconst (v := 4) dL_law_1206 rfl ?_
  refine s_iadd dL_law_1207 ?_
  refine s_sld (n := (i + 4)) dL_law_1208 (nI_cl i 4 hi) (nI_vp i 4 (by decide) hi) ?_
  refine s_i2l dL_law_1209 ?_
  refine s_ldc2 (v := 4294967295) dL_law_1210 cc_L_144 ?_
  refine s_land dL_law_1213 ?_
  refine s_lor dL_law_1214 ?_
  refine s_callM (as := [vI (xs (i + 1)), vI (xs (i + 2)), vJ ((((xs (i + 3)).toInt64) <<< ((32 : Int32).toInt64 &&& 63)) ||| (((xs (i + 4)).toInt64) &&& (4294967295 : Int64)))]) (st := [vI r]) (n := 3) (r := some (vI r)) (w' := w') mw_L_150 mv_X10_item (C_X10_item (l := l) hm) (le_b rfl) dL_law_1215 rfl rfl (le_b rfl) hkc hkn ?_
  show XS _ l _ _ _ _ _ _ _ kc kn 1218 [some (vR (95, 100, 0)), some (vR (0, 0, 0)), some (vR (40, 0, 0)), some (vI (nI i))] [vI r, vI r] (mg u' w')
  refine s_icmp_eq (tgt := 1320) dL_law_1218 (by decide) (fun _ => ?_) (fun hc => absurd rfl hc)
  exact cont u' w' hrel'
def OP_32 (Rel : PM → PM → Prop) : Prop := ∀ (u w : PM) (a0 : Int32) (a1 : Int32), Rel u w → ∃ (r : Int64) (u' w' : PM), f_X9_read a0 a1 u = some r ∧ f_X10_read a0 a1 w = some r ∧ Rel u' w' ∧ u = u' ∧ w = w'
set_option maxHeartbeats 4000000 in
set_option maxRecDepth 20000 in
theorem law_case_32 {l : Launch} {nm : String} {Rel : PM → PM → Prop} (H : OP_32 Rel) {N i kc kn mc ms : Nat} {xs : Nat → Int32} {T : Option AV × List Key × AM} (hi : i + 6 ≤ N ∧ N ≤ 3072) (hkc : kc ≤ mc) (hkn : kn ≤ ms) {u w : PM} (hrel : Rel u w) (cont : ∀ u' w', Rel u' w' → XS (sE N xs) l (mL nm) 2048 mc ms false T kA kc kn 1320 [some (vR (95, 100, 0)), some (vR (0, 0, 0)), some (vR (40, 0, 0)), some (vI (nI i))] [] (mg u' w')) : XS (sE N xs) l (mL nm) 2048 mc ms false T kA kc kn 1223 [some (vR (95, 100, 0)), some (vR (0, 0, 0)), some (vR (40, 0, 0)), some (vI (nI i))] [] (mg u w) := by
  obtain ⟨r, u', w', hc, hm, hrel', rfl, rfl⟩ := H u w (xs (i + 1)) (xs (i + 2)) hrel
  refine s_aload_n (x := (0, 0, 0)) dL_law_1223 rfl ?_
  refine s_aload_n (x := (95, 100, 0)) dL_law_1224 rfl ?_
  refine s_iload_n (x := nI i) dL_law_1225 rfl ?_
  refine s_iconst (v := 1) dL_law_1226 rfl ?_
  refine s_iadd dL_law_1227 ?_
  refine s_sld (n := (i + 1)) dL_law_1228 (nI_cl i 1 hi) (nI_vp i 1 (by decide) hi) ?_
  refine s_aload_n (x := (95, 100, 0)) dL_law_1229 rfl ?_
  refine s_iload_n (x := nI i) dL_law_1230 rfl ?_
  refine s_iconst (v := 2) dL_law_1231 rfl ?_
  refine s_iadd dL_law_1232 ?_
  refine s_sld (n := (i + 2)) dL_law_1233 (nI_cl i 2 hi) (nI_vp i 2 (by decide) hi) ?_
  refine s_callC (as := [vI (xs (i + 1)), vI (xs (i + 2))]) (st := []) (n := 2) (r := some (vJ r)) (u' := u) mw_L_151 mv_X9_read (C_X9_read (l := l) hc) (le_b rfl) dL_law_1234 rfl rfl (le_b rfl) hkc hkn ?_
  show XS _ l _ _ _ _ _ _ _ kc kn 1237 [some (vR (95, 100, 0)), some (vR (0, 0, 0)), some (vR (40, 0, 0)), some (vI (nI i))] [vJ r] (mg u w)
  refine s_aload_n (x := (40, 0, 0)) dL_law_1237 rfl ?_
  refine s_aload_n (x := (95, 100, 0)) dL_law_1238 rfl ?_
  refine s_iload_n (x := nI i) dL_law_1239 rfl ?_
  refine s_iconst (v := 1) dL_law_1240 rfl ?_
  refine s_iadd dL_law_1241 ?_
  refine s_sld (n := (i + 1)) dL_law_1242 (nI_cl i 1 hi) (nI_vp i 1 (by decide) hi) ?_
  refine s_aload_n (x := (95, 100, 0)) dL_law_1243 rfl ?_
  refine s_iload_n (x := nI i) dL_law_1244 rfl ?_
  refine s_iconst (v := 2) dL_law_1245 rfl ?_
  refine s_iadd dL_law_1246 ?_
  refine s_sld (n := (i + 2)) dL_law_1247 (nI_cl i 2 hi) (nI_vp i 2 (by decide) hi) ?_
  refine s_callM (as := [vI (xs (i + 1)), vI (xs (i + 2))]) (st := [vJ r]) (n := 2) (r := some (vJ r)) (w' := w) mw_L_155 mv_X10_read (C_X10_read (l := l) hm) (le_b rfl) dL_law_1248 rfl rfl (le_b rfl) hkc hkn ?_
  show XS _ l _ _ _ _ _ _ _ kc kn 1251 [some (vR (95, 100, 0)), some (vR (0, 0, 0)), some (vR (40, 0, 0)), some (vI (nI i))] [vJ r, vJ r] (mg u w)
  refine s_lcmp dL_law_1251 ?_
  refine s_if_eq (tgt := 1320) dL_law_1252 (by decide) (fun _ => ?_) (fun hc => absurd ((lg_cmp_eq r r).mpr rfl) hc)
  exact cont u w hrel'
def OP_33 (Rel : PM → PM → Prop) : Prop := ∀ (u w : PM) (a0 : Int32) (a1 : Int32) (a2 : Int32) (a3 : Int32) (a4 : Int32), Rel u w → ∃ (r : Int32) (u' w' : PM), f_X9_shift a0 a1 a2 a3 a4 u = some (r, u') ∧ f_X10_shift a0 a1 a2 a3 a4 w = some (r, w') ∧ Rel u' w'
set_option maxHeartbeats 4000000 in
set_option maxRecDepth 20000 in
theorem law_case_33 {l : Launch} {nm : String} {Rel : PM → PM → Prop} (H : OP_33 Rel) {N i kc kn mc ms : Nat} {xs : Nat → Int32} {T : Option AV × List Key × AM} (hi : i + 6 ≤ N ∧ N ≤ 3072) (hkc : kc ≤ mc) (hkn : kn ≤ ms) {u w : PM} (hrel : Rel u w) (cont : ∀ u' w', Rel u' w' → XS (sE N xs) l (mL nm) 2048 mc ms false T kA kc kn 1320 [some (vR (95, 100, 0)), some (vR (0, 0, 0)), some (vR (40, 0, 0)), some (vI (nI i))] [] (mg u' w')) : XS (sE N xs) l (mL nm) 2048 mc ms false T kA kc kn 1257 [some (vR (95, 100, 0)), some (vR (0, 0, 0)), some (vR (40, 0, 0)), some (vI (nI i))] [] (mg u w) := by
  obtain ⟨r, u', w', hc, hm, hrel'⟩ := H u w (xs (i + 1)) (xs (i + 2)) (xs (i + 3)) (xs (i + 4)) (xs (i + 5)) hrel
  refine s_aload_n (x := (0, 0, 0)) dL_law_1257 rfl ?_
  refine s_aload_n (x := (95, 100, 0)) dL_law_1258 rfl ?_
  refine s_iload_n (x := nI i) dL_law_1259 rfl ?_
  refine s_iconst (v := 1) dL_law_1260 rfl ?_
  refine s_iadd dL_law_1261 ?_
  refine s_sld (n := (i + 1)) dL_law_1262 (nI_cl i 1 hi) (nI_vp i 1 (by decide) hi) ?_
  refine s_aload_n (x := (95, 100, 0)) dL_law_1263 rfl ?_
  refine s_iload_n (x := nI i) dL_law_1264 rfl ?_
  refine s_iconst (v := 2) dL_law_1265 rfl ?_
  refine s_iadd dL_law_1266 ?_
  refine s_sld (n := (i + 2)) dL_law_1267 (nI_cl i 2 hi) (nI_vp i 2 (by decide) hi) ?_
  refine s_aload_n (x := (95, 100, 0)) dL_law_1268 rfl ?_
  refine s_iload_n (x := nI i) dL_law_1269 rfl ?_
  refine s_iconst (v := 3) dL_law_1270 rfl ?_
  refine s_iadd dL_law_1271 ?_
  refine s_sld (n := (i + 3)) dL_law_1272 (nI_cl i 3 hi) (nI_vp i 3 (by decide) hi) ?_
  refine s_aload_n (x := (95, 100, 0)) dL_law_1273 rfl ?_
  refine s_iload_n (x := nI i) dL_law_1274 rfl ?_
  refine s_iconst (v := 4) dL_law_1275 rfl ?_
  refine s_iadd dL_law_1276 ?_
  refine s_sld (n := (i + 4)) dL_law_1277 (nI_cl i 4 hi) (nI_vp i 4 (by decide) hi) ?_
  refine s_aload_n (x := (95, 100, 0)) dL_law_1278 rfl ?_
  refine s_iload_n (x := nI i) dL_law_1279 rfl ?_
  refine s_iconst (v := 5) dL_law_1280 rfl ?_
  refine s_iadd dL_law_1281 ?_
  refine s_sld (n := (i + 5)) dL_law_1282 (nI_cl i 5 hi) (nI_vp i 5 (by decide) hi) ?_
  refine s_callC (as := [vI (xs (i + 1)), vI (xs (i + 2)), vI (xs (i + 3)), vI (xs (i + 4)), vI (xs (i + 5))]) (st := []) (n := 5) (r := some (vI r)) (u' := u') mw_L_156 mv_X9_shift (C_X9_shift (l := l) hc) (le_b rfl) dL_law_1283 rfl rfl (le_b rfl) hkc hkn ?_
  show XS _ l _ _ _ _ _ _ _ kc kn 1286 [some (vR (95, 100, 0)), some (vR (0, 0, 0)), some (vR (40, 0, 0)), some (vI (nI i))] [vI r] (mg u' w)
  refine s_aload_n (x := (40, 0, 0)) dL_law_1286 rfl ?_
  refine s_aload_n (x := (95, 100, 0)) dL_law_1287 rfl ?_
  refine s_iload_n (x := nI i) dL_law_1288 rfl ?_
  refine s_iconst (v := 1) dL_law_1289 rfl ?_
  refine s_iadd dL_law_1290 ?_
  refine s_sld (n := (i + 1)) dL_law_1291 (nI_cl i 1 hi) (nI_vp i 1 (by decide) hi) ?_
  refine s_aload_n (x := (95, 100, 0)) dL_law_1292 rfl ?_
  refine s_iload_n (x := nI i) dL_law_1293 rfl ?_
  refine s_iconst (v := 2) dL_law_1294 rfl ?_
  refine s_iadd dL_law_1295 ?_
  refine s_sld (n := (i + 2)) dL_law_1296 (nI_cl i 2 hi) (nI_vp i 2 (by decide) hi) ?_
  refine s_aload_n (x := (95, 100, 0)) dL_law_1297 rfl ?_
  refine s_iload_n (x := nI i) dL_law_1298 rfl ?_
  refine s_iconst (v := 3) dL_law_1299 rfl ?_
  refine s_iadd dL_law_1300 ?_
  refine s_sld (n := (i + 3)) dL_law_1301 (nI_cl i 3 hi) (nI_vp i 3 (by decide) hi) ?_
  refine s_aload_n (x := (95, 100, 0)) dL_law_1302 rfl ?_
  refine s_iload_n (x := nI i) dL_law_1303 rfl ?_
  refine s_iconst (v := 4) dL_law_1304 rfl ?_
  refine s_iadd dL_law_1305 ?_
  refine s_sld (n := (i + 4)) dL_law_1306 (nI_cl i 4 hi) (nI_vp i 4 (by decide) hi) ?_
  refine s_aload_n (x := (95, 100, 0)) dL_law_1307 rfl ?_
  refine s_iload_n (x := nI i) dL_law_1308 rfl ?_
  refine s_iconst (v := 5) dL_law_1309 rfl ?_
  refine s_iadd dL_law_1310 ?_
  refine s_sld (n := (i + 5)) dL_law_1311 (nI_cl i 5 hi) (nI_vp i 5 (by decide) hi) ?_
  refine s_callM (as := [vI (xs (i + 1)), vI (xs (i + 2)), vI (xs (i + 3)), vI (xs (i + 4)), vI (xs (i + 5))]) (st := [vI r]) (n := 5) (r := some (vI r)) (w' := w') mw_L_160 mv_X10_shift (C_X10_shift (l := l) hm) (le_b rfl) dL_law_1312 rfl rfl (le_b rfl) hkc hkn ?_
  show XS _ l _ _ _ _ _ _ _ kc kn 1315 [some (vR (95, 100, 0)), some (vR (0, 0, 0)), some (vR (40, 0, 0)), some (vI (nI i))] [vI r, vI r] (mg u' w')
  refine s_icmp_eq (tgt := 1320) dL_law_1315 (by decide) (fun _ => ?_) (fun hc => absurd rfl hc)
  exact cont u' w' hrel'
