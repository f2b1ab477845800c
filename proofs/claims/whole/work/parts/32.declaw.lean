/-! ===== decoded instructions of the law ===== -/
theorem dd_La_law_0 : decode cc_La_law 0 = .ok (.new 8, 3) := by decide +kernel
theorem dd_La_law_3 : decode cc_La_law 3 = .ok (.dup, 1) := by decide +kernel
theorem dd_La_law_4 : decode cc_La_law 4 = .ok (.aload_n 0, 1) := by decide +kernel
theorem dd_La_law_5 : decode cc_La_law 5 = .ok (.iconst 0, 1) := by decide +kernel
theorem dd_La_law_6 : decode cc_La_law 6 = .ok (.invokestatic 94, 3) := by decide +kernel
theorem dd_La_law_9 : decode cc_La_law 9 = .ok (.invokespecial 100, 3) := by decide +kernel
theorem dd_La_law_12 : decode cc_La_law 12 = .ok (.astore_n 1, 1) := by decide +kernel
theorem dd_La_law_13 : decode cc_La_law 13 = .ok (.new 103, 3) := by decide +kernel
theorem dd_La_law_16 : decode cc_La_law 16 = .ok (.dup, 1) := by decide +kernel
theorem dd_La_law_17 : decode cc_La_law 17 = .ok (.aload_n 0, 1) := by decide +kernel
theorem dd_La_law_18 : decode cc_La_law 18 = .ok (.iconst 0, 1) := by decide +kernel
theorem dd_La_law_19 : decode cc_La_law 19 = .ok (.invokestatic 94, 3) := by decide +kernel
theorem dd_La_law_22 : decode cc_La_law 22 = .ok (.invokespecial 105, 3) := by decide +kernel
theorem dd_La_law_25 : decode cc_La_law 25 = .ok (.astore_n 2, 1) := by decide +kernel
theorem dd_La_law_26 : decode cc_La_law 26 = .ok (.iconst 1, 1) := by decide +kernel
theorem dd_La_law_27 : decode cc_La_law 27 = .ok (.newarray .long, 2) := by decide +kernel
theorem dd_La_law_29 : decode cc_La_law 29 = .ok (.astore_n 3, 1) := by decide +kernel
theorem dd_La_law_30 : decode cc_La_law 30 = .ok (.iconst 1, 1) := by decide +kernel
theorem dd_La_law_31 : decode cc_La_law 31 = .ok (.istore 4, 2) := by decide +kernel
theorem dd_La_law_33 : decode cc_La_law 33 = .ok (.iload 4, 2) := by decide +kernel
theorem dd_La_law_35 : decode cc_La_law 35 = .ok (.aload_n 0, 1) := by decide +kernel
theorem dd_La_law_36 : decode cc_La_law 36 = .ok (.arraylength, 1) := by decide +kernel
theorem dd_La_law_37 : decode cc_La_law 37 = .ok (.iconst 5, 1) := by decide +kernel
theorem dd_La_law_38 : decode cc_La_law 38 = .ok (.isub, 1) := by decide +kernel
theorem dd_La_law_39 : decode cc_La_law 39 = .ok (.if_icmp .gt 1613, 3) := by decide +kernel
theorem dd_La_law_42 : decode cc_La_law 42 = .ok (.aload_n 0, 1) := by decide +kernel
theorem dd_La_law_43 : decode cc_La_law 43 = .ok (.iload 4, 2) := by decide +kernel
theorem dd_La_law_45 : decode cc_La_law 45 = .ok (.iaload, 1) := by decide +kernel
theorem dd_La_law_46 : decode cc_La_law 46 = .ok (.bipush 31, 2) := by decide +kernel
theorem dd_La_law_48 : decode cc_La_law 48 = .ok (.iand, 1) := by decide +kernel
theorem dd_La_law_49 : decode cc_La_law 49 = .ok (.tableswitch 1597 0 22 #[107, 151, 207, 255, 315, 375, 435, 507, 567, 627, 699, 786, 854, 922, 978, 1034, 1090, 1158, 1226, 1294, 1362, 1430, 1498], 107) := by decide +kernel
theorem dd_La_law_156 : decode cc_La_law 156 = .ok (.aload_n 1, 1) := by decide +kernel
theorem dd_La_law_157 : decode cc_La_law 157 = .ok (.aload_n 3, 1) := by decide +kernel
theorem dd_La_law_158 : decode cc_La_law 158 = .ok (.invokestatic 106, 3) := by decide +kernel
theorem dd_La_law_161 : decode cc_La_law 161 = .ok (.istore 5, 2) := by decide +kernel
theorem dd_La_law_163 : decode cc_La_law 163 = .ok (.aload_n 2, 1) := by decide +kernel
theorem dd_La_law_164 : decode cc_La_law 164 = .ok (.invokevirtual 109, 3) := by decide +kernel
theorem dd_La_law_167 : decode cc_La_law 167 = .ok (.istore 6, 2) := by decide +kernel
theorem dd_La_law_169 : decode cc_La_law 169 = .ok (.aload_n 2, 1) := by decide +kernel
theorem dd_La_law_170 : decode cc_La_law 170 = .ok (.invokevirtual 110, 3) := by decide +kernel
theorem dd_La_law_173 : decode cc_La_law 173 = .ok (.iload 5, 2) := by decide +kernel
theorem dd_La_law_175 : decode cc_La_law 175 = .ok (.if_icmp .eq 5, 3) := by decide +kernel
theorem dd_La_law_178 : decode cc_La_law 178 = .ok (.iconst 0, 1) := by decide +kernel
theorem dd_La_law_179 : decode cc_La_law 179 = .ok (.ireturn, 1) := by decide +kernel
theorem dd_La_law_180 : decode cc_La_law 180 = .ok (.iload 5, 2) := by decide +kernel
theorem dd_La_law_182 : decode cc_La_law 182 = .ok (.ifCond .ne 15, 3) := by decide +kernel
theorem dd_La_law_185 : decode cc_La_law 185 = .ok (.aload_n 3, 1) := by decide +kernel
theorem dd_La_law_186 : decode cc_La_law 186 = .ok (.iconst 0, 1) := by decide +kernel
theorem dd_La_law_187 : decode cc_La_law 187 = .ok (.laload, 1) := by decide +kernel
theorem dd_La_law_188 : decode cc_La_law 188 = .ok (.iload 6, 2) := by decide +kernel
theorem dd_La_law_190 : decode cc_La_law 190 = .ok (.i2l, 1) := by decide +kernel
theorem dd_La_law_191 : decode cc_La_law 191 = .ok (.lcmp, 1) := by decide +kernel
theorem dd_La_law_192 : decode cc_La_law 192 = .ok (.ifCond .eq 5, 3) := by decide +kernel
theorem dd_La_law_195 : decode cc_La_law 195 = .ok (.iconst 0, 1) := by decide +kernel
theorem dd_La_law_196 : decode cc_La_law 196 = .ok (.ireturn, 1) := by decide +kernel
theorem dd_La_law_197 : decode cc_La_law 197 = .ok (.goto 1449, 3) := by decide +kernel
theorem dd_La_law_200 : decode cc_La_law 200 = .ok (.aload_n 1, 1) := by decide +kernel
theorem dd_La_law_201 : decode cc_La_law 201 = .ok (.aload_n 0, 1) := by decide +kernel
theorem dd_La_law_202 : decode cc_La_law 202 = .ok (.iload 4, 2) := by decide +kernel
theorem dd_La_law_204 : decode cc_La_law 204 = .ok (.iconst 1, 1) := by decide +kernel
theorem dd_La_law_205 : decode cc_La_law 205 = .ok (.iadd, 1) := by decide +kernel
theorem dd_La_law_206 : decode cc_La_law 206 = .ok (.iaload, 1) := by decide +kernel
theorem dd_La_law_207 : decode cc_La_law 207 = .ok (.aload_n 3, 1) := by decide +kernel
theorem dd_La_law_208 : decode cc_La_law 208 = .ok (.invokestatic 113, 3) := by decide +kernel
theorem dd_La_law_211 : decode cc_La_law 211 = .ok (.istore 5, 2) := by decide +kernel
theorem dd_La_law_213 : decode cc_La_law 213 = .ok (.aload_n 2, 1) := by decide +kernel
theorem dd_La_law_214 : decode cc_La_law 214 = .ok (.aload_n 0, 1) := by decide +kernel
theorem dd_La_law_215 : decode cc_La_law 215 = .ok (.iload 4, 2) := by decide +kernel
theorem dd_La_law_217 : decode cc_La_law 217 = .ok (.iconst 1, 1) := by decide +kernel
theorem dd_La_law_218 : decode cc_La_law 218 = .ok (.iadd, 1) := by decide +kernel
theorem dd_La_law_219 : decode cc_La_law 219 = .ok (.iaload, 1) := by decide +kernel
theorem dd_La_law_220 : decode cc_La_law 220 = .ok (.invokevirtual 116, 3) := by decide +kernel
theorem dd_La_law_223 : decode cc_La_law 223 = .ok (.istore 6, 2) := by decide +kernel
theorem dd_La_law_225 : decode cc_La_law 225 = .ok (.aload_n 2, 1) := by decide +kernel
theorem dd_La_law_226 : decode cc_La_law 226 = .ok (.invokevirtual 110, 3) := by decide +kernel
theorem dd_La_law_229 : decode cc_La_law 229 = .ok (.iload 5, 2) := by decide +kernel
theorem dd_La_law_231 : decode cc_La_law 231 = .ok (.if_icmp .eq 5, 3) := by decide +kernel
theorem dd_La_law_234 : decode cc_La_law 234 = .ok (.iconst 0, 1) := by decide +kernel
theorem dd_La_law_235 : decode cc_La_law 235 = .ok (.ireturn, 1) := by decide +kernel
theorem dd_La_law_236 : decode cc_La_law 236 = .ok (.iload 5, 2) := by decide +kernel
theorem dd_La_law_238 : decode cc_La_law 238 = .ok (.ifCond .ne 15, 3) := by decide +kernel
theorem dd_La_law_241 : decode cc_La_law 241 = .ok (.aload_n 3, 1) := by decide +kernel
theorem dd_La_law_242 : decode cc_La_law 242 = .ok (.iconst 0, 1) := by decide +kernel
theorem dd_La_law_243 : decode cc_La_law 243 = .ok (.laload, 1) := by decide +kernel
theorem dd_La_law_244 : decode cc_La_law 244 = .ok (.iload 6, 2) := by decide +kernel
theorem dd_La_law_246 : decode cc_La_law 246 = .ok (.i2l, 1) := by decide +kernel
theorem dd_La_law_247 : decode cc_La_law 247 = .ok (.lcmp, 1) := by decide +kernel
theorem dd_La_law_248 : decode cc_La_law 248 = .ok (.ifCond .eq 5, 3) := by decide +kernel
theorem dd_La_law_251 : decode cc_La_law 251 = .ok (.iconst 0, 1) := by decide +kernel
theorem dd_La_law_252 : decode cc_La_law 252 = .ok (.ireturn, 1) := by decide +kernel
theorem dd_La_law_253 : decode cc_La_law 253 = .ok (.goto 1393, 3) := by decide +kernel
theorem dd_La_law_256 : decode cc_La_law 256 = .ok (.aload_n 1, 1) := by decide +kernel
theorem dd_La_law_257 : decode cc_La_law 257 = .ok (.aload_n 0, 1) := by decide +kernel
theorem dd_La_law_258 : decode cc_La_law 258 = .ok (.iload 4, 2) := by decide +kernel
theorem dd_La_law_260 : decode cc_La_law 260 = .ok (.iconst 1, 1) := by decide +kernel
theorem dd_La_law_261 : decode cc_La_law 261 = .ok (.iadd, 1) := by decide +kernel
theorem dd_La_law_262 : decode cc_La_law 262 = .ok (.iaload, 1) := by decide +kernel
theorem dd_La_law_263 : decode cc_La_law 263 = .ok (.aload_n 0, 1) := by decide +kernel
theorem dd_La_law_264 : decode cc_La_law 264 = .ok (.iload 4, 2) := by decide +kernel
theorem dd_La_law_266 : decode cc_La_law 266 = .ok (.iconst 2, 1) := by decide +kernel
theorem dd_La_law_267 : decode cc_La_law 267 = .ok (.iadd, 1) := by decide +kernel
theorem dd_La_law_268 : decode cc_La_law 268 = .ok (.iaload, 1) := by decide +kernel
theorem dd_La_law_269 : decode cc_La_law 269 = .ok (.invokestatic 117, 3) := by decide +kernel
theorem dd_La_law_272 : decode cc_La_law 272 = .ok (.istore 5, 2) := by decide +kernel
theorem dd_La_law_274 : decode cc_La_law 274 = .ok (.aload_n 2, 1) := by decide +kernel
theorem dd_La_law_275 : decode cc_La_law 275 = .ok (.aload_n 0, 1) := by decide +kernel
theorem dd_La_law_276 : decode cc_La_law 276 = .ok (.iload 4, 2) := by decide +kernel
theorem dd_La_law_278 : decode cc_La_law 278 = .ok (.iconst 1, 1) := by decide +kernel
theorem dd_La_law_279 : decode cc_La_law 279 = .ok (.iadd, 1) := by decide +kernel
theorem dd_La_law_280 : decode cc_La_law 280 = .ok (.iaload, 1) := by decide +kernel
theorem dd_La_law_281 : decode cc_La_law 281 = .ok (.aload_n 0, 1) := by decide +kernel
theorem dd_La_law_282 : decode cc_La_law 282 = .ok (.iload 4, 2) := by decide +kernel
theorem dd_La_law_284 : decode cc_La_law 284 = .ok (.iconst 2, 1) := by decide +kernel
theorem dd_La_law_285 : decode cc_La_law 285 = .ok (.iadd, 1) := by decide +kernel
theorem dd_La_law_286 : decode cc_La_law 286 = .ok (.iaload, 1) := by decide +kernel
theorem dd_La_law_287 : decode cc_La_law 287 = .ok (.invokevirtual 120, 3) := by decide +kernel
theorem dd_La_law_290 : decode cc_La_law 290 = .ok (.aload_n 2, 1) := by decide +kernel
theorem dd_La_law_291 : decode cc_La_law 291 = .ok (.invokevirtual 110, 3) := by decide +kernel
theorem dd_La_law_294 : decode cc_La_law 294 = .ok (.iload 5, 2) := by decide +kernel
theorem dd_La_law_296 : decode cc_La_law 296 = .ok (.if_icmp .eq 5, 3) := by decide +kernel
theorem dd_La_law_299 : decode cc_La_law 299 = .ok (.iconst 0, 1) := by decide +kernel
theorem dd_La_law_300 : decode cc_La_law 300 = .ok (.ireturn, 1) := by decide +kernel
theorem dd_La_law_301 : decode cc_La_law 301 = .ok (.goto 1345, 3) := by decide +kernel
theorem dd_La_law_304 : decode cc_La_law 304 = .ok (.aload_n 1, 1) := by decide +kernel
theorem dd_La_law_305 : decode cc_La_law 305 = .ok (.aload_n 0, 1) := by decide +kernel
theorem dd_La_law_306 : decode cc_La_law 306 = .ok (.iload 4, 2) := by decide +kernel
theorem dd_La_law_308 : decode cc_La_law 308 = .ok (.iconst 1, 1) := by decide +kernel
theorem dd_La_law_309 : decode cc_La_law 309 = .ok (.iadd, 1) := by decide +kernel
theorem dd_La_law_310 : decode cc_La_law 310 = .ok (.iaload, 1) := by decide +kernel
theorem dd_La_law_311 : decode cc_La_law 311 = .ok (.aload_n 0, 1) := by decide +kernel
theorem dd_La_law_312 : decode cc_La_law 312 = .ok (.iload 4, 2) := by decide +kernel
theorem dd_La_law_314 : decode cc_La_law 314 = .ok (.iconst 2, 1) := by decide +kernel
theorem dd_La_law_315 : decode cc_La_law 315 = .ok (.iadd, 1) := by decide +kernel
theorem dd_La_law_316 : decode cc_La_law 316 = .ok (.iaload, 1) := by decide +kernel
theorem dd_La_law_317 : decode cc_La_law 317 = .ok (.aload_n 0, 1) := by decide +kernel
theorem dd_La_law_318 : decode cc_La_law 318 = .ok (.iload 4, 2) := by decide +kernel
theorem dd_La_law_320 : decode cc_La_law 320 = .ok (.iconst 3, 1) := by decide +kernel
theorem dd_La_law_321 : decode cc_La_law 321 = .ok (.iadd, 1) := by decide +kernel
theorem dd_La_law_322 : decode cc_La_law 322 = .ok (.iaload, 1) := by decide +kernel
theorem dd_La_law_323 : decode cc_La_law 323 = .ok (.invokestatic 121, 3) := by decide +kernel
theorem dd_La_law_326 : decode cc_La_law 326 = .ok (.istore 5, 2) := by decide +kernel
theorem dd_La_law_328 : decode cc_La_law 328 = .ok (.aload_n 2, 1) := by decide +kernel
theorem dd_La_law_329 : decode cc_La_law 329 = .ok (.aload_n 0, 1) := by decide +kernel
theorem dd_La_law_330 : decode cc_La_law 330 = .ok (.iload 4, 2) := by decide +kernel
theorem dd_La_law_332 : decode cc_La_law 332 = .ok (.iconst 1, 1) := by decide +kernel
theorem dd_La_law_333 : decode cc_La_law 333 = .ok (.iadd, 1) := by decide +kernel
theorem dd_La_law_334 : decode cc_La_law 334 = .ok (.iaload, 1) := by decide +kernel
theorem dd_La_law_335 : decode cc_La_law 335 = .ok (.aload_n 0, 1) := by decide +kernel
theorem dd_La_law_336 : decode cc_La_law 336 = .ok (.iload 4, 2) := by decide +kernel
theorem dd_La_law_338 : decode cc_La_law 338 = .ok (.iconst 2, 1) := by decide +kernel
theorem dd_La_law_339 : decode cc_La_law 339 = .ok (.iadd, 1) := by decide +kernel
theorem dd_La_law_340 : decode cc_La_law 340 = .ok (.iaload, 1) := by decide +kernel
theorem dd_La_law_341 : decode cc_La_law 341 = .ok (.aload_n 0, 1) := by decide +kernel
theorem dd_La_law_342 : decode cc_La_law 342 = .ok (.iload 4, 2) := by decide +kernel
theorem dd_La_law_344 : decode cc_La_law 344 = .ok (.iconst 3, 1) := by decide +kernel
theorem dd_La_law_345 : decode cc_La_law 345 = .ok (.iadd, 1) := by decide +kernel
theorem dd_La_law_346 : decode cc_La_law 346 = .ok (.iaload, 1) := by decide +kernel
theorem dd_La_law_347 : decode cc_La_law 347 = .ok (.invokevirtual 124, 3) := by decide +kernel
theorem dd_La_law_350 : decode cc_La_law 350 = .ok (.aload_n 2, 1) := by decide +kernel
theorem dd_La_law_351 : decode cc_La_law 351 = .ok (.invokevirtual 110, 3) := by decide +kernel
theorem dd_La_law_354 : decode cc_La_law 354 = .ok (.iload 5, 2) := by decide +kernel
theorem dd_La_law_356 : decode cc_La_law 356 = .ok (.if_icmp .eq 5, 3) := by decide +kernel
theorem dd_La_law_359 : decode cc_La_law 359 = .ok (.iconst 0, 1) := by decide +kernel
theorem dd_La_law_360 : decode cc_La_law 360 = .ok (.ireturn, 1) := by decide +kernel
theorem dd_La_law_361 : decode cc_La_law 361 = .ok (.goto 1285, 3) := by decide +kernel
theorem dd_La_law_364 : decode cc_La_law 364 = .ok (.aload_n 1, 1) := by decide +kernel
theorem dd_La_law_365 : decode cc_La_law 365 = .ok (.aload_n 0, 1) := by decide +kernel
theorem dd_La_law_366 : decode cc_La_law 366 = .ok (.iload 4, 2) := by decide +kernel
theorem dd_La_law_368 : decode cc_La_law 368 = .ok (.iconst 1, 1) := by decide +kernel
theorem dd_La_law_369 : decode cc_La_law 369 = .ok (.iadd, 1) := by decide +kernel
theorem dd_La_law_370 : decode cc_La_law 370 = .ok (.iaload, 1) := by decide +kernel
theorem dd_La_law_371 : decode cc_La_law 371 = .ok (.aload_n 0, 1) := by decide +kernel
theorem dd_La_law_372 : decode cc_La_law 372 = .ok (.iload 4, 2) := by decide +kernel
theorem dd_La_law_374 : decode cc_La_law 374 = .ok (.iconst 2, 1) := by decide +kernel
theorem dd_La_law_375 : decode cc_La_law 375 = .ok (.iadd, 1) := by decide +kernel
theorem dd_La_law_376 : decode cc_La_law 376 = .ok (.iaload, 1) := by decide +kernel
theorem dd_La_law_377 : decode cc_La_law 377 = .ok (.aload_n 0, 1) := by decide +kernel
theorem dd_La_law_378 : decode cc_La_law 378 = .ok (.iload 4, 2) := by decide +kernel
theorem dd_La_law_380 : decode cc_La_law 380 = .ok (.iconst 3, 1) := by decide +kernel
theorem dd_La_law_381 : decode cc_La_law 381 = .ok (.iadd, 1) := by decide +kernel
theorem dd_La_law_382 : decode cc_La_law 382 = .ok (.iaload, 1) := by decide +kernel
theorem dd_La_law_383 : decode cc_La_law 383 = .ok (.invokestatic 125, 3) := by decide +kernel
theorem dd_La_law_386 : decode cc_La_law 386 = .ok (.istore 5, 2) := by decide +kernel
theorem dd_La_law_388 : decode cc_La_law 388 = .ok (.aload_n 2, 1) := by decide +kernel
theorem dd_La_law_389 : decode cc_La_law 389 = .ok (.aload_n 0, 1) := by decide +kernel
theorem dd_La_law_390 : decode cc_La_law 390 = .ok (.iload 4, 2) := by decide +kernel
theorem dd_La_law_392 : decode cc_La_law 392 = .ok (.iconst 1, 1) := by decide +kernel
theorem dd_La_law_393 : decode cc_La_law 393 = .ok (.iadd, 1) := by decide +kernel
theorem dd_La_law_394 : decode cc_La_law 394 = .ok (.iaload, 1) := by decide +kernel
theorem dd_La_law_395 : decode cc_La_law 395 = .ok (.aload_n 0, 1) := by decide +kernel
theorem dd_La_law_396 : decode cc_La_law 396 = .ok (.iload 4, 2) := by decide +kernel
theorem dd_La_law_398 : decode cc_La_law 398 = .ok (.iconst 2, 1) := by decide +kernel
theorem dd_La_law_399 : decode cc_La_law 399 = .ok (.iadd, 1) := by decide +kernel
theorem dd_La_law_400 : decode cc_La_law 400 = .ok (.iaload, 1) := by decide +kernel
theorem dd_La_law_401 : decode cc_La_law 401 = .ok (.aload_n 0, 1) := by decide +kernel
theorem dd_La_law_402 : decode cc_La_law 402 = .ok (.iload 4, 2) := by decide +kernel
theorem dd_La_law_404 : decode cc_La_law 404 = .ok (.iconst 3, 1) := by decide +kernel
theorem dd_La_law_405 : decode cc_La_law 405 = .ok (.iadd, 1) := by decide +kernel
theorem dd_La_law_406 : decode cc_La_law 406 = .ok (.iaload, 1) := by decide +kernel
theorem dd_La_law_407 : decode cc_La_law 407 = .ok (.invokevirtual 127, 3) := by decide +kernel
theorem dd_La_law_410 : decode cc_La_law 410 = .ok (.aload_n 2, 1) := by decide +kernel
theorem dd_La_law_411 : decode cc_La_law 411 = .ok (.invokevirtual 110, 3) := by decide +kernel
theorem dd_La_law_414 : decode cc_La_law 414 = .ok (.iload 5, 2) := by decide +kernel
theorem dd_La_law_416 : decode cc_La_law 416 = .ok (.if_icmp .eq 5, 3) := by decide +kernel
theorem dd_La_law_419 : decode cc_La_law 419 = .ok (.iconst 0, 1) := by decide +kernel
theorem dd_La_law_420 : decode cc_La_law 420 = .ok (.ireturn, 1) := by decide +kernel
theorem dd_La_law_421 : decode cc_La_law 421 = .ok (.goto 1225, 3) := by decide +kernel
theorem dd_La_law_424 : decode cc_La_law 424 = .ok (.aload_n 1, 1) := by decide +kernel
theorem dd_La_law_425 : decode cc_La_law 425 = .ok (.aload_n 0, 1) := by decide +kernel
theorem dd_La_law_426 : decode cc_La_law 426 = .ok (.iload 4, 2) := by decide +kernel
theorem dd_La_law_428 : decode cc_La_law 428 = .ok (.iconst 1, 1) := by decide +kernel
theorem dd_La_law_429 : decode cc_La_law 429 = .ok (.iadd, 1) := by decide +kernel
theorem dd_La_law_430 : decode cc_La_law 430 = .ok (.iaload, 1) := by decide +kernel
theorem dd_La_law_431 : decode cc_La_law 431 = .ok (.aload_n 0, 1) := by decide +kernel
theorem dd_La_law_432 : decode cc_La_law 432 = .ok (.iload 4, 2) := by decide +kernel
theorem dd_La_law_434 : decode cc_La_law 434 = .ok (.iconst 2, 1) := by decide +kernel
theorem dd_La_law_435 : decode cc_La_law 435 = .ok (.iadd, 1) := by decide +kernel
theorem dd_La_law_436 : decode cc_La_law 436 = .ok (.iaload, 1) := by decide +kernel
theorem dd_La_law_437 : decode cc_La_law 437 = .ok (.aload_n 0, 1) := by decide +kernel
theorem dd_La_law_438 : decode cc_La_law 438 = .ok (.iload 4, 2) := by decide +kernel
theorem dd_La_law_440 : decode cc_La_law 440 = .ok (.iconst 3, 1) := by decide +kernel
theorem dd_La_law_441 : decode cc_La_law 441 = .ok (.iadd, 1) := by decide +kernel
theorem dd_La_law_442 : decode cc_La_law 442 = .ok (.iaload, 1) := by decide +kernel
theorem dd_La_law_443 : decode cc_La_law 443 = .ok (.invokestatic 128, 3) := by decide +kernel
theorem dd_La_law_446 : decode cc_La_law 446 = .ok (.istore 5, 2) := by decide +kernel
theorem dd_La_law_448 : decode cc_La_law 448 = .ok (.aload_n 2, 1) := by decide +kernel
theorem dd_La_law_449 : decode cc_La_law 449 = .ok (.aload_n 0, 1) := by decide +kernel
theorem dd_La_law_450 : decode cc_La_law 450 = .ok (.iload 4, 2) := by decide +kernel
theorem dd_La_law_452 : decode cc_La_law 452 = .ok (.iconst 1, 1) := by decide +kernel
theorem dd_La_law_453 : decode cc_La_law 453 = .ok (.iadd, 1) := by decide +kernel
theorem dd_La_law_454 : decode cc_La_law 454 = .ok (.iaload, 1) := by decide +kernel
theorem dd_La_law_455 : decode cc_La_law 455 = .ok (.aload_n 0, 1) := by decide +kernel
theorem dd_La_law_456 : decode cc_La_law 456 = .ok (.iload 4, 2) := by decide +kernel
theorem dd_La_law_458 : decode cc_La_law 458 = .ok (.iconst 2, 1) := by decide +kernel
theorem dd_La_law_459 : decode cc_La_law 459 = .ok (.iadd, 1) := by decide +kernel
theorem dd_La_law_460 : decode cc_La_law 460 = .ok (.iaload, 1) := by decide +kernel
theorem dd_La_law_461 : decode cc_La_law 461 = .ok (.aload_n 0, 1) := by decide +kernel
theorem dd_La_law_462 : decode cc_La_law 462 = .ok (.iload 4, 2) := by decide +kernel
theorem dd_La_law_464 : decode cc_La_law 464 = .ok (.iconst 3, 1) := by decide +kernel
theorem dd_La_law_465 : decode cc_La_law 465 = .ok (.iadd, 1) := by decide +kernel
theorem dd_La_law_466 : decode cc_La_law 466 = .ok (.iaload, 1) := by decide +kernel
theorem dd_La_law_467 : decode cc_La_law 467 = .ok (.invokevirtual 130, 3) := by decide +kernel
theorem dd_La_law_470 : decode cc_La_law 470 = .ok (.aload_n 2, 1) := by decide +kernel
theorem dd_La_law_471 : decode cc_La_law 471 = .ok (.invokevirtual 110, 3) := by decide +kernel
theorem dd_La_law_474 : decode cc_La_law 474 = .ok (.iload 5, 2) := by decide +kernel
theorem dd_La_law_476 : decode cc_La_law 476 = .ok (.if_icmp .eq 5, 3) := by decide +kernel
theorem dd_La_law_479 : decode cc_La_law 479 = .ok (.iconst 0, 1) := by decide +kernel
theorem dd_La_law_480 : decode cc_La_law 480 = .ok (.ireturn, 1) := by decide +kernel
theorem dd_La_law_481 : decode cc_La_law 481 = .ok (.goto 1165, 3) := by decide +kernel
theorem dd_La_law_484 : decode cc_La_law 484 = .ok (.aload_n 1, 1) := by decide +kernel
theorem dd_La_law_485 : decode cc_La_law 485 = .ok (.aload_n 0, 1) := by decide +kernel
theorem dd_La_law_486 : decode cc_La_law 486 = .ok (.iload 4, 2) := by decide +kernel
theorem dd_La_law_488 : decode cc_La_law 488 = .ok (.iconst 1, 1) := by decide +kernel
theorem dd_La_law_489 : decode cc_La_law 489 = .ok (.iadd, 1) := by decide +kernel
theorem dd_La_law_490 : decode cc_La_law 490 = .ok (.iaload, 1) := by decide +kernel
theorem dd_La_law_491 : decode cc_La_law 491 = .ok (.aload_n 0, 1) := by decide +kernel
theorem dd_La_law_492 : decode cc_La_law 492 = .ok (.iload 4, 2) := by decide +kernel
theorem dd_La_law_494 : decode cc_La_law 494 = .ok (.iconst 2, 1) := by decide +kernel
theorem dd_La_law_495 : decode cc_La_law 495 = .ok (.iadd, 1) := by decide +kernel
theorem dd_La_law_496 : decode cc_La_law 496 = .ok (.iaload, 1) := by decide +kernel
theorem dd_La_law_497 : decode cc_La_law 497 = .ok (.aload_n 0, 1) := by decide +kernel
theorem dd_La_law_498 : decode cc_La_law 498 = .ok (.iload 4, 2) := by decide +kernel
theorem dd_La_law_500 : decode cc_La_law 500 = .ok (.iconst 3, 1) := by decide +kernel
theorem dd_La_law_501 : decode cc_La_law 501 = .ok (.iadd, 1) := by decide +kernel
theorem dd_La_law_502 : decode cc_La_law 502 = .ok (.iaload, 1) := by decide +kernel
theorem dd_La_law_503 : decode cc_La_law 503 = .ok (.aload_n 0, 1) := by decide +kernel
theorem dd_La_law_504 : decode cc_La_law 504 = .ok (.iload 4, 2) := by decide +kernel
theorem dd_La_law_506 : decode cc_La_law 506 = .ok (.iconst 4, 1) := by decide +kernel
theorem dd_La_law_507 : decode cc_La_law 507 = .ok (.iadd, 1) := by decide +kernel
theorem dd_La_law_508 : decode cc_La_law 508 = .ok (.iaload, 1) := by decide +kernel
theorem dd_La_law_509 : decode cc_La_law 509 = .ok (.invokestatic 131, 3) := by decide +kernel
theorem dd_La_law_512 : decode cc_La_law 512 = .ok (.istore 5, 2) := by decide +kernel
theorem dd_La_law_514 : decode cc_La_law 514 = .ok (.aload_n 2, 1) := by decide +kernel
theorem dd_La_law_515 : decode cc_La_law 515 = .ok (.aload_n 0, 1) := by decide +kernel
theorem dd_La_law_516 : decode cc_La_law 516 = .ok (.iload 4, 2) := by decide +kernel
theorem dd_La_law_518 : decode cc_La_law 518 = .ok (.iconst 1, 1) := by decide +kernel
theorem dd_La_law_519 : decode cc_La_law 519 = .ok (.iadd, 1) := by decide +kernel
theorem dd_La_law_520 : decode cc_La_law 520 = .ok (.iaload, 1) := by decide +kernel
theorem dd_La_law_521 : decode cc_La_law 521 = .ok (.aload_n 0, 1) := by decide +kernel
theorem dd_La_law_522 : decode cc_La_law 522 = .ok (.iload 4, 2) := by decide +kernel
theorem dd_La_law_524 : decode cc_La_law 524 = .ok (.iconst 2, 1) := by decide +kernel
theorem dd_La_law_525 : decode cc_La_law 525 = .ok (.iadd, 1) := by decide +kernel
theorem dd_La_law_526 : decode cc_La_law 526 = .ok (.iaload, 1) := by decide +kernel
theorem dd_La_law_527 : decode cc_La_law 527 = .ok (.aload_n 0, 1) := by decide +kernel
theorem dd_La_law_528 : decode cc_La_law 528 = .ok (.iload 4, 2) := by decide +kernel
theorem dd_La_law_530 : decode cc_La_law 530 = .ok (.iconst 3, 1) := by decide +kernel
theorem dd_La_law_531 : decode cc_La_law 531 = .ok (.iadd, 1) := by decide +kernel
theorem dd_La_law_532 : decode cc_La_law 532 = .ok (.iaload, 1) := by decide +kernel
theorem dd_La_law_533 : decode cc_La_law 533 = .ok (.aload_n 0, 1) := by decide +kernel
theorem dd_La_law_534 : decode cc_La_law 534 = .ok (.iload 4, 2) := by decide +kernel
theorem dd_La_law_536 : decode cc_La_law 536 = .ok (.iconst 4, 1) := by decide +kernel
theorem dd_La_law_537 : decode cc_La_law 537 = .ok (.iadd, 1) := by decide +kernel
theorem dd_La_law_538 : decode cc_La_law 538 = .ok (.iaload, 1) := by decide +kernel
theorem dd_La_law_539 : decode cc_La_law 539 = .ok (.invokevirtual 134, 3) := by decide +kernel
theorem dd_La_law_542 : decode cc_La_law 542 = .ok (.aload_n 2, 1) := by decide +kernel
theorem dd_La_law_543 : decode cc_La_law 543 = .ok (.invokevirtual 110, 3) := by decide +kernel
theorem dd_La_law_546 : decode cc_La_law 546 = .ok (.iload 5, 2) := by decide +kernel
theorem dd_La_law_548 : decode cc_La_law 548 = .ok (.if_icmp .eq 5, 3) := by decide +kernel
theorem dd_La_law_551 : decode cc_La_law 551 = .ok (.iconst 0, 1) := by decide +kernel
theorem dd_La_law_552 : decode cc_La_law 552 = .ok (.ireturn, 1) := by decide +kernel
theorem dd_La_law_553 : decode cc_La_law 553 = .ok (.goto 1093, 3) := by decide +kernel
theorem dd_La_law_556 : decode cc_La_law 556 = .ok (.aload_n 1, 1) := by decide +kernel
theorem dd_La_law_557 : decode cc_La_law 557 = .ok (.aload_n 0, 1) := by decide +kernel
theorem dd_La_law_558 : decode cc_La_law 558 = .ok (.iload 4, 2) := by decide +kernel
theorem dd_La_law_560 : decode cc_La_law 560 = .ok (.iconst 1, 1) := by decide +kernel
theorem dd_La_law_561 : decode cc_La_law 561 = .ok (.iadd, 1) := by decide +kernel
theorem dd_La_law_562 : decode cc_La_law 562 = .ok (.iaload, 1) := by decide +kernel
theorem dd_La_law_563 : decode cc_La_law 563 = .ok (.aload_n 0, 1) := by decide +kernel
theorem dd_La_law_564 : decode cc_La_law 564 = .ok (.iload 4, 2) := by decide +kernel
theorem dd_La_law_566 : decode cc_La_law 566 = .ok (.iconst 2, 1) := by decide +kernel
theorem dd_La_law_567 : decode cc_La_law 567 = .ok (.iadd, 1) := by decide +kernel
theorem dd_La_law_568 : decode cc_La_law 568 = .ok (.iaload, 1) := by decide +kernel
theorem dd_La_law_569 : decode cc_La_law 569 = .ok (.aload_n 0, 1) := by decide +kernel
theorem dd_La_law_570 : decode cc_La_law 570 = .ok (.iload 4, 2) := by decide +kernel
theorem dd_La_law_572 : decode cc_La_law 572 = .ok (.iconst 3, 1) := by decide +kernel
theorem dd_La_law_573 : decode cc_La_law 573 = .ok (.iadd, 1) := by decide +kernel
theorem dd_La_law_574 : decode cc_La_law 574 = .ok (.iaload, 1) := by decide +kernel
theorem dd_La_law_575 : decode cc_La_law 575 = .ok (.invokestatic 135, 3) := by decide +kernel
theorem dd_La_law_578 : decode cc_La_law 578 = .ok (.istore 5, 2) := by decide +kernel
theorem dd_La_law_580 : decode cc_La_law 580 = .ok (.aload_n 2, 1) := by decide +kernel
theorem dd_La_law_581 : decode cc_La_law 581 = .ok (.aload_n 0, 1) := by decide +kernel
theorem dd_La_law_582 : decode cc_La_law 582 = .ok (.iload 4, 2) := by decide +kernel
theorem dd_La_law_584 : decode cc_La_law 584 = .ok (.iconst 1, 1) := by decide +kernel
theorem dd_La_law_585 : decode cc_La_law 585 = .ok (.iadd, 1) := by decide +kernel
theorem dd_La_law_586 : decode cc_La_law 586 = .ok (.iaload, 1) := by decide +kernel
theorem dd_La_law_587 : decode cc_La_law 587 = .ok (.aload_n 0, 1) := by decide +kernel
theorem dd_La_law_588 : decode cc_La_law 588 = .ok (.iload 4, 2) := by decide +kernel
theorem dd_La_law_590 : decode cc_La_law 590 = .ok (.iconst 2, 1) := by decide +kernel
theorem dd_La_law_591 : decode cc_La_law 591 = .ok (.iadd, 1) := by decide +kernel
theorem dd_La_law_592 : decode cc_La_law 592 = .ok (.iaload, 1) := by decide +kernel
theorem dd_La_law_593 : decode cc_La_law 593 = .ok (.aload_n 0, 1) := by decide +kernel
theorem dd_La_law_594 : decode cc_La_law 594 = .ok (.iload 4, 2) := by decide +kernel
theorem dd_La_law_596 : decode cc_La_law 596 = .ok (.iconst 3, 1) := by decide +kernel
theorem dd_La_law_597 : decode cc_La_law 597 = .ok (.iadd, 1) := by decide +kernel
theorem dd_La_law_598 : decode cc_La_law 598 = .ok (.iaload, 1) := by decide +kernel
theorem dd_La_law_599 : decode cc_La_law 599 = .ok (.invokevirtual 137, 3) := by decide +kernel
theorem dd_La_law_602 : decode cc_La_law 602 = .ok (.aload_n 2, 1) := by decide +kernel
theorem dd_La_law_603 : decode cc_La_law 603 = .ok (.invokevirtual 110, 3) := by decide +kernel
theorem dd_La_law_606 : decode cc_La_law 606 = .ok (.iload 5, 2) := by decide +kernel
theorem dd_La_law_608 : decode cc_La_law 608 = .ok (.if_icmp .eq 5, 3) := by decide +kernel
theorem dd_La_law_611 : decode cc_La_law 611 = .ok (.iconst 0, 1) := by decide +kernel
theorem dd_La_law_612 : decode cc_La_law 612 = .ok (.ireturn, 1) := by decide +kernel
theorem dd_La_law_613 : decode cc_La_law 613 = .ok (.goto 1033, 3) := by decide +kernel
theorem dd_La_law_616 : decode cc_La_law 616 = .ok (.aload_n 1, 1) := by decide +kernel
theorem dd_La_law_617 : decode cc_La_law 617 = .ok (.aload_n 0, 1) := by decide +kernel
theorem dd_La_law_618 : decode cc_La_law 618 = .ok (.iload 4, 2) := by decide +kernel
theorem dd_La_law_620 : decode cc_La_law 620 = .ok (.iconst 1, 1) := by decide +kernel
theorem dd_La_law_621 : decode cc_La_law 621 = .ok (.iadd, 1) := by decide +kernel
theorem dd_La_law_622 : decode cc_La_law 622 = .ok (.iaload, 1) := by decide +kernel
theorem dd_La_law_623 : decode cc_La_law 623 = .ok (.aload_n 0, 1) := by decide +kernel
theorem dd_La_law_624 : decode cc_La_law 624 = .ok (.iload 4, 2) := by decide +kernel
theorem dd_La_law_626 : decode cc_La_law 626 = .ok (.iconst 2, 1) := by decide +kernel
theorem dd_La_law_627 : decode cc_La_law 627 = .ok (.iadd, 1) := by decide +kernel
theorem dd_La_law_628 : decode cc_La_law 628 = .ok (.iaload, 1) := by decide +kernel
theorem dd_La_law_629 : decode cc_La_law 629 = .ok (.aload_n 0, 1) := by decide +kernel
theorem dd_La_law_630 : decode cc_La_law 630 = .ok (.iload 4, 2) := by decide +kernel
theorem dd_La_law_632 : decode cc_La_law 632 = .ok (.iconst 3, 1) := by decide +kernel
theorem dd_La_law_633 : decode cc_La_law 633 = .ok (.iadd, 1) := by decide +kernel
theorem dd_La_law_634 : decode cc_La_law 634 = .ok (.iaload, 1) := by decide +kernel
theorem dd_La_law_635 : decode cc_La_law 635 = .ok (.invokestatic 138, 3) := by decide +kernel
theorem dd_La_law_638 : decode cc_La_law 638 = .ok (.istore 5, 2) := by decide +kernel
theorem dd_La_law_640 : decode cc_La_law 640 = .ok (.aload_n 2, 1) := by decide +kernel
theorem dd_La_law_641 : decode cc_La_law 641 = .ok (.aload_n 0, 1) := by decide +kernel
theorem dd_La_law_642 : decode cc_La_law 642 = .ok (.iload 4, 2) := by decide +kernel
theorem dd_La_law_644 : decode cc_La_law 644 = .ok (.iconst 1, 1) := by decide +kernel
theorem dd_La_law_645 : decode cc_La_law 645 = .ok (.iadd, 1) := by decide +kernel
theorem dd_La_law_646 : decode cc_La_law 646 = .ok (.iaload, 1) := by decide +kernel
theorem dd_La_law_647 : decode cc_La_law 647 = .ok (.aload_n 0, 1) := by decide +kernel
theorem dd_La_law_648 : decode cc_La_law 648 = .ok (.iload 4, 2) := by decide +kernel
theorem dd_La_law_650 : decode cc_La_law 650 = .ok (.iconst 2, 1) := by decide +kernel
theorem dd_La_law_651 : decode cc_La_law 651 = .ok (.iadd, 1) := by decide +kernel
theorem dd_La_law_652 : decode cc_La_law 652 = .ok (.iaload, 1) := by decide +kernel
theorem dd_La_law_653 : decode cc_La_law 653 = .ok (.aload_n 0, 1) := by decide +kernel
theorem dd_La_law_654 : decode cc_La_law 654 = .ok (.iload 4, 2) := by decide +kernel
theorem dd_La_law_656 : decode cc_La_law 656 = .ok (.iconst 3, 1) := by decide +kernel
theorem dd_La_law_657 : decode cc_La_law 657 = .ok (.iadd, 1) := by decide +kernel
theorem dd_La_law_658 : decode cc_La_law 658 = .ok (.iaload, 1) := by decide +kernel
theorem dd_La_law_659 : decode cc_La_law 659 = .ok (.invokevirtual 140, 3) := by decide +kernel
theorem dd_La_law_662 : decode cc_La_law 662 = .ok (.aload_n 2, 1) := by decide +kernel
theorem dd_La_law_663 : decode cc_La_law 663 = .ok (.invokevirtual 110, 3) := by decide +kernel
theorem dd_La_law_666 : decode cc_La_law 666 = .ok (.iload 5, 2) := by decide +kernel
theorem dd_La_law_668 : decode cc_La_law 668 = .ok (.if_icmp .eq 5, 3) := by decide +kernel
theorem dd_La_law_671 : decode cc_La_law 671 = .ok (.iconst 0, 1) := by decide +kernel
theorem dd_La_law_672 : decode cc_La_law 672 = .ok (.ireturn, 1) := by decide +kernel
theorem dd_La_law_673 : decode cc_La_law 673 = .ok (.goto 973, 3) := by decide +kernel
theorem dd_La_law_676 : decode cc_La_law 676 = .ok (.aload_n 1, 1) := by decide +kernel
theorem dd_La_law_677 : decode cc_La_law 677 = .ok (.aload_n 0, 1) := by decide +kernel
theorem dd_La_law_678 : decode cc_La_law 678 = .ok (.iload 4, 2) := by decide +kernel
theorem dd_La_law_680 : decode cc_La_law 680 = .ok (.iconst 1, 1) := by decide +kernel
theorem dd_La_law_681 : decode cc_La_law 681 = .ok (.iadd, 1) := by decide +kernel
theorem dd_La_law_682 : decode cc_La_law 682 = .ok (.iaload, 1) := by decide +kernel
theorem dd_La_law_683 : decode cc_La_law 683 = .ok (.aload_n 0, 1) := by decide +kernel
theorem dd_La_law_684 : decode cc_La_law 684 = .ok (.iload 4, 2) := by decide +kernel
theorem dd_La_law_686 : decode cc_La_law 686 = .ok (.iconst 2, 1) := by decide +kernel
theorem dd_La_law_687 : decode cc_La_law 687 = .ok (.iadd, 1) := by decide +kernel
theorem dd_La_law_688 : decode cc_La_law 688 = .ok (.iaload, 1) := by decide +kernel
theorem dd_La_law_689 : decode cc_La_law 689 = .ok (.aload_n 0, 1) := by decide +kernel
theorem dd_La_law_690 : decode cc_La_law 690 = .ok (.iload 4, 2) := by decide +kernel
theorem dd_La_law_692 : decode cc_La_law 692 = .ok (.iconst 3, 1) := by decide +kernel
theorem dd_La_law_693 : decode cc_La_law 693 = .ok (.iadd, 1) := by decide +kernel
theorem dd_La_law_694 : decode cc_La_law 694 = .ok (.iaload, 1) := by decide +kernel
theorem dd_La_law_695 : decode cc_La_law 695 = .ok (.aload_n 0, 1) := by decide +kernel
theorem dd_La_law_696 : decode cc_La_law 696 = .ok (.iload 4, 2) := by decide +kernel
theorem dd_La_law_698 : decode cc_La_law 698 = .ok (.iconst 4, 1) := by decide +kernel
theorem dd_La_law_699 : decode cc_La_law 699 = .ok (.iadd, 1) := by decide +kernel
theorem dd_La_law_700 : decode cc_La_law 700 = .ok (.iaload, 1) := by decide +kernel
theorem dd_La_law_701 : decode cc_La_law 701 = .ok (.invokestatic 141, 3) := by decide +kernel
theorem dd_La_law_704 : decode cc_La_law 704 = .ok (.istore 5, 2) := by decide +kernel
theorem dd_La_law_706 : decode cc_La_law 706 = .ok (.aload_n 2, 1) := by decide +kernel
theorem dd_La_law_707 : decode cc_La_law 707 = .ok (.aload_n 0, 1) := by decide +kernel
theorem dd_La_law_708 : decode cc_La_law 708 = .ok (.iload 4, 2) := by decide +kernel
theorem dd_La_law_710 : decode cc_La_law 710 = .ok (.iconst 1, 1) := by decide +kernel
theorem dd_La_law_711 : decode cc_La_law 711 = .ok (.iadd, 1) := by decide +kernel
theorem dd_La_law_712 : decode cc_La_law 712 = .ok (.iaload, 1) := by decide +kernel
theorem dd_La_law_713 : decode cc_La_law 713 = .ok (.aload_n 0, 1) := by decide +kernel
theorem dd_La_law_714 : decode cc_La_law 714 = .ok (.iload 4, 2) := by decide +kernel
theorem dd_La_law_716 : decode cc_La_law 716 = .ok (.iconst 2, 1) := by decide +kernel
theorem dd_La_law_717 : decode cc_La_law 717 = .ok (.iadd, 1) := by decide +kernel
theorem dd_La_law_718 : decode cc_La_law 718 = .ok (.iaload, 1) := by decide +kernel
theorem dd_La_law_719 : decode cc_La_law 719 = .ok (.aload_n 0, 1) := by decide +kernel
theorem dd_La_law_720 : decode cc_La_law 720 = .ok (.iload 4, 2) := by decide +kernel
theorem dd_La_law_722 : decode cc_La_law 722 = .ok (.iconst 3, 1) := by decide +kernel
theorem dd_La_law_723 : decode cc_La_law 723 = .ok (.iadd, 1) := by decide +kernel
theorem dd_La_law_724 : decode cc_La_law 724 = .ok (.iaload, 1) := by decide +kernel
theorem dd_La_law_725 : decode cc_La_law 725 = .ok (.aload_n 0, 1) := by decide +kernel
theorem dd_La_law_726 : decode cc_La_law 726 = .ok (.iload 4, 2) := by decide +kernel
theorem dd_La_law_728 : decode cc_La_law 728 = .ok (.iconst 4, 1) := by decide +kernel
theorem dd_La_law_729 : decode cc_La_law 729 = .ok (.iadd, 1) := by decide +kernel
theorem dd_La_law_730 : decode cc_La_law 730 = .ok (.iaload, 1) := by decide +kernel
theorem dd_La_law_731 : decode cc_La_law 731 = .ok (.invokevirtual 143, 3) := by decide +kernel
theorem dd_La_law_734 : decode cc_La_law 734 = .ok (.aload_n 2, 1) := by decide +kernel
theorem dd_La_law_735 : decode cc_La_law 735 = .ok (.invokevirtual 110, 3) := by decide +kernel
theorem dd_La_law_738 : decode cc_La_law 738 = .ok (.iload 5, 2) := by decide +kernel
theorem dd_La_law_740 : decode cc_La_law 740 = .ok (.if_icmp .eq 5, 3) := by decide +kernel
theorem dd_La_law_743 : decode cc_La_law 743 = .ok (.iconst 0, 1) := by decide +kernel
theorem dd_La_law_744 : decode cc_La_law 744 = .ok (.ireturn, 1) := by decide +kernel
theorem dd_La_law_745 : decode cc_La_law 745 = .ok (.goto 901, 3) := by decide +kernel
theorem dd_La_law_748 : decode cc_La_law 748 = .ok (.aload_n 1, 1) := by decide +kernel
theorem dd_La_law_749 : decode cc_La_law 749 = .ok (.aload_n 0, 1) := by decide +kernel
theorem dd_La_law_750 : decode cc_La_law 750 = .ok (.iload 4, 2) := by decide +kernel
theorem dd_La_law_752 : decode cc_La_law 752 = .ok (.iconst 1, 1) := by decide +kernel
theorem dd_La_law_753 : decode cc_La_law 753 = .ok (.iadd, 1) := by decide +kernel
theorem dd_La_law_754 : decode cc_La_law 754 = .ok (.iaload, 1) := by decide +kernel
theorem dd_La_law_755 : decode cc_La_law 755 = .ok (.aload_n 0, 1) := by decide +kernel
theorem dd_La_law_756 : decode cc_La_law 756 = .ok (.iload 4, 2) := by decide +kernel
theorem dd_La_law_758 : decode cc_La_law 758 = .ok (.iconst 2, 1) := by decide +kernel
theorem dd_La_law_759 : decode cc_La_law 759 = .ok (.iadd, 1) := by decide +kernel
theorem dd_La_law_760 : decode cc_La_law 760 = .ok (.iaload, 1) := by decide +kernel
theorem dd_La_law_761 : decode cc_La_law 761 = .ok (.aload_n 0, 1) := by decide +kernel
theorem dd_La_law_762 : decode cc_La_law 762 = .ok (.iload 4, 2) := by decide +kernel
theorem dd_La_law_764 : decode cc_La_law 764 = .ok (.iconst 3, 1) := by decide +kernel
theorem dd_La_law_765 : decode cc_La_law 765 = .ok (.iadd, 1) := by decide +kernel
theorem dd_La_law_766 : decode cc_La_law 766 = .ok (.iaload, 1) := by decide +kernel
theorem dd_La_law_767 : decode cc_La_law 767 = .ok (.aload_n 3, 1) := by decide +kernel
theorem dd_La_law_768 : decode cc_La_law 768 = .ok (.invokestatic 144, 3) := by decide +kernel
theorem dd_La_law_771 : decode cc_La_law 771 = .ok (.istore 5, 2) := by decide +kernel
theorem dd_La_law_773 : decode cc_La_law 773 = .ok (.aload_n 2, 1) := by decide +kernel
theorem dd_La_law_774 : decode cc_La_law 774 = .ok (.aload_n 0, 1) := by decide +kernel
theorem dd_La_law_775 : decode cc_La_law 775 = .ok (.iload 4, 2) := by decide +kernel
theorem dd_La_law_777 : decode cc_La_law 777 = .ok (.iconst 1, 1) := by decide +kernel
theorem dd_La_law_778 : decode cc_La_law 778 = .ok (.iadd, 1) := by decide +kernel
theorem dd_La_law_779 : decode cc_La_law 779 = .ok (.iaload, 1) := by decide +kernel
theorem dd_La_law_780 : decode cc_La_law 780 = .ok (.aload_n 0, 1) := by decide +kernel
theorem dd_La_law_781 : decode cc_La_law 781 = .ok (.iload 4, 2) := by decide +kernel
theorem dd_La_law_783 : decode cc_La_law 783 = .ok (.iconst 2, 1) := by decide +kernel
theorem dd_La_law_784 : decode cc_La_law 784 = .ok (.iadd, 1) := by decide +kernel
theorem dd_La_law_785 : decode cc_La_law 785 = .ok (.iaload, 1) := by decide +kernel
theorem dd_La_law_786 : decode cc_La_law 786 = .ok (.aload_n 0, 1) := by decide +kernel
theorem dd_La_law_787 : decode cc_La_law 787 = .ok (.iload 4, 2) := by decide +kernel
theorem dd_La_law_789 : decode cc_La_law 789 = .ok (.iconst 3, 1) := by decide +kernel
theorem dd_La_law_790 : decode cc_La_law 790 = .ok (.iadd, 1) := by decide +kernel
theorem dd_La_law_791 : decode cc_La_law 791 = .ok (.iaload, 1) := by decide +kernel
theorem dd_La_law_792 : decode cc_La_law 792 = .ok (.invokevirtual 147, 3) := by decide +kernel
theorem dd_La_law_795 : decode cc_La_law 795 = .ok (.istore 6, 2) := by decide +kernel
theorem dd_La_law_797 : decode cc_La_law 797 = .ok (.aload_n 2, 1) := by decide +kernel
theorem dd_La_law_798 : decode cc_La_law 798 = .ok (.invokevirtual 110, 3) := by decide +kernel
theorem dd_La_law_801 : decode cc_La_law 801 = .ok (.iload 5, 2) := by decide +kernel
theorem dd_La_law_803 : decode cc_La_law 803 = .ok (.if_icmp .eq 5, 3) := by decide +kernel
theorem dd_La_law_806 : decode cc_La_law 806 = .ok (.iconst 0, 1) := by decide +kernel
theorem dd_La_law_807 : decode cc_La_law 807 = .ok (.ireturn, 1) := by decide +kernel
theorem dd_La_law_808 : decode cc_La_law 808 = .ok (.iload 5, 2) := by decide +kernel
theorem dd_La_law_810 : decode cc_La_law 810 = .ok (.ifCond .ne 22, 3) := by decide +kernel
theorem dd_La_law_813 : decode cc_La_law 813 = .ok (.aload_n 3, 1) := by decide +kernel
theorem dd_La_law_814 : decode cc_La_law 814 = .ok (.iconst 0, 1) := by decide +kernel
theorem dd_La_law_815 : decode cc_La_law 815 = .ok (.laload, 1) := by decide +kernel
theorem dd_La_law_816 : decode cc_La_law 816 = .ok (.iload 6, 2) := by decide +kernel
theorem dd_La_law_818 : decode cc_La_law 818 = .ok (.ifCond .eq 7, 3) := by decide +kernel
theorem dd_La_law_821 : decode cc_La_law 821 = .ok (.lconst 1, 1) := by decide +kernel
theorem dd_La_law_822 : decode cc_La_law 822 = .ok (.goto 4, 3) := by decide +kernel
theorem dd_La_law_825 : decode cc_La_law 825 = .ok (.lconst 0, 1) := by decide +kernel
theorem dd_La_law_826 : decode cc_La_law 826 = .ok (.lcmp, 1) := by decide +kernel
theorem dd_La_law_827 : decode cc_La_law 827 = .ok (.ifCond .eq 5, 3) := by decide +kernel
theorem dd_La_law_830 : decode cc_La_law 830 = .ok (.iconst 0, 1) := by decide +kernel
theorem dd_La_law_831 : decode cc_La_law 831 = .ok (.ireturn, 1) := by decide +kernel
theorem dd_La_law_832 : decode cc_La_law 832 = .ok (.goto 814, 3) := by decide +kernel
theorem dd_La_law_835 : decode cc_La_law 835 = .ok (.aload_n 1, 1) := by decide +kernel
theorem dd_La_law_836 : decode cc_La_law 836 = .ok (.aload_n 0, 1) := by decide +kernel
theorem dd_La_law_837 : decode cc_La_law 837 = .ok (.iload 4, 2) := by decide +kernel
theorem dd_La_law_839 : decode cc_La_law 839 = .ok (.iconst 1, 1) := by decide +kernel
theorem dd_La_law_840 : decode cc_La_law 840 = .ok (.iadd, 1) := by decide +kernel
theorem dd_La_law_841 : decode cc_La_law 841 = .ok (.iaload, 1) := by decide +kernel
theorem dd_La_law_842 : decode cc_La_law 842 = .ok (.aload_n 0, 1) := by decide +kernel
theorem dd_La_law_843 : decode cc_La_law 843 = .ok (.iload 4, 2) := by decide +kernel
theorem dd_La_law_845 : decode cc_La_law 845 = .ok (.iconst 2, 1) := by decide +kernel
theorem dd_La_law_846 : decode cc_La_law 846 = .ok (.iadd, 1) := by decide +kernel
theorem dd_La_law_847 : decode cc_La_law 847 = .ok (.iaload, 1) := by decide +kernel
theorem dd_La_law_848 : decode cc_La_law 848 = .ok (.aload_n 3, 1) := by decide +kernel
theorem dd_La_law_849 : decode cc_La_law 849 = .ok (.invokestatic 148, 3) := by decide +kernel
theorem dd_La_law_852 : decode cc_La_law 852 = .ok (.istore 5, 2) := by decide +kernel
theorem dd_La_law_854 : decode cc_La_law 854 = .ok (.aload_n 2, 1) := by decide +kernel
theorem dd_La_law_855 : decode cc_La_law 855 = .ok (.aload_n 0, 1) := by decide +kernel
theorem dd_La_law_856 : decode cc_La_law 856 = .ok (.iload 4, 2) := by decide +kernel
theorem dd_La_law_858 : decode cc_La_law 858 = .ok (.iconst 1, 1) := by decide +kernel
theorem dd_La_law_859 : decode cc_La_law 859 = .ok (.iadd, 1) := by decide +kernel
theorem dd_La_law_860 : decode cc_La_law 860 = .ok (.iaload, 1) := by decide +kernel
theorem dd_La_law_861 : decode cc_La_law 861 = .ok (.aload_n 0, 1) := by decide +kernel
theorem dd_La_law_862 : decode cc_La_law 862 = .ok (.iload 4, 2) := by decide +kernel
theorem dd_La_law_864 : decode cc_La_law 864 = .ok (.iconst 2, 1) := by decide +kernel
theorem dd_La_law_865 : decode cc_La_law 865 = .ok (.iadd, 1) := by decide +kernel
theorem dd_La_law_866 : decode cc_La_law 866 = .ok (.iaload, 1) := by decide +kernel
theorem dd_La_law_867 : decode cc_La_law 867 = .ok (.invokevirtual 151, 3) := by decide +kernel
theorem dd_La_law_870 : decode cc_La_law 870 = .ok (.istore 6, 2) := by decide +kernel
theorem dd_La_law_872 : decode cc_La_law 872 = .ok (.aload_n 2, 1) := by decide +kernel
theorem dd_La_law_873 : decode cc_La_law 873 = .ok (.invokevirtual 110, 3) := by decide +kernel
theorem dd_La_law_876 : decode cc_La_law 876 = .ok (.iload 5, 2) := by decide +kernel
theorem dd_La_law_878 : decode cc_La_law 878 = .ok (.if_icmp .eq 5, 3) := by decide +kernel
theorem dd_La_law_881 : decode cc_La_law 881 = .ok (.iconst 0, 1) := by decide +kernel
theorem dd_La_law_882 : decode cc_La_law 882 = .ok (.ireturn, 1) := by decide +kernel
theorem dd_La_law_883 : decode cc_La_law 883 = .ok (.iload 5, 2) := by decide +kernel
theorem dd_La_law_885 : decode cc_La_law 885 = .ok (.ifCond .ne 15, 3) := by decide +kernel
theorem dd_La_law_888 : decode cc_La_law 888 = .ok (.aload_n 3, 1) := by decide +kernel
theorem dd_La_law_889 : decode cc_La_law 889 = .ok (.iconst 0, 1) := by decide +kernel
theorem dd_La_law_890 : decode cc_La_law 890 = .ok (.laload, 1) := by decide +kernel
theorem dd_La_law_891 : decode cc_La_law 891 = .ok (.iload 6, 2) := by decide +kernel
theorem dd_La_law_893 : decode cc_La_law 893 = .ok (.i2l, 1) := by decide +kernel
theorem dd_La_law_894 : decode cc_La_law 894 = .ok (.lcmp, 1) := by decide +kernel
theorem dd_La_law_895 : decode cc_La_law 895 = .ok (.ifCond .eq 5, 3) := by decide +kernel
theorem dd_La_law_898 : decode cc_La_law 898 = .ok (.iconst 0, 1) := by decide +kernel
theorem dd_La_law_899 : decode cc_La_law 899 = .ok (.ireturn, 1) := by decide +kernel
theorem dd_La_law_900 : decode cc_La_law 900 = .ok (.goto 746, 3) := by decide +kernel
theorem dd_La_law_903 : decode cc_La_law 903 = .ok (.aload_n 1, 1) := by decide +kernel
theorem dd_La_law_904 : decode cc_La_law 904 = .ok (.aload_n 0, 1) := by decide +kernel
theorem dd_La_law_905 : decode cc_La_law 905 = .ok (.iload 4, 2) := by decide +kernel
theorem dd_La_law_907 : decode cc_La_law 907 = .ok (.iconst 1, 1) := by decide +kernel
theorem dd_La_law_908 : decode cc_La_law 908 = .ok (.iadd, 1) := by decide +kernel
theorem dd_La_law_909 : decode cc_La_law 909 = .ok (.iaload, 1) := by decide +kernel
theorem dd_La_law_910 : decode cc_La_law 910 = .ok (.aload_n 0, 1) := by decide +kernel
theorem dd_La_law_911 : decode cc_La_law 911 = .ok (.iload 4, 2) := by decide +kernel
theorem dd_La_law_913 : decode cc_La_law 913 = .ok (.iconst 2, 1) := by decide +kernel
theorem dd_La_law_914 : decode cc_La_law 914 = .ok (.iadd, 1) := by decide +kernel
theorem dd_La_law_915 : decode cc_La_law 915 = .ok (.iaload, 1) := by decide +kernel
theorem dd_La_law_916 : decode cc_La_law 916 = .ok (.aload_n 3, 1) := by decide +kernel
theorem dd_La_law_917 : decode cc_La_law 917 = .ok (.invokestatic 152, 3) := by decide +kernel
theorem dd_La_law_920 : decode cc_La_law 920 = .ok (.istore 5, 2) := by decide +kernel
theorem dd_La_law_922 : decode cc_La_law 922 = .ok (.aload_n 2, 1) := by decide +kernel
theorem dd_La_law_923 : decode cc_La_law 923 = .ok (.aload_n 0, 1) := by decide +kernel
theorem dd_La_law_924 : decode cc_La_law 924 = .ok (.iload 4, 2) := by decide +kernel
theorem dd_La_law_926 : decode cc_La_law 926 = .ok (.iconst 1, 1) := by decide +kernel
theorem dd_La_law_927 : decode cc_La_law 927 = .ok (.iadd, 1) := by decide +kernel
theorem dd_La_law_928 : decode cc_La_law 928 = .ok (.iaload, 1) := by decide +kernel
theorem dd_La_law_929 : decode cc_La_law 929 = .ok (.aload_n 0, 1) := by decide +kernel
theorem dd_La_law_930 : decode cc_La_law 930 = .ok (.iload 4, 2) := by decide +kernel
theorem dd_La_law_932 : decode cc_La_law 932 = .ok (.iconst 2, 1) := by decide +kernel
theorem dd_La_law_933 : decode cc_La_law 933 = .ok (.iadd, 1) := by decide +kernel
theorem dd_La_law_934 : decode cc_La_law 934 = .ok (.iaload, 1) := by decide +kernel
theorem dd_La_law_935 : decode cc_La_law 935 = .ok (.invokevirtual 154, 3) := by decide +kernel
theorem dd_La_law_938 : decode cc_La_law 938 = .ok (.istore 6, 2) := by decide +kernel
theorem dd_La_law_940 : decode cc_La_law 940 = .ok (.aload_n 2, 1) := by decide +kernel
theorem dd_La_law_941 : decode cc_La_law 941 = .ok (.invokevirtual 110, 3) := by decide +kernel
theorem dd_La_law_944 : decode cc_La_law 944 = .ok (.iload 5, 2) := by decide +kernel
theorem dd_La_law_946 : decode cc_La_law 946 = .ok (.if_icmp .eq 5, 3) := by decide +kernel
theorem dd_La_law_949 : decode cc_La_law 949 = .ok (.iconst 0, 1) := by decide +kernel
theorem dd_La_law_950 : decode cc_La_law 950 = .ok (.ireturn, 1) := by decide +kernel
theorem dd_La_law_951 : decode cc_La_law 951 = .ok (.iload 5, 2) := by decide +kernel
theorem dd_La_law_953 : decode cc_La_law 953 = .ok (.ifCond .ne 15, 3) := by decide +kernel
theorem dd_La_law_956 : decode cc_La_law 956 = .ok (.aload_n 3, 1) := by decide +kernel
theorem dd_La_law_957 : decode cc_La_law 957 = .ok (.iconst 0, 1) := by decide +kernel
theorem dd_La_law_958 : decode cc_La_law 958 = .ok (.laload, 1) := by decide +kernel
theorem dd_La_law_959 : decode cc_La_law 959 = .ok (.iload 6, 2) := by decide +kernel
theorem dd_La_law_961 : decode cc_La_law 961 = .ok (.i2l, 1) := by decide +kernel
theorem dd_La_law_962 : decode cc_La_law 962 = .ok (.lcmp, 1) := by decide +kernel
theorem dd_La_law_963 : decode cc_La_law 963 = .ok (.ifCond .eq 5, 3) := by decide +kernel
theorem dd_La_law_966 : decode cc_La_law 966 = .ok (.iconst 0, 1) := by decide +kernel
theorem dd_La_law_967 : decode cc_La_law 967 = .ok (.ireturn, 1) := by decide +kernel
theorem dd_La_law_968 : decode cc_La_law 968 = .ok (.goto 678, 3) := by decide +kernel
theorem dd_La_law_971 : decode cc_La_law 971 = .ok (.aload_n 1, 1) := by decide +kernel
theorem dd_La_law_972 : decode cc_La_law 972 = .ok (.aload_n 0, 1) := by decide +kernel
theorem dd_La_law_973 : decode cc_La_law 973 = .ok (.iload 4, 2) := by decide +kernel
theorem dd_La_law_975 : decode cc_La_law 975 = .ok (.iconst 1, 1) := by decide +kernel
theorem dd_La_law_976 : decode cc_La_law 976 = .ok (.iadd, 1) := by decide +kernel
theorem dd_La_law_977 : decode cc_La_law 977 = .ok (.iaload, 1) := by decide +kernel
theorem dd_La_law_978 : decode cc_La_law 978 = .ok (.aload_n 3, 1) := by decide +kernel
theorem dd_La_law_979 : decode cc_La_law 979 = .ok (.invokestatic 155, 3) := by decide +kernel
theorem dd_La_law_982 : decode cc_La_law 982 = .ok (.istore 5, 2) := by decide +kernel
theorem dd_La_law_984 : decode cc_La_law 984 = .ok (.aload_n 2, 1) := by decide +kernel
theorem dd_La_law_985 : decode cc_La_law 985 = .ok (.aload_n 0, 1) := by decide +kernel
theorem dd_La_law_986 : decode cc_La_law 986 = .ok (.iload 4, 2) := by decide +kernel
theorem dd_La_law_988 : decode cc_La_law 988 = .ok (.iconst 1, 1) := by decide +kernel
theorem dd_La_law_989 : decode cc_La_law 989 = .ok (.iadd, 1) := by decide +kernel
theorem dd_La_law_990 : decode cc_La_law 990 = .ok (.iaload, 1) := by decide +kernel
theorem dd_La_law_991 : decode cc_La_law 991 = .ok (.invokevirtual 157, 3) := by decide +kernel
theorem dd_La_law_994 : decode cc_La_law 994 = .ok (.istore 6, 2) := by decide +kernel
theorem dd_La_law_996 : decode cc_La_law 996 = .ok (.aload_n 2, 1) := by decide +kernel
theorem dd_La_law_997 : decode cc_La_law 997 = .ok (.invokevirtual 110, 3) := by decide +kernel
theorem dd_La_law_1000 : decode cc_La_law 1000 = .ok (.iload 5, 2) := by decide +kernel
theorem dd_La_law_1002 : decode cc_La_law 1002 = .ok (.if_icmp .eq 5, 3) := by decide +kernel
theorem dd_La_law_1005 : decode cc_La_law 1005 = .ok (.iconst 0, 1) := by decide +kernel
theorem dd_La_law_1006 : decode cc_La_law 1006 = .ok (.ireturn, 1) := by decide +kernel
theorem dd_La_law_1007 : decode cc_La_law 1007 = .ok (.iload 5, 2) := by decide +kernel
theorem dd_La_law_1009 : decode cc_La_law 1009 = .ok (.ifCond .ne 15, 3) := by decide +kernel
theorem dd_La_law_1012 : decode cc_La_law 1012 = .ok (.aload_n 3, 1) := by decide +kernel
theorem dd_La_law_1013 : decode cc_La_law 1013 = .ok (.iconst 0, 1) := by decide +kernel
theorem dd_La_law_1014 : decode cc_La_law 1014 = .ok (.laload, 1) := by decide +kernel
theorem dd_La_law_1015 : decode cc_La_law 1015 = .ok (.iload 6, 2) := by decide +kernel
theorem dd_La_law_1017 : decode cc_La_law 1017 = .ok (.i2l, 1) := by decide +kernel
theorem dd_La_law_1018 : decode cc_La_law 1018 = .ok (.lcmp, 1) := by decide +kernel
theorem dd_La_law_1019 : decode cc_La_law 1019 = .ok (.ifCond .eq 5, 3) := by decide +kernel
theorem dd_La_law_1022 : decode cc_La_law 1022 = .ok (.iconst 0, 1) := by decide +kernel
theorem dd_La_law_1023 : decode cc_La_law 1023 = .ok (.ireturn, 1) := by decide +kernel
theorem dd_La_law_1024 : decode cc_La_law 1024 = .ok (.goto 622, 3) := by decide +kernel
theorem dd_La_law_1027 : decode cc_La_law 1027 = .ok (.aload_n 1, 1) := by decide +kernel
theorem dd_La_law_1028 : decode cc_La_law 1028 = .ok (.aload_n 0, 1) := by decide +kernel
theorem dd_La_law_1029 : decode cc_La_law 1029 = .ok (.iload 4, 2) := by decide +kernel
theorem dd_La_law_1031 : decode cc_La_law 1031 = .ok (.iconst 1, 1) := by decide +kernel
theorem dd_La_law_1032 : decode cc_La_law 1032 = .ok (.iadd, 1) := by decide +kernel
theorem dd_La_law_1033 : decode cc_La_law 1033 = .ok (.iaload, 1) := by decide +kernel
theorem dd_La_law_1034 : decode cc_La_law 1034 = .ok (.aload_n 3, 1) := by decide +kernel
theorem dd_La_law_1035 : decode cc_La_law 1035 = .ok (.invokestatic 158, 3) := by decide +kernel
theorem dd_La_law_1038 : decode cc_La_law 1038 = .ok (.istore 5, 2) := by decide +kernel
theorem dd_La_law_1040 : decode cc_La_law 1040 = .ok (.aload_n 2, 1) := by decide +kernel
theorem dd_La_law_1041 : decode cc_La_law 1041 = .ok (.aload_n 0, 1) := by decide +kernel
theorem dd_La_law_1042 : decode cc_La_law 1042 = .ok (.iload 4, 2) := by decide +kernel
theorem dd_La_law_1044 : decode cc_La_law 1044 = .ok (.iconst 1, 1) := by decide +kernel
theorem dd_La_law_1045 : decode cc_La_law 1045 = .ok (.iadd, 1) := by decide +kernel
theorem dd_La_law_1046 : decode cc_La_law 1046 = .ok (.iaload, 1) := by decide +kernel
theorem dd_La_law_1047 : decode cc_La_law 1047 = .ok (.invokevirtual 160, 3) := by decide +kernel
theorem dd_La_law_1050 : decode cc_La_law 1050 = .ok (.istore 6, 2) := by decide +kernel
theorem dd_La_law_1052 : decode cc_La_law 1052 = .ok (.aload_n 2, 1) := by decide +kernel
theorem dd_La_law_1053 : decode cc_La_law 1053 = .ok (.invokevirtual 110, 3) := by decide +kernel
theorem dd_La_law_1056 : decode cc_La_law 1056 = .ok (.iload 5, 2) := by decide +kernel
theorem dd_La_law_1058 : decode cc_La_law 1058 = .ok (.if_icmp .eq 5, 3) := by decide +kernel
theorem dd_La_law_1061 : decode cc_La_law 1061 = .ok (.iconst 0, 1) := by decide +kernel
theorem dd_La_law_1062 : decode cc_La_law 1062 = .ok (.ireturn, 1) := by decide +kernel
theorem dd_La_law_1063 : decode cc_La_law 1063 = .ok (.iload 5, 2) := by decide +kernel
theorem dd_La_law_1065 : decode cc_La_law 1065 = .ok (.ifCond .ne 15, 3) := by decide +kernel
theorem dd_La_law_1068 : decode cc_La_law 1068 = .ok (.aload_n 3, 1) := by decide +kernel
theorem dd_La_law_1069 : decode cc_La_law 1069 = .ok (.iconst 0, 1) := by decide +kernel
theorem dd_La_law_1070 : decode cc_La_law 1070 = .ok (.laload, 1) := by decide +kernel
theorem dd_La_law_1071 : decode cc_La_law 1071 = .ok (.iload 6, 2) := by decide +kernel
theorem dd_La_law_1073 : decode cc_La_law 1073 = .ok (.i2l, 1) := by decide +kernel
theorem dd_La_law_1074 : decode cc_La_law 1074 = .ok (.lcmp, 1) := by decide +kernel
theorem dd_La_law_1075 : decode cc_La_law 1075 = .ok (.ifCond .eq 5, 3) := by decide +kernel
theorem dd_La_law_1078 : decode cc_La_law 1078 = .ok (.iconst 0, 1) := by decide +kernel
theorem dd_La_law_1079 : decode cc_La_law 1079 = .ok (.ireturn, 1) := by decide +kernel
theorem dd_La_law_1080 : decode cc_La_law 1080 = .ok (.goto 566, 3) := by decide +kernel
theorem dd_La_law_1083 : decode cc_La_law 1083 = .ok (.aload_n 1, 1) := by decide +kernel
theorem dd_La_law_1084 : decode cc_La_law 1084 = .ok (.aload_n 0, 1) := by decide +kernel
theorem dd_La_law_1085 : decode cc_La_law 1085 = .ok (.iload 4, 2) := by decide +kernel
theorem dd_La_law_1087 : decode cc_La_law 1087 = .ok (.iconst 1, 1) := by decide +kernel
theorem dd_La_law_1088 : decode cc_La_law 1088 = .ok (.iadd, 1) := by decide +kernel
theorem dd_La_law_1089 : decode cc_La_law 1089 = .ok (.iaload, 1) := by decide +kernel
theorem dd_La_law_1090 : decode cc_La_law 1090 = .ok (.aload_n 3, 1) := by decide +kernel
theorem dd_La_law_1091 : decode cc_La_law 1091 = .ok (.invokestatic 161, 3) := by decide +kernel
theorem dd_La_law_1094 : decode cc_La_law 1094 = .ok (.istore 5, 2) := by decide +kernel
theorem dd_La_law_1096 : decode cc_La_law 1096 = .ok (.aload_n 2, 1) := by decide +kernel
theorem dd_La_law_1097 : decode cc_La_law 1097 = .ok (.aload_n 0, 1) := by decide +kernel
theorem dd_La_law_1098 : decode cc_La_law 1098 = .ok (.iload 4, 2) := by decide +kernel
theorem dd_La_law_1100 : decode cc_La_law 1100 = .ok (.iconst 1, 1) := by decide +kernel
theorem dd_La_law_1101 : decode cc_La_law 1101 = .ok (.iadd, 1) := by decide +kernel
theorem dd_La_law_1102 : decode cc_La_law 1102 = .ok (.iaload, 1) := by decide +kernel
theorem dd_La_law_1103 : decode cc_La_law 1103 = .ok (.invokevirtual 163, 3) := by decide +kernel
theorem dd_La_law_1106 : decode cc_La_law 1106 = .ok (.istore 6, 2) := by decide +kernel
theorem dd_La_law_1108 : decode cc_La_law 1108 = .ok (.aload_n 2, 1) := by decide +kernel
theorem dd_La_law_1109 : decode cc_La_law 1109 = .ok (.invokevirtual 110, 3) := by decide +kernel
theorem dd_La_law_1112 : decode cc_La_law 1112 = .ok (.iload 5, 2) := by decide +kernel
theorem dd_La_law_1114 : decode cc_La_law 1114 = .ok (.if_icmp .eq 5, 3) := by decide +kernel
theorem dd_La_law_1117 : decode cc_La_law 1117 = .ok (.iconst 0, 1) := by decide +kernel
theorem dd_La_law_1118 : decode cc_La_law 1118 = .ok (.ireturn, 1) := by decide +kernel
theorem dd_La_law_1119 : decode cc_La_law 1119 = .ok (.iload 5, 2) := by decide +kernel
theorem dd_La_law_1121 : decode cc_La_law 1121 = .ok (.ifCond .ne 15, 3) := by decide +kernel
theorem dd_La_law_1124 : decode cc_La_law 1124 = .ok (.aload_n 3, 1) := by decide +kernel
theorem dd_La_law_1125 : decode cc_La_law 1125 = .ok (.iconst 0, 1) := by decide +kernel
theorem dd_La_law_1126 : decode cc_La_law 1126 = .ok (.laload, 1) := by decide +kernel
theorem dd_La_law_1127 : decode cc_La_law 1127 = .ok (.iload 6, 2) := by decide +kernel
theorem dd_La_law_1129 : decode cc_La_law 1129 = .ok (.i2l, 1) := by decide +kernel
theorem dd_La_law_1130 : decode cc_La_law 1130 = .ok (.lcmp, 1) := by decide +kernel
theorem dd_La_law_1131 : decode cc_La_law 1131 = .ok (.ifCond .eq 5, 3) := by decide +kernel
theorem dd_La_law_1134 : decode cc_La_law 1134 = .ok (.iconst 0, 1) := by decide +kernel
theorem dd_La_law_1135 : decode cc_La_law 1135 = .ok (.ireturn, 1) := by decide +kernel
theorem dd_La_law_1136 : decode cc_La_law 1136 = .ok (.goto 510, 3) := by decide +kernel
theorem dd_La_law_1139 : decode cc_La_law 1139 = .ok (.aload_n 1, 1) := by decide +kernel
theorem dd_La_law_1140 : decode cc_La_law 1140 = .ok (.aload_n 0, 1) := by decide +kernel
theorem dd_La_law_1141 : decode cc_La_law 1141 = .ok (.iload 4, 2) := by decide +kernel
theorem dd_La_law_1143 : decode cc_La_law 1143 = .ok (.iconst 1, 1) := by decide +kernel
theorem dd_La_law_1144 : decode cc_La_law 1144 = .ok (.iadd, 1) := by decide +kernel
theorem dd_La_law_1145 : decode cc_La_law 1145 = .ok (.iaload, 1) := by decide +kernel
theorem dd_La_law_1146 : decode cc_La_law 1146 = .ok (.aload_n 0, 1) := by decide +kernel
theorem dd_La_law_1147 : decode cc_La_law 1147 = .ok (.iload 4, 2) := by decide +kernel
theorem dd_La_law_1149 : decode cc_La_law 1149 = .ok (.iconst 2, 1) := by decide +kernel
theorem dd_La_law_1150 : decode cc_La_law 1150 = .ok (.iadd, 1) := by decide +kernel
theorem dd_La_law_1151 : decode cc_La_law 1151 = .ok (.iaload, 1) := by decide +kernel
theorem dd_La_law_1152 : decode cc_La_law 1152 = .ok (.aload_n 3, 1) := by decide +kernel
theorem dd_La_law_1153 : decode cc_La_law 1153 = .ok (.invokestatic 164, 3) := by decide +kernel
theorem dd_La_law_1156 : decode cc_La_law 1156 = .ok (.istore 5, 2) := by decide +kernel
theorem dd_La_law_1158 : decode cc_La_law 1158 = .ok (.aload_n 2, 1) := by decide +kernel
theorem dd_La_law_1159 : decode cc_La_law 1159 = .ok (.aload_n 0, 1) := by decide +kernel
theorem dd_La_law_1160 : decode cc_La_law 1160 = .ok (.iload 4, 2) := by decide +kernel
theorem dd_La_law_1162 : decode cc_La_law 1162 = .ok (.iconst 1, 1) := by decide +kernel
theorem dd_La_law_1163 : decode cc_La_law 1163 = .ok (.iadd, 1) := by decide +kernel
theorem dd_La_law_1164 : decode cc_La_law 1164 = .ok (.iaload, 1) := by decide +kernel
theorem dd_La_law_1165 : decode cc_La_law 1165 = .ok (.aload_n 0, 1) := by decide +kernel
theorem dd_La_law_1166 : decode cc_La_law 1166 = .ok (.iload 4, 2) := by decide +kernel
theorem dd_La_law_1168 : decode cc_La_law 1168 = .ok (.iconst 2, 1) := by decide +kernel
theorem dd_La_law_1169 : decode cc_La_law 1169 = .ok (.iadd, 1) := by decide +kernel
theorem dd_La_law_1170 : decode cc_La_law 1170 = .ok (.iaload, 1) := by decide +kernel
theorem dd_La_law_1171 : decode cc_La_law 1171 = .ok (.invokevirtual 166, 3) := by decide +kernel
theorem dd_La_law_1174 : decode cc_La_law 1174 = .ok (.istore 6, 2) := by decide +kernel
theorem dd_La_law_1176 : decode cc_La_law 1176 = .ok (.aload_n 2, 1) := by decide +kernel
theorem dd_La_law_1177 : decode cc_La_law 1177 = .ok (.invokevirtual 110, 3) := by decide +kernel
theorem dd_La_law_1180 : decode cc_La_law 1180 = .ok (.iload 5, 2) := by decide +kernel
theorem dd_La_law_1182 : decode cc_La_law 1182 = .ok (.if_icmp .eq 5, 3) := by decide +kernel
theorem dd_La_law_1185 : decode cc_La_law 1185 = .ok (.iconst 0, 1) := by decide +kernel
theorem dd_La_law_1186 : decode cc_La_law 1186 = .ok (.ireturn, 1) := by decide +kernel
theorem dd_La_law_1187 : decode cc_La_law 1187 = .ok (.iload 5, 2) := by decide +kernel
theorem dd_La_law_1189 : decode cc_La_law 1189 = .ok (.ifCond .ne 15, 3) := by decide +kernel
theorem dd_La_law_1192 : decode cc_La_law 1192 = .ok (.aload_n 3, 1) := by decide +kernel
theorem dd_La_law_1193 : decode cc_La_law 1193 = .ok (.iconst 0, 1) := by decide +kernel
theorem dd_La_law_1194 : decode cc_La_law 1194 = .ok (.laload, 1) := by decide +kernel
theorem dd_La_law_1195 : decode cc_La_law 1195 = .ok (.iload 6, 2) := by decide +kernel
theorem dd_La_law_1197 : decode cc_La_law 1197 = .ok (.i2l, 1) := by decide +kernel
theorem dd_La_law_1198 : decode cc_La_law 1198 = .ok (.lcmp, 1) := by decide +kernel
theorem dd_La_law_1199 : decode cc_La_law 1199 = .ok (.ifCond .eq 5, 3) := by decide +kernel
theorem dd_La_law_1202 : decode cc_La_law 1202 = .ok (.iconst 0, 1) := by decide +kernel
theorem dd_La_law_1203 : decode cc_La_law 1203 = .ok (.ireturn, 1) := by decide +kernel
theorem dd_La_law_1204 : decode cc_La_law 1204 = .ok (.goto 442, 3) := by decide +kernel
theorem dd_La_law_1207 : decode cc_La_law 1207 = .ok (.aload_n 1, 1) := by decide +kernel
theorem dd_La_law_1208 : decode cc_La_law 1208 = .ok (.aload_n 0, 1) := by decide +kernel
theorem dd_La_law_1209 : decode cc_La_law 1209 = .ok (.iload 4, 2) := by decide +kernel
theorem dd_La_law_1211 : decode cc_La_law 1211 = .ok (.iconst 1, 1) := by decide +kernel
theorem dd_La_law_1212 : decode cc_La_law 1212 = .ok (.iadd, 1) := by decide +kernel
theorem dd_La_law_1213 : decode cc_La_law 1213 = .ok (.iaload, 1) := by decide +kernel
theorem dd_La_law_1214 : decode cc_La_law 1214 = .ok (.aload_n 0, 1) := by decide +kernel
theorem dd_La_law_1215 : decode cc_La_law 1215 = .ok (.iload 4, 2) := by decide +kernel
theorem dd_La_law_1217 : decode cc_La_law 1217 = .ok (.iconst 2, 1) := by decide +kernel
theorem dd_La_law_1218 : decode cc_La_law 1218 = .ok (.iadd, 1) := by decide +kernel
theorem dd_La_law_1219 : decode cc_La_law 1219 = .ok (.iaload, 1) := by decide +kernel
theorem dd_La_law_1220 : decode cc_La_law 1220 = .ok (.aload_n 3, 1) := by decide +kernel
theorem dd_La_law_1221 : decode cc_La_law 1221 = .ok (.invokestatic 167, 3) := by decide +kernel
theorem dd_La_law_1224 : decode cc_La_law 1224 = .ok (.istore 5, 2) := by decide +kernel
theorem dd_La_law_1226 : decode cc_La_law 1226 = .ok (.aload_n 2, 1) := by decide +kernel
theorem dd_La_law_1227 : decode cc_La_law 1227 = .ok (.aload_n 0, 1) := by decide +kernel
theorem dd_La_law_1228 : decode cc_La_law 1228 = .ok (.iload 4, 2) := by decide +kernel
theorem dd_La_law_1230 : decode cc_La_law 1230 = .ok (.iconst 1, 1) := by decide +kernel
theorem dd_La_law_1231 : decode cc_La_law 1231 = .ok (.iadd, 1) := by decide +kernel
theorem dd_La_law_1232 : decode cc_La_law 1232 = .ok (.iaload, 1) := by decide +kernel
theorem dd_La_law_1233 : decode cc_La_law 1233 = .ok (.aload_n 0, 1) := by decide +kernel
theorem dd_La_law_1234 : decode cc_La_law 1234 = .ok (.iload 4, 2) := by decide +kernel
theorem dd_La_law_1236 : decode cc_La_law 1236 = .ok (.iconst 2, 1) := by decide +kernel
theorem dd_La_law_1237 : decode cc_La_law 1237 = .ok (.iadd, 1) := by decide +kernel
theorem dd_La_law_1238 : decode cc_La_law 1238 = .ok (.iaload, 1) := by decide +kernel
theorem dd_La_law_1239 : decode cc_La_law 1239 = .ok (.invokevirtual 169, 3) := by decide +kernel
theorem dd_La_law_1242 : decode cc_La_law 1242 = .ok (.istore 6, 2) := by decide +kernel
theorem dd_La_law_1244 : decode cc_La_law 1244 = .ok (.aload_n 2, 1) := by decide +kernel
theorem dd_La_law_1245 : decode cc_La_law 1245 = .ok (.invokevirtual 110, 3) := by decide +kernel
theorem dd_La_law_1248 : decode cc_La_law 1248 = .ok (.iload 5, 2) := by decide +kernel
theorem dd_La_law_1250 : decode cc_La_law 1250 = .ok (.if_icmp .eq 5, 3) := by decide +kernel
theorem dd_La_law_1253 : decode cc_La_law 1253 = .ok (.iconst 0, 1) := by decide +kernel
theorem dd_La_law_1254 : decode cc_La_law 1254 = .ok (.ireturn, 1) := by decide +kernel
theorem dd_La_law_1255 : decode cc_La_law 1255 = .ok (.iload 5, 2) := by decide +kernel
theorem dd_La_law_1257 : decode cc_La_law 1257 = .ok (.ifCond .ne 15, 3) := by decide +kernel
theorem dd_La_law_1260 : decode cc_La_law 1260 = .ok (.aload_n 3, 1) := by decide +kernel
theorem dd_La_law_1261 : decode cc_La_law 1261 = .ok (.iconst 0, 1) := by decide +kernel
theorem dd_La_law_1262 : decode cc_La_law 1262 = .ok (.laload, 1) := by decide +kernel
theorem dd_La_law_1263 : decode cc_La_law 1263 = .ok (.iload 6, 2) := by decide +kernel
theorem dd_La_law_1265 : decode cc_La_law 1265 = .ok (.i2l, 1) := by decide +kernel
theorem dd_La_law_1266 : decode cc_La_law 1266 = .ok (.lcmp, 1) := by decide +kernel
theorem dd_La_law_1267 : decode cc_La_law 1267 = .ok (.ifCond .eq 5, 3) := by decide +kernel
theorem dd_La_law_1270 : decode cc_La_law 1270 = .ok (.iconst 0, 1) := by decide +kernel
theorem dd_La_law_1271 : decode cc_La_law 1271 = .ok (.ireturn, 1) := by decide +kernel
theorem dd_La_law_1272 : decode cc_La_law 1272 = .ok (.goto 374, 3) := by decide +kernel
theorem dd_La_law_1275 : decode cc_La_law 1275 = .ok (.aload_n 1, 1) := by decide +kernel
theorem dd_La_law_1276 : decode cc_La_law 1276 = .ok (.aload_n 0, 1) := by decide +kernel
theorem dd_La_law_1277 : decode cc_La_law 1277 = .ok (.iload 4, 2) := by decide +kernel
theorem dd_La_law_1279 : decode cc_La_law 1279 = .ok (.iconst 1, 1) := by decide +kernel
theorem dd_La_law_1280 : decode cc_La_law 1280 = .ok (.iadd, 1) := by decide +kernel
theorem dd_La_law_1281 : decode cc_La_law 1281 = .ok (.iaload, 1) := by decide +kernel
theorem dd_La_law_1282 : decode cc_La_law 1282 = .ok (.aload_n 0, 1) := by decide +kernel
theorem dd_La_law_1283 : decode cc_La_law 1283 = .ok (.iload 4, 2) := by decide +kernel
theorem dd_La_law_1285 : decode cc_La_law 1285 = .ok (.iconst 2, 1) := by decide +kernel
theorem dd_La_law_1286 : decode cc_La_law 1286 = .ok (.iadd, 1) := by decide +kernel
theorem dd_La_law_1287 : decode cc_La_law 1287 = .ok (.iaload, 1) := by decide +kernel
theorem dd_La_law_1288 : decode cc_La_law 1288 = .ok (.aload_n 3, 1) := by decide +kernel
theorem dd_La_law_1289 : decode cc_La_law 1289 = .ok (.invokestatic 170, 3) := by decide +kernel
theorem dd_La_law_1292 : decode cc_La_law 1292 = .ok (.istore 5, 2) := by decide +kernel
theorem dd_La_law_1294 : decode cc_La_law 1294 = .ok (.aload_n 2, 1) := by decide +kernel
theorem dd_La_law_1295 : decode cc_La_law 1295 = .ok (.aload_n 0, 1) := by decide +kernel
theorem dd_La_law_1296 : decode cc_La_law 1296 = .ok (.iload 4, 2) := by decide +kernel
theorem dd_La_law_1298 : decode cc_La_law 1298 = .ok (.iconst 1, 1) := by decide +kernel
theorem dd_La_law_1299 : decode cc_La_law 1299 = .ok (.iadd, 1) := by decide +kernel
theorem dd_La_law_1300 : decode cc_La_law 1300 = .ok (.iaload, 1) := by decide +kernel
theorem dd_La_law_1301 : decode cc_La_law 1301 = .ok (.aload_n 0, 1) := by decide +kernel
theorem dd_La_law_1302 : decode cc_La_law 1302 = .ok (.iload 4, 2) := by decide +kernel
theorem dd_La_law_1304 : decode cc_La_law 1304 = .ok (.iconst 2, 1) := by decide +kernel
theorem dd_La_law_1305 : decode cc_La_law 1305 = .ok (.iadd, 1) := by decide +kernel
theorem dd_La_law_1306 : decode cc_La_law 1306 = .ok (.iaload, 1) := by decide +kernel
theorem dd_La_law_1307 : decode cc_La_law 1307 = .ok (.invokevirtual 172, 3) := by decide +kernel
theorem dd_La_law_1310 : decode cc_La_law 1310 = .ok (.istore 6, 2) := by decide +kernel
theorem dd_La_law_1312 : decode cc_La_law 1312 = .ok (.aload_n 2, 1) := by decide +kernel
theorem dd_La_law_1313 : decode cc_La_law 1313 = .ok (.invokevirtual 110, 3) := by decide +kernel
theorem dd_La_law_1316 : decode cc_La_law 1316 = .ok (.iload 5, 2) := by decide +kernel
theorem dd_La_law_1318 : decode cc_La_law 1318 = .ok (.if_icmp .eq 5, 3) := by decide +kernel
theorem dd_La_law_1321 : decode cc_La_law 1321 = .ok (.iconst 0, 1) := by decide +kernel
theorem dd_La_law_1322 : decode cc_La_law 1322 = .ok (.ireturn, 1) := by decide +kernel
theorem dd_La_law_1323 : decode cc_La_law 1323 = .ok (.iload 5, 2) := by decide +kernel
theorem dd_La_law_1325 : decode cc_La_law 1325 = .ok (.ifCond .ne 15, 3) := by decide +kernel
theorem dd_La_law_1328 : decode cc_La_law 1328 = .ok (.aload_n 3, 1) := by decide +kernel
theorem dd_La_law_1329 : decode cc_La_law 1329 = .ok (.iconst 0, 1) := by decide +kernel
theorem dd_La_law_1330 : decode cc_La_law 1330 = .ok (.laload, 1) := by decide +kernel
theorem dd_La_law_1331 : decode cc_La_law 1331 = .ok (.iload 6, 2) := by decide +kernel
theorem dd_La_law_1333 : decode cc_La_law 1333 = .ok (.i2l, 1) := by decide +kernel
theorem dd_La_law_1334 : decode cc_La_law 1334 = .ok (.lcmp, 1) := by decide +kernel
theorem dd_La_law_1335 : decode cc_La_law 1335 = .ok (.ifCond .eq 5, 3) := by decide +kernel
theorem dd_La_law_1338 : decode cc_La_law 1338 = .ok (.iconst 0, 1) := by decide +kernel
theorem dd_La_law_1339 : decode cc_La_law 1339 = .ok (.ireturn, 1) := by decide +kernel
theorem dd_La_law_1340 : decode cc_La_law 1340 = .ok (.goto 306, 3) := by decide +kernel
theorem dd_La_law_1343 : decode cc_La_law 1343 = .ok (.aload_n 1, 1) := by decide +kernel
theorem dd_La_law_1344 : decode cc_La_law 1344 = .ok (.aload_n 0, 1) := by decide +kernel
theorem dd_La_law_1345 : decode cc_La_law 1345 = .ok (.iload 4, 2) := by decide +kernel
theorem dd_La_law_1347 : decode cc_La_law 1347 = .ok (.iconst 1, 1) := by decide +kernel
theorem dd_La_law_1348 : decode cc_La_law 1348 = .ok (.iadd, 1) := by decide +kernel
theorem dd_La_law_1349 : decode cc_La_law 1349 = .ok (.iaload, 1) := by decide +kernel
theorem dd_La_law_1350 : decode cc_La_law 1350 = .ok (.aload_n 0, 1) := by decide +kernel
theorem dd_La_law_1351 : decode cc_La_law 1351 = .ok (.iload 4, 2) := by decide +kernel
theorem dd_La_law_1353 : decode cc_La_law 1353 = .ok (.iconst 2, 1) := by decide +kernel
theorem dd_La_law_1354 : decode cc_La_law 1354 = .ok (.iadd, 1) := by decide +kernel
theorem dd_La_law_1355 : decode cc_La_law 1355 = .ok (.iaload, 1) := by decide +kernel
theorem dd_La_law_1356 : decode cc_La_law 1356 = .ok (.aload_n 3, 1) := by decide +kernel
theorem dd_La_law_1357 : decode cc_La_law 1357 = .ok (.invokestatic 173, 3) := by decide +kernel
theorem dd_La_law_1360 : decode cc_La_law 1360 = .ok (.istore 5, 2) := by decide +kernel
theorem dd_La_law_1362 : decode cc_La_law 1362 = .ok (.aload_n 2, 1) := by decide +kernel
theorem dd_La_law_1363 : decode cc_La_law 1363 = .ok (.aload_n 0, 1) := by decide +kernel
theorem dd_La_law_1364 : decode cc_La_law 1364 = .ok (.iload 4, 2) := by decide +kernel
theorem dd_La_law_1366 : decode cc_La_law 1366 = .ok (.iconst 1, 1) := by decide +kernel
theorem dd_La_law_1367 : decode cc_La_law 1367 = .ok (.iadd, 1) := by decide +kernel
theorem dd_La_law_1368 : decode cc_La_law 1368 = .ok (.iaload, 1) := by decide +kernel
theorem dd_La_law_1369 : decode cc_La_law 1369 = .ok (.aload_n 0, 1) := by decide +kernel
theorem dd_La_law_1370 : decode cc_La_law 1370 = .ok (.iload 4, 2) := by decide +kernel
theorem dd_La_law_1372 : decode cc_La_law 1372 = .ok (.iconst 2, 1) := by decide +kernel
theorem dd_La_law_1373 : decode cc_La_law 1373 = .ok (.iadd, 1) := by decide +kernel
theorem dd_La_law_1374 : decode cc_La_law 1374 = .ok (.iaload, 1) := by decide +kernel
theorem dd_La_law_1375 : decode cc_La_law 1375 = .ok (.invokevirtual 175, 3) := by decide +kernel
theorem dd_La_law_1378 : decode cc_La_law 1378 = .ok (.istore 6, 2) := by decide +kernel
theorem dd_La_law_1380 : decode cc_La_law 1380 = .ok (.aload_n 2, 1) := by decide +kernel
theorem dd_La_law_1381 : decode cc_La_law 1381 = .ok (.invokevirtual 110, 3) := by decide +kernel
theorem dd_La_law_1384 : decode cc_La_law 1384 = .ok (.iload 5, 2) := by decide +kernel
theorem dd_La_law_1386 : decode cc_La_law 1386 = .ok (.if_icmp .eq 5, 3) := by decide +kernel
theorem dd_La_law_1389 : decode cc_La_law 1389 = .ok (.iconst 0, 1) := by decide +kernel
theorem dd_La_law_1390 : decode cc_La_law 1390 = .ok (.ireturn, 1) := by decide +kernel
theorem dd_La_law_1391 : decode cc_La_law 1391 = .ok (.iload 5, 2) := by decide +kernel
theorem dd_La_law_1393 : decode cc_La_law 1393 = .ok (.ifCond .ne 15, 3) := by decide +kernel
theorem dd_La_law_1396 : decode cc_La_law 1396 = .ok (.aload_n 3, 1) := by decide +kernel
theorem dd_La_law_1397 : decode cc_La_law 1397 = .ok (.iconst 0, 1) := by decide +kernel
theorem dd_La_law_1398 : decode cc_La_law 1398 = .ok (.laload, 1) := by decide +kernel
theorem dd_La_law_1399 : decode cc_La_law 1399 = .ok (.iload 6, 2) := by decide +kernel
theorem dd_La_law_1401 : decode cc_La_law 1401 = .ok (.i2l, 1) := by decide +kernel
theorem dd_La_law_1402 : decode cc_La_law 1402 = .ok (.lcmp, 1) := by decide +kernel
theorem dd_La_law_1403 : decode cc_La_law 1403 = .ok (.ifCond .eq 5, 3) := by decide +kernel
theorem dd_La_law_1406 : decode cc_La_law 1406 = .ok (.iconst 0, 1) := by decide +kernel
theorem dd_La_law_1407 : decode cc_La_law 1407 = .ok (.ireturn, 1) := by decide +kernel
theorem dd_La_law_1408 : decode cc_La_law 1408 = .ok (.goto 238, 3) := by decide +kernel
theorem dd_La_law_1411 : decode cc_La_law 1411 = .ok (.aload_n 1, 1) := by decide +kernel
theorem dd_La_law_1412 : decode cc_La_law 1412 = .ok (.aload_n 0, 1) := by decide +kernel
theorem dd_La_law_1413 : decode cc_La_law 1413 = .ok (.iload 4, 2) := by decide +kernel
theorem dd_La_law_1415 : decode cc_La_law 1415 = .ok (.iconst 1, 1) := by decide +kernel
theorem dd_La_law_1416 : decode cc_La_law 1416 = .ok (.iadd, 1) := by decide +kernel
theorem dd_La_law_1417 : decode cc_La_law 1417 = .ok (.iaload, 1) := by decide +kernel
theorem dd_La_law_1418 : decode cc_La_law 1418 = .ok (.aload_n 0, 1) := by decide +kernel
theorem dd_La_law_1419 : decode cc_La_law 1419 = .ok (.iload 4, 2) := by decide +kernel
theorem dd_La_law_1421 : decode cc_La_law 1421 = .ok (.iconst 2, 1) := by decide +kernel
theorem dd_La_law_1422 : decode cc_La_law 1422 = .ok (.iadd, 1) := by decide +kernel
theorem dd_La_law_1423 : decode cc_La_law 1423 = .ok (.iaload, 1) := by decide +kernel
theorem dd_La_law_1424 : decode cc_La_law 1424 = .ok (.aload_n 3, 1) := by decide +kernel
theorem dd_La_law_1425 : decode cc_La_law 1425 = .ok (.invokestatic 176, 3) := by decide +kernel
theorem dd_La_law_1428 : decode cc_La_law 1428 = .ok (.istore 5, 2) := by decide +kernel
theorem dd_La_law_1430 : decode cc_La_law 1430 = .ok (.aload_n 2, 1) := by decide +kernel
theorem dd_La_law_1431 : decode cc_La_law 1431 = .ok (.aload_n 0, 1) := by decide +kernel
theorem dd_La_law_1432 : decode cc_La_law 1432 = .ok (.iload 4, 2) := by decide +kernel
theorem dd_La_law_1434 : decode cc_La_law 1434 = .ok (.iconst 1, 1) := by decide +kernel
theorem dd_La_law_1435 : decode cc_La_law 1435 = .ok (.iadd, 1) := by decide +kernel
theorem dd_La_law_1436 : decode cc_La_law 1436 = .ok (.iaload, 1) := by decide +kernel
theorem dd_La_law_1437 : decode cc_La_law 1437 = .ok (.aload_n 0, 1) := by decide +kernel
theorem dd_La_law_1438 : decode cc_La_law 1438 = .ok (.iload 4, 2) := by decide +kernel
theorem dd_La_law_1440 : decode cc_La_law 1440 = .ok (.iconst 2, 1) := by decide +kernel
theorem dd_La_law_1441 : decode cc_La_law 1441 = .ok (.iadd, 1) := by decide +kernel
theorem dd_La_law_1442 : decode cc_La_law 1442 = .ok (.iaload, 1) := by decide +kernel
theorem dd_La_law_1443 : decode cc_La_law 1443 = .ok (.invokevirtual 178, 3) := by decide +kernel
theorem dd_La_law_1446 : decode cc_La_law 1446 = .ok (.istore 6, 2) := by decide +kernel
theorem dd_La_law_1448 : decode cc_La_law 1448 = .ok (.aload_n 2, 1) := by decide +kernel
theorem dd_La_law_1449 : decode cc_La_law 1449 = .ok (.invokevirtual 110, 3) := by decide +kernel
theorem dd_La_law_1452 : decode cc_La_law 1452 = .ok (.iload 5, 2) := by decide +kernel
theorem dd_La_law_1454 : decode cc_La_law 1454 = .ok (.if_icmp .eq 5, 3) := by decide +kernel
theorem dd_La_law_1457 : decode cc_La_law 1457 = .ok (.iconst 0, 1) := by decide +kernel
theorem dd_La_law_1458 : decode cc_La_law 1458 = .ok (.ireturn, 1) := by decide +kernel
theorem dd_La_law_1459 : decode cc_La_law 1459 = .ok (.iload 5, 2) := by decide +kernel
theorem dd_La_law_1461 : decode cc_La_law 1461 = .ok (.ifCond .ne 15, 3) := by decide +kernel
theorem dd_La_law_1464 : decode cc_La_law 1464 = .ok (.aload_n 3, 1) := by decide +kernel
theorem dd_La_law_1465 : decode cc_La_law 1465 = .ok (.iconst 0, 1) := by decide +kernel
theorem dd_La_law_1466 : decode cc_La_law 1466 = .ok (.laload, 1) := by decide +kernel
theorem dd_La_law_1467 : decode cc_La_law 1467 = .ok (.iload 6, 2) := by decide +kernel
theorem dd_La_law_1469 : decode cc_La_law 1469 = .ok (.i2l, 1) := by decide +kernel
theorem dd_La_law_1470 : decode cc_La_law 1470 = .ok (.lcmp, 1) := by decide +kernel
theorem dd_La_law_1471 : decode cc_La_law 1471 = .ok (.ifCond .eq 5, 3) := by decide +kernel
theorem dd_La_law_1474 : decode cc_La_law 1474 = .ok (.iconst 0, 1) := by decide +kernel
theorem dd_La_law_1475 : decode cc_La_law 1475 = .ok (.ireturn, 1) := by decide +kernel
theorem dd_La_law_1476 : decode cc_La_law 1476 = .ok (.goto 170, 3) := by decide +kernel
theorem dd_La_law_1479 : decode cc_La_law 1479 = .ok (.aload_n 1, 1) := by decide +kernel
theorem dd_La_law_1480 : decode cc_La_law 1480 = .ok (.aload_n 0, 1) := by decide +kernel
theorem dd_La_law_1481 : decode cc_La_law 1481 = .ok (.iload 4, 2) := by decide +kernel
theorem dd_La_law_1483 : decode cc_La_law 1483 = .ok (.iconst 1, 1) := by decide +kernel
theorem dd_La_law_1484 : decode cc_La_law 1484 = .ok (.iadd, 1) := by decide +kernel
theorem dd_La_law_1485 : decode cc_La_law 1485 = .ok (.iaload, 1) := by decide +kernel
theorem dd_La_law_1486 : decode cc_La_law 1486 = .ok (.aload_n 0, 1) := by decide +kernel
theorem dd_La_law_1487 : decode cc_La_law 1487 = .ok (.iload 4, 2) := by decide +kernel
theorem dd_La_law_1489 : decode cc_La_law 1489 = .ok (.iconst 2, 1) := by decide +kernel
theorem dd_La_law_1490 : decode cc_La_law 1490 = .ok (.iadd, 1) := by decide +kernel
theorem dd_La_law_1491 : decode cc_La_law 1491 = .ok (.iaload, 1) := by decide +kernel
theorem dd_La_law_1492 : decode cc_La_law 1492 = .ok (.aload_n 3, 1) := by decide +kernel
theorem dd_La_law_1493 : decode cc_La_law 1493 = .ok (.invokestatic 179, 3) := by decide +kernel
theorem dd_La_law_1496 : decode cc_La_law 1496 = .ok (.istore 5, 2) := by decide +kernel
theorem dd_La_law_1498 : decode cc_La_law 1498 = .ok (.aload_n 2, 1) := by decide +kernel
theorem dd_La_law_1499 : decode cc_La_law 1499 = .ok (.aload_n 0, 1) := by decide +kernel
theorem dd_La_law_1500 : decode cc_La_law 1500 = .ok (.iload 4, 2) := by decide +kernel
theorem dd_La_law_1502 : decode cc_La_law 1502 = .ok (.iconst 1, 1) := by decide +kernel
theorem dd_La_law_1503 : decode cc_La_law 1503 = .ok (.iadd, 1) := by decide +kernel
theorem dd_La_law_1504 : decode cc_La_law 1504 = .ok (.iaload, 1) := by decide +kernel
theorem dd_La_law_1505 : decode cc_La_law 1505 = .ok (.aload_n 0, 1) := by decide +kernel
theorem dd_La_law_1506 : decode cc_La_law 1506 = .ok (.iload 4, 2) := by decide +kernel
theorem dd_La_law_1508 : decode cc_La_law 1508 = .ok (.iconst 2, 1) := by decide +kernel
theorem dd_La_law_1509 : decode cc_La_law 1509 = .ok (.iadd, 1) := by decide +kernel
theorem dd_La_law_1510 : decode cc_La_law 1510 = .ok (.iaload, 1) := by decide +kernel
theorem dd_La_law_1511 : decode cc_La_law 1511 = .ok (.invokevirtual 181, 3) := by decide +kernel
theorem dd_La_law_1514 : decode cc_La_law 1514 = .ok (.istore 6, 2) := by decide +kernel
theorem dd_La_law_1516 : decode cc_La_law 1516 = .ok (.aload_n 2, 1) := by decide +kernel
theorem dd_La_law_1517 : decode cc_La_law 1517 = .ok (.invokevirtual 110, 3) := by decide +kernel
theorem dd_La_law_1520 : decode cc_La_law 1520 = .ok (.iload 5, 2) := by decide +kernel
theorem dd_La_law_1522 : decode cc_La_law 1522 = .ok (.if_icmp .eq 5, 3) := by decide +kernel
theorem dd_La_law_1525 : decode cc_La_law 1525 = .ok (.iconst 0, 1) := by decide +kernel
theorem dd_La_law_1526 : decode cc_La_law 1526 = .ok (.ireturn, 1) := by decide +kernel
theorem dd_La_law_1527 : decode cc_La_law 1527 = .ok (.iload 5, 2) := by decide +kernel
theorem dd_La_law_1529 : decode cc_La_law 1529 = .ok (.ifCond .ne 15, 3) := by decide +kernel
theorem dd_La_law_1532 : decode cc_La_law 1532 = .ok (.aload_n 3, 1) := by decide +kernel
theorem dd_La_law_1533 : decode cc_La_law 1533 = .ok (.iconst 0, 1) := by decide +kernel
theorem dd_La_law_1534 : decode cc_La_law 1534 = .ok (.laload, 1) := by decide +kernel
theorem dd_La_law_1535 : decode cc_La_law 1535 = .ok (.iload 6, 2) := by decide +kernel
theorem dd_La_law_1537 : decode cc_La_law 1537 = .ok (.i2l, 1) := by decide +kernel
theorem dd_La_law_1538 : decode cc_La_law 1538 = .ok (.lcmp, 1) := by decide +kernel
theorem dd_La_law_1539 : decode cc_La_law 1539 = .ok (.ifCond .eq 5, 3) := by decide +kernel
theorem dd_La_law_1542 : decode cc_La_law 1542 = .ok (.iconst 0, 1) := by decide +kernel
theorem dd_La_law_1543 : decode cc_La_law 1543 = .ok (.ireturn, 1) := by decide +kernel
theorem dd_La_law_1544 : decode cc_La_law 1544 = .ok (.goto 102, 3) := by decide +kernel
theorem dd_La_law_1547 : decode cc_La_law 1547 = .ok (.aload_n 1, 1) := by decide +kernel
theorem dd_La_law_1548 : decode cc_La_law 1548 = .ok (.aload_n 0, 1) := by decide +kernel
theorem dd_La_law_1549 : decode cc_La_law 1549 = .ok (.iload 4, 2) := by decide +kernel
theorem dd_La_law_1551 : decode cc_La_law 1551 = .ok (.iconst 1, 1) := by decide +kernel
theorem dd_La_law_1552 : decode cc_La_law 1552 = .ok (.iadd, 1) := by decide +kernel
theorem dd_La_law_1553 : decode cc_La_law 1553 = .ok (.iaload, 1) := by decide +kernel
theorem dd_La_law_1554 : decode cc_La_law 1554 = .ok (.aload_n 0, 1) := by decide +kernel
theorem dd_La_law_1555 : decode cc_La_law 1555 = .ok (.iload 4, 2) := by decide +kernel
theorem dd_La_law_1557 : decode cc_La_law 1557 = .ok (.iconst 2, 1) := by decide +kernel
theorem dd_La_law_1558 : decode cc_La_law 1558 = .ok (.iadd, 1) := by decide +kernel
theorem dd_La_law_1559 : decode cc_La_law 1559 = .ok (.iaload, 1) := by decide +kernel
theorem dd_La_law_1560 : decode cc_La_law 1560 = .ok (.aload_n 0, 1) := by decide +kernel
theorem dd_La_law_1561 : decode cc_La_law 1561 = .ok (.iload 4, 2) := by decide +kernel
theorem dd_La_law_1563 : decode cc_La_law 1563 = .ok (.iconst 3, 1) := by decide +kernel
theorem dd_La_law_1564 : decode cc_La_law 1564 = .ok (.iadd, 1) := by decide +kernel
theorem dd_La_law_1565 : decode cc_La_law 1565 = .ok (.iaload, 1) := by decide +kernel
theorem dd_La_law_1566 : decode cc_La_law 1566 = .ok (.aload_n 0, 1) := by decide +kernel
theorem dd_La_law_1567 : decode cc_La_law 1567 = .ok (.iload 4, 2) := by decide +kernel
theorem dd_La_law_1569 : decode cc_La_law 1569 = .ok (.iconst 4, 1) := by decide +kernel
theorem dd_La_law_1570 : decode cc_La_law 1570 = .ok (.iadd, 1) := by decide +kernel
theorem dd_La_law_1571 : decode cc_La_law 1571 = .ok (.iaload, 1) := by decide +kernel
theorem dd_La_law_1572 : decode cc_La_law 1572 = .ok (.aload_n 3, 1) := by decide +kernel
theorem dd_La_law_1573 : decode cc_La_law 1573 = .ok (.invokestatic 182, 3) := by decide +kernel
theorem dd_La_law_1576 : decode cc_La_law 1576 = .ok (.istore 5, 2) := by decide +kernel
theorem dd_La_law_1578 : decode cc_La_law 1578 = .ok (.aload_n 2, 1) := by decide +kernel
theorem dd_La_law_1579 : decode cc_La_law 1579 = .ok (.aload_n 0, 1) := by decide +kernel
theorem dd_La_law_1580 : decode cc_La_law 1580 = .ok (.iload 4, 2) := by decide +kernel
theorem dd_La_law_1582 : decode cc_La_law 1582 = .ok (.iconst 1, 1) := by decide +kernel
theorem dd_La_law_1583 : decode cc_La_law 1583 = .ok (.iadd, 1) := by decide +kernel
theorem dd_La_law_1584 : decode cc_La_law 1584 = .ok (.iaload, 1) := by decide +kernel
theorem dd_La_law_1585 : decode cc_La_law 1585 = .ok (.aload_n 0, 1) := by decide +kernel
theorem dd_La_law_1586 : decode cc_La_law 1586 = .ok (.iload 4, 2) := by decide +kernel
theorem dd_La_law_1588 : decode cc_La_law 1588 = .ok (.iconst 2, 1) := by decide +kernel
theorem dd_La_law_1589 : decode cc_La_law 1589 = .ok (.iadd, 1) := by decide +kernel
theorem dd_La_law_1590 : decode cc_La_law 1590 = .ok (.iaload, 1) := by decide +kernel
theorem dd_La_law_1591 : decode cc_La_law 1591 = .ok (.aload_n 0, 1) := by decide +kernel
theorem dd_La_law_1592 : decode cc_La_law 1592 = .ok (.iload 4, 2) := by decide +kernel
theorem dd_La_law_1594 : decode cc_La_law 1594 = .ok (.iconst 3, 1) := by decide +kernel
theorem dd_La_law_1595 : decode cc_La_law 1595 = .ok (.iadd, 1) := by decide +kernel
theorem dd_La_law_1596 : decode cc_La_law 1596 = .ok (.iaload, 1) := by decide +kernel
theorem dd_La_law_1597 : decode cc_La_law 1597 = .ok (.aload_n 0, 1) := by decide +kernel
theorem dd_La_law_1598 : decode cc_La_law 1598 = .ok (.iload 4, 2) := by decide +kernel
theorem dd_La_law_1600 : decode cc_La_law 1600 = .ok (.iconst 4, 1) := by decide +kernel
theorem dd_La_law_1601 : decode cc_La_law 1601 = .ok (.iadd, 1) := by decide +kernel
theorem dd_La_law_1602 : decode cc_La_law 1602 = .ok (.iaload, 1) := by decide +kernel
theorem dd_La_law_1603 : decode cc_La_law 1603 = .ok (.invokevirtual 185, 3) := by decide +kernel
theorem dd_La_law_1606 : decode cc_La_law 1606 = .ok (.istore 6, 2) := by decide +kernel
theorem dd_La_law_1608 : decode cc_La_law 1608 = .ok (.aload_n 2, 1) := by decide +kernel
theorem dd_La_law_1609 : decode cc_La_law 1609 = .ok (.invokevirtual 110, 3) := by decide +kernel
theorem dd_La_law_1612 : decode cc_La_law 1612 = .ok (.iload 5, 2) := by decide +kernel
theorem dd_La_law_1614 : decode cc_La_law 1614 = .ok (.if_icmp .eq 5, 3) := by decide +kernel
theorem dd_La_law_1617 : decode cc_La_law 1617 = .ok (.iconst 0, 1) := by decide +kernel
theorem dd_La_law_1618 : decode cc_La_law 1618 = .ok (.ireturn, 1) := by decide +kernel
theorem dd_La_law_1619 : decode cc_La_law 1619 = .ok (.iload 5, 2) := by decide +kernel
theorem dd_La_law_1621 : decode cc_La_law 1621 = .ok (.ifCond .ne 22, 3) := by decide +kernel
theorem dd_La_law_1624 : decode cc_La_law 1624 = .ok (.aload_n 3, 1) := by decide +kernel
theorem dd_La_law_1625 : decode cc_La_law 1625 = .ok (.iconst 0, 1) := by decide +kernel
theorem dd_La_law_1626 : decode cc_La_law 1626 = .ok (.laload, 1) := by decide +kernel
theorem dd_La_law_1627 : decode cc_La_law 1627 = .ok (.iload 6, 2) := by decide +kernel
theorem dd_La_law_1629 : decode cc_La_law 1629 = .ok (.ifCond .eq 7, 3) := by decide +kernel
theorem dd_La_law_1632 : decode cc_La_law 1632 = .ok (.lconst 1, 1) := by decide +kernel
theorem dd_La_law_1633 : decode cc_La_law 1633 = .ok (.goto 4, 3) := by decide +kernel
theorem dd_La_law_1636 : decode cc_La_law 1636 = .ok (.lconst 0, 1) := by decide +kernel
theorem dd_La_law_1637 : decode cc_La_law 1637 = .ok (.lcmp, 1) := by decide +kernel
theorem dd_La_law_1638 : decode cc_La_law 1638 = .ok (.ifCond .eq 5, 3) := by decide +kernel
theorem dd_La_law_1641 : decode cc_La_law 1641 = .ok (.iconst 0, 1) := by decide +kernel
theorem dd_La_law_1642 : decode cc_La_law 1642 = .ok (.ireturn, 1) := by decide +kernel
theorem dd_La_law_1643 : decode cc_La_law 1643 = .ok (.goto 3, 3) := by decide +kernel
theorem dd_La_law_1646 : decode cc_La_law 1646 = .ok (.iinc 4 5, 3) := by decide +kernel
theorem dd_La_law_1649 : decode cc_La_law 1649 = .ok (.goto (-1616), 3) := by decide +kernel
theorem dd_La_law_1652 : decode cc_La_law 1652 = .ok (.iconst 1, 1) := by decide +kernel
theorem dd_La_law_1653 : decode cc_La_law 1653 = .ok (.ireturn, 1) := by decide +kernel
