/-! THE LAW: its cases, one for each call -/
theorem dL_law_0 : decode cL_law 0 = .ok (.new 7, 3) := by decide +kernel
theorem dL_law_3 : decode cL_law 3 = .ok (.dup, 1) := by decide +kernel
theorem dL_law_4 : decode cL_law 4 = .ok (.invokespecial 9, 3) := by decide +kernel
theorem dL_law_7 : decode cL_law 7 = .ok (.astore_n 1, 1) := by decide +kernel
theorem dL_law_8 : decode cL_law 8 = .ok (.new 10, 3) := by decide +kernel
theorem dL_law_11 : decode cL_law 11 = .ok (.dup, 1) := by decide +kernel
theorem dL_law_12 : decode cL_law 12 = .ok (.invokespecial 12, 3) := by decide +kernel
theorem dL_law_15 : decode cL_law 15 = .ok (.astore_n 2, 1) := by decide +kernel
theorem dL_law_16 : decode cL_law 16 = .ok (.iconst 0, 1) := by decide +kernel
theorem dL_law_17 : decode cL_law 17 = .ok (.istore_n 3, 1) := by decide +kernel
theorem dL_law_18 : decode cL_law 18 = .ok (.iload_n 3, 1) := by decide +kernel
theorem dL_law_19 : decode cL_law 19 = .ok (.aload_n 0, 1) := by decide +kernel
theorem dL_law_20 : decode cL_law 20 = .ok (.arraylength, 1) := by decide +kernel
theorem dL_law_21 : decode cL_law 21 = .ok (.bipush 8, 2) := by decide +kernel
theorem dL_law_23 : decode cL_law 23 = .ok (.isub, 1) := by decide +kernel
theorem dL_law_24 : decode cL_law 24 = .ok (.if_icmp .gt 1390, 3) := by decide +kernel
theorem dL_law_27 : decode cL_law 27 = .ok (.aload_n 0, 1) := by decide +kernel
theorem dL_law_28 : decode cL_law 28 = .ok (.iload_n 3, 1) := by decide +kernel
theorem dL_law_29 : decode cL_law 29 = .ok (.iaload, 1) := by decide +kernel
theorem dL_law_30 : decode cL_law 30 = .ok (.bipush 63, 2) := by decide +kernel
theorem dL_law_32 : decode cL_law 32 = .ok (.iand, 1) := by decide +kernel
theorem dL_law_33 : decode cL_law 33 = .ok (.tableswitch 1375 0 33 #[151, 174, 227, 250, 263, 276, 309, 396, 429, 472, 515, 538, 561, 594, 657, 691, 724, 747, 771, 814, 857, 916, 949, 972, 1015, 1058, 1111, 1134, 1167, 1190, 1233, 1276, 1339, 1352], 151) := by decide +kernel
theorem dL_law_184 : decode cL_law 184 = .ok (.aload_n 1, 1) := by decide +kernel
theorem dL_law_185 : decode cL_law 185 = .ok (.aload_n 0, 1) := by decide +kernel
theorem dL_law_186 : decode cL_law 186 = .ok (.iload_n 3, 1) := by decide +kernel
theorem dL_law_187 : decode cL_law 187 = .ok (.iconst 1, 1) := by decide +kernel
theorem dL_law_188 : decode cL_law 188 = .ok (.iadd, 1) := by decide +kernel
theorem dL_law_189 : decode cL_law 189 = .ok (.iaload, 1) := by decide +kernel
theorem dL_law_190 : decode cL_law 190 = .ok (.invokevirtual 13, 3) := by decide +kernel
theorem dL_law_193 : decode cL_law 193 = .ok (.aload_n 2, 1) := by decide +kernel
theorem dL_law_194 : decode cL_law 194 = .ok (.aload_n 0, 1) := by decide +kernel
theorem dL_law_195 : decode cL_law 195 = .ok (.iload_n 3, 1) := by decide +kernel
theorem dL_law_196 : decode cL_law 196 = .ok (.iconst 1, 1) := by decide +kernel
theorem dL_law_197 : decode cL_law 197 = .ok (.iadd, 1) := by decide +kernel
theorem dL_law_198 : decode cL_law 198 = .ok (.iaload, 1) := by decide +kernel
theorem dL_law_199 : decode cL_law 199 = .ok (.invokevirtual 17, 3) := by decide +kernel
theorem dL_law_202 : decode cL_law 202 = .ok (.if_icmp .eq 1206, 3) := by decide +kernel
theorem dL_law_205 : decode cL_law 205 = .ok (.iconst 0, 1) := by decide +kernel
theorem dL_law_206 : decode cL_law 206 = .ok (.ireturn, 1) := by decide +kernel
theorem dL_law_207 : decode cL_law 207 = .ok (.aload_n 1, 1) := by decide +kernel
theorem dL_law_208 : decode cL_law 208 = .ok (.aload_n 0, 1) := by decide +kernel
theorem dL_law_209 : decode cL_law 209 = .ok (.iload_n 3, 1) := by decide +kernel
theorem dL_law_210 : decode cL_law 210 = .ok (.iconst 1, 1) := by decide +kernel
theorem dL_law_211 : decode cL_law 211 = .ok (.iadd, 1) := by decide +kernel
theorem dL_law_212 : decode cL_law 212 = .ok (.iaload, 1) := by decide +kernel
theorem dL_law_213 : decode cL_law 213 = .ok (.i2l, 1) := by decide +kernel
theorem dL_law_214 : decode cL_law 214 = .ok (.bipush 32, 2) := by decide +kernel
theorem dL_law_216 : decode cL_law 216 = .ok (.lshl, 1) := by decide +kernel
theorem dL_law_217 : decode cL_law 217 = .ok (.aload_n 0, 1) := by decide +kernel
theorem dL_law_218 : decode cL_law 218 = .ok (.iload_n 3, 1) := by decide +kernel
theorem dL_law_219 : decode cL_law 219 = .ok (.iconst 2, 1) := by decide +kernel
theorem dL_law_220 : decode cL_law 220 = .ok (.iadd, 1) := by decide +kernel
theorem dL_law_221 : decode cL_law 221 = .ok (.iaload, 1) := by decide +kernel
theorem dL_law_222 : decode cL_law 222 = .ok (.i2l, 1) := by decide +kernel
theorem dL_law_223 : decode cL_law 223 = .ok (.ldc2_w 18, 3) := by decide +kernel
theorem dL_law_226 : decode cL_law 226 = .ok (.land, 1) := by decide +kernel
theorem dL_law_227 : decode cL_law 227 = .ok (.lor, 1) := by decide +kernel
theorem dL_law_228 : decode cL_law 228 = .ok (.invokevirtual 20, 3) := by decide +kernel
theorem dL_law_231 : decode cL_law 231 = .ok (.aload_n 2, 1) := by decide +kernel
theorem dL_law_232 : decode cL_law 232 = .ok (.aload_n 0, 1) := by decide +kernel
theorem dL_law_233 : decode cL_law 233 = .ok (.iload_n 3, 1) := by decide +kernel
theorem dL_law_234 : decode cL_law 234 = .ok (.iconst 1, 1) := by decide +kernel
theorem dL_law_235 : decode cL_law 235 = .ok (.iadd, 1) := by decide +kernel
theorem dL_law_236 : decode cL_law 236 = .ok (.iaload, 1) := by decide +kernel
theorem dL_law_237 : decode cL_law 237 = .ok (.i2l, 1) := by decide +kernel
theorem dL_law_238 : decode cL_law 238 = .ok (.bipush 32, 2) := by decide +kernel
theorem dL_law_240 : decode cL_law 240 = .ok (.lshl, 1) := by decide +kernel
theorem dL_law_241 : decode cL_law 241 = .ok (.aload_n 0, 1) := by decide +kernel
theorem dL_law_242 : decode cL_law 242 = .ok (.iload_n 3, 1) := by decide +kernel
theorem dL_law_243 : decode cL_law 243 = .ok (.iconst 2, 1) := by decide +kernel
theorem dL_law_244 : decode cL_law 244 = .ok (.iadd, 1) := by decide +kernel
theorem dL_law_245 : decode cL_law 245 = .ok (.iaload, 1) := by decide +kernel
theorem dL_law_246 : decode cL_law 246 = .ok (.i2l, 1) := by decide +kernel
theorem dL_law_247 : decode cL_law 247 = .ok (.ldc2_w 18, 3) := by decide +kernel
theorem dL_law_250 : decode cL_law 250 = .ok (.land, 1) := by decide +kernel
theorem dL_law_251 : decode cL_law 251 = .ok (.lor, 1) := by decide +kernel
theorem dL_law_252 : decode cL_law 252 = .ok (.invokevirtual 24, 3) := by decide +kernel
theorem dL_law_255 : decode cL_law 255 = .ok (.if_icmp .eq 1153, 3) := by decide +kernel
theorem dL_law_258 : decode cL_law 258 = .ok (.iconst 0, 1) := by decide +kernel
theorem dL_law_259 : decode cL_law 259 = .ok (.ireturn, 1) := by decide +kernel
theorem dL_law_260 : decode cL_law 260 = .ok (.aload_n 1, 1) := by decide +kernel
theorem dL_law_261 : decode cL_law 261 = .ok (.aload_n 0, 1) := by decide +kernel
theorem dL_law_262 : decode cL_law 262 = .ok (.iload_n 3, 1) := by decide +kernel
theorem dL_law_263 : decode cL_law 263 = .ok (.iconst 1, 1) := by decide +kernel
theorem dL_law_264 : decode cL_law 264 = .ok (.iadd, 1) := by decide +kernel
theorem dL_law_265 : decode cL_law 265 = .ok (.iaload, 1) := by decide +kernel
theorem dL_law_266 : decode cL_law 266 = .ok (.invokevirtual 25, 3) := by decide +kernel
theorem dL_law_269 : decode cL_law 269 = .ok (.aload_n 2, 1) := by decide +kernel
theorem dL_law_270 : decode cL_law 270 = .ok (.aload_n 0, 1) := by decide +kernel
theorem dL_law_271 : decode cL_law 271 = .ok (.iload_n 3, 1) := by decide +kernel
theorem dL_law_272 : decode cL_law 272 = .ok (.iconst 1, 1) := by decide +kernel
theorem dL_law_273 : decode cL_law 273 = .ok (.iadd, 1) := by decide +kernel
theorem dL_law_274 : decode cL_law 274 = .ok (.iaload, 1) := by decide +kernel
theorem dL_law_275 : decode cL_law 275 = .ok (.invokevirtual 28, 3) := by decide +kernel
theorem dL_law_278 : decode cL_law 278 = .ok (.if_icmp .eq 1130, 3) := by decide +kernel
theorem dL_law_281 : decode cL_law 281 = .ok (.iconst 0, 1) := by decide +kernel
theorem dL_law_282 : decode cL_law 282 = .ok (.ireturn, 1) := by decide +kernel
theorem dL_law_283 : decode cL_law 283 = .ok (.aload_n 1, 1) := by decide +kernel
theorem dL_law_284 : decode cL_law 284 = .ok (.invokevirtual 29, 3) := by decide +kernel
theorem dL_law_287 : decode cL_law 287 = .ok (.aload_n 2, 1) := by decide +kernel
theorem dL_law_288 : decode cL_law 288 = .ok (.invokevirtual 33, 3) := by decide +kernel
theorem dL_law_291 : decode cL_law 291 = .ok (.if_icmp .eq 1117, 3) := by decide +kernel
theorem dL_law_294 : decode cL_law 294 = .ok (.iconst 0, 1) := by decide +kernel
theorem dL_law_295 : decode cL_law 295 = .ok (.ireturn, 1) := by decide +kernel
theorem dL_law_296 : decode cL_law 296 = .ok (.aload_n 1, 1) := by decide +kernel
theorem dL_law_297 : decode cL_law 297 = .ok (.invokevirtual 34, 3) := by decide +kernel
theorem dL_law_300 : decode cL_law 300 = .ok (.aload_n 2, 1) := by decide +kernel
theorem dL_law_301 : decode cL_law 301 = .ok (.invokevirtual 37, 3) := by decide +kernel
theorem dL_law_304 : decode cL_law 304 = .ok (.if_icmp .eq 1104, 3) := by decide +kernel
theorem dL_law_307 : decode cL_law 307 = .ok (.iconst 0, 1) := by decide +kernel
theorem dL_law_308 : decode cL_law 308 = .ok (.ireturn, 1) := by decide +kernel
theorem dL_law_309 : decode cL_law 309 = .ok (.aload_n 1, 1) := by decide +kernel
theorem dL_law_310 : decode cL_law 310 = .ok (.aload_n 0, 1) := by decide +kernel
theorem dL_law_311 : decode cL_law 311 = .ok (.iload_n 3, 1) := by decide +kernel
theorem dL_law_312 : decode cL_law 312 = .ok (.iconst 1, 1) := by decide +kernel
theorem dL_law_313 : decode cL_law 313 = .ok (.iadd, 1) := by decide +kernel
theorem dL_law_314 : decode cL_law 314 = .ok (.iaload, 1) := by decide +kernel
theorem dL_law_315 : decode cL_law 315 = .ok (.aload_n 0, 1) := by decide +kernel
theorem dL_law_316 : decode cL_law 316 = .ok (.iload_n 3, 1) := by decide +kernel
theorem dL_law_317 : decode cL_law 317 = .ok (.iconst 2, 1) := by decide +kernel
theorem dL_law_318 : decode cL_law 318 = .ok (.iadd, 1) := by decide +kernel
theorem dL_law_319 : decode cL_law 319 = .ok (.iaload, 1) := by decide +kernel
theorem dL_law_320 : decode cL_law 320 = .ok (.invokevirtual 38, 3) := by decide +kernel
theorem dL_law_323 : decode cL_law 323 = .ok (.aload_n 2, 1) := by decide +kernel
theorem dL_law_324 : decode cL_law 324 = .ok (.aload_n 0, 1) := by decide +kernel
theorem dL_law_325 : decode cL_law 325 = .ok (.iload_n 3, 1) := by decide +kernel
theorem dL_law_326 : decode cL_law 326 = .ok (.iconst 1, 1) := by decide +kernel
theorem dL_law_327 : decode cL_law 327 = .ok (.iadd, 1) := by decide +kernel
theorem dL_law_328 : decode cL_law 328 = .ok (.iaload, 1) := by decide +kernel
theorem dL_law_329 : decode cL_law 329 = .ok (.aload_n 0, 1) := by decide +kernel
theorem dL_law_330 : decode cL_law 330 = .ok (.iload_n 3, 1) := by decide +kernel
theorem dL_law_331 : decode cL_law 331 = .ok (.iconst 2, 1) := by decide +kernel
theorem dL_law_332 : decode cL_law 332 = .ok (.iadd, 1) := by decide +kernel
theorem dL_law_333 : decode cL_law 333 = .ok (.iaload, 1) := by decide +kernel
theorem dL_law_334 : decode cL_law 334 = .ok (.invokevirtual 42, 3) := by decide +kernel
theorem dL_law_337 : decode cL_law 337 = .ok (.if_icmp .eq 1071, 3) := by decide +kernel
theorem dL_law_340 : decode cL_law 340 = .ok (.iconst 0, 1) := by decide +kernel
theorem dL_law_341 : decode cL_law 341 = .ok (.ireturn, 1) := by decide +kernel
theorem dL_law_342 : decode cL_law 342 = .ok (.aload_n 1, 1) := by decide +kernel
theorem dL_law_343 : decode cL_law 343 = .ok (.aload_n 0, 1) := by decide +kernel
theorem dL_law_344 : decode cL_law 344 = .ok (.iload_n 3, 1) := by decide +kernel
theorem dL_law_345 : decode cL_law 345 = .ok (.iconst 1, 1) := by decide +kernel
theorem dL_law_346 : decode cL_law 346 = .ok (.iadd, 1) := by decide +kernel
theorem dL_law_347 : decode cL_law 347 = .ok (.iaload, 1) := by decide +kernel
theorem dL_law_348 : decode cL_law 348 = .ok (.aload_n 0, 1) := by decide +kernel
theorem dL_law_349 : decode cL_law 349 = .ok (.iload_n 3, 1) := by decide +kernel
theorem dL_law_350 : decode cL_law 350 = .ok (.iconst 2, 1) := by decide +kernel
theorem dL_law_351 : decode cL_law 351 = .ok (.iadd, 1) := by decide +kernel
theorem dL_law_352 : decode cL_law 352 = .ok (.iaload, 1) := by decide +kernel
theorem dL_law_353 : decode cL_law 353 = .ok (.aload_n 0, 1) := by decide +kernel
theorem dL_law_354 : decode cL_law 354 = .ok (.iload_n 3, 1) := by decide +kernel
theorem dL_law_355 : decode cL_law 355 = .ok (.iconst 3, 1) := by decide +kernel
theorem dL_law_356 : decode cL_law 356 = .ok (.iadd, 1) := by decide +kernel
theorem dL_law_357 : decode cL_law 357 = .ok (.iaload, 1) := by decide +kernel
theorem dL_law_358 : decode cL_law 358 = .ok (.aload_n 0, 1) := by decide +kernel
theorem dL_law_359 : decode cL_law 359 = .ok (.iload_n 3, 1) := by decide +kernel
theorem dL_law_360 : decode cL_law 360 = .ok (.iconst 4, 1) := by decide +kernel
theorem dL_law_361 : decode cL_law 361 = .ok (.iadd, 1) := by decide +kernel
theorem dL_law_362 : decode cL_law 362 = .ok (.iaload, 1) := by decide +kernel
theorem dL_law_363 : decode cL_law 363 = .ok (.aload_n 0, 1) := by decide +kernel
theorem dL_law_364 : decode cL_law 364 = .ok (.iload_n 3, 1) := by decide +kernel
theorem dL_law_365 : decode cL_law 365 = .ok (.iconst 5, 1) := by decide +kernel
theorem dL_law_366 : decode cL_law 366 = .ok (.iadd, 1) := by decide +kernel
theorem dL_law_367 : decode cL_law 367 = .ok (.iaload, 1) := by decide +kernel
theorem dL_law_368 : decode cL_law 368 = .ok (.aload_n 0, 1) := by decide +kernel
theorem dL_law_369 : decode cL_law 369 = .ok (.iload_n 3, 1) := by decide +kernel
theorem dL_law_370 : decode cL_law 370 = .ok (.bipush 6, 2) := by decide +kernel
theorem dL_law_372 : decode cL_law 372 = .ok (.iadd, 1) := by decide +kernel
theorem dL_law_373 : decode cL_law 373 = .ok (.iaload, 1) := by decide +kernel
theorem dL_law_374 : decode cL_law 374 = .ok (.aload_n 0, 1) := by decide +kernel
theorem dL_law_375 : decode cL_law 375 = .ok (.iload_n 3, 1) := by decide +kernel
theorem dL_law_376 : decode cL_law 376 = .ok (.bipush 7, 2) := by decide +kernel
theorem dL_law_378 : decode cL_law 378 = .ok (.iadd, 1) := by decide +kernel
theorem dL_law_379 : decode cL_law 379 = .ok (.iaload, 1) := by decide +kernel
theorem dL_law_380 : decode cL_law 380 = .ok (.invokevirtual 43, 3) := by decide +kernel
theorem dL_law_383 : decode cL_law 383 = .ok (.aload_n 2, 1) := by decide +kernel
theorem dL_law_384 : decode cL_law 384 = .ok (.aload_n 0, 1) := by decide +kernel
theorem dL_law_385 : decode cL_law 385 = .ok (.iload_n 3, 1) := by decide +kernel
theorem dL_law_386 : decode cL_law 386 = .ok (.iconst 1, 1) := by decide +kernel
theorem dL_law_387 : decode cL_law 387 = .ok (.iadd, 1) := by decide +kernel
theorem dL_law_388 : decode cL_law 388 = .ok (.iaload, 1) := by decide +kernel
theorem dL_law_389 : decode cL_law 389 = .ok (.aload_n 0, 1) := by decide +kernel
theorem dL_law_390 : decode cL_law 390 = .ok (.iload_n 3, 1) := by decide +kernel
theorem dL_law_391 : decode cL_law 391 = .ok (.iconst 2, 1) := by decide +kernel
theorem dL_law_392 : decode cL_law 392 = .ok (.iadd, 1) := by decide +kernel
theorem dL_law_393 : decode cL_law 393 = .ok (.iaload, 1) := by decide +kernel
theorem dL_law_394 : decode cL_law 394 = .ok (.aload_n 0, 1) := by decide +kernel
theorem dL_law_395 : decode cL_law 395 = .ok (.iload_n 3, 1) := by decide +kernel
theorem dL_law_396 : decode cL_law 396 = .ok (.iconst 3, 1) := by decide +kernel
theorem dL_law_397 : decode cL_law 397 = .ok (.iadd, 1) := by decide +kernel
theorem dL_law_398 : decode cL_law 398 = .ok (.iaload, 1) := by decide +kernel
theorem dL_law_399 : decode cL_law 399 = .ok (.aload_n 0, 1) := by decide +kernel
theorem dL_law_400 : decode cL_law 400 = .ok (.iload_n 3, 1) := by decide +kernel
theorem dL_law_401 : decode cL_law 401 = .ok (.iconst 4, 1) := by decide +kernel
theorem dL_law_402 : decode cL_law 402 = .ok (.iadd, 1) := by decide +kernel
theorem dL_law_403 : decode cL_law 403 = .ok (.iaload, 1) := by decide +kernel
theorem dL_law_404 : decode cL_law 404 = .ok (.aload_n 0, 1) := by decide +kernel
theorem dL_law_405 : decode cL_law 405 = .ok (.iload_n 3, 1) := by decide +kernel
theorem dL_law_406 : decode cL_law 406 = .ok (.iconst 5, 1) := by decide +kernel
theorem dL_law_407 : decode cL_law 407 = .ok (.iadd, 1) := by decide +kernel
theorem dL_law_408 : decode cL_law 408 = .ok (.iaload, 1) := by decide +kernel
theorem dL_law_409 : decode cL_law 409 = .ok (.aload_n 0, 1) := by decide +kernel
theorem dL_law_410 : decode cL_law 410 = .ok (.iload_n 3, 1) := by decide +kernel
theorem dL_law_411 : decode cL_law 411 = .ok (.bipush 6, 2) := by decide +kernel
theorem dL_law_413 : decode cL_law 413 = .ok (.iadd, 1) := by decide +kernel
theorem dL_law_414 : decode cL_law 414 = .ok (.iaload, 1) := by decide +kernel
theorem dL_law_415 : decode cL_law 415 = .ok (.aload_n 0, 1) := by decide +kernel
theorem dL_law_416 : decode cL_law 416 = .ok (.iload_n 3, 1) := by decide +kernel
theorem dL_law_417 : decode cL_law 417 = .ok (.bipush 7, 2) := by decide +kernel
theorem dL_law_419 : decode cL_law 419 = .ok (.iadd, 1) := by decide +kernel
theorem dL_law_420 : decode cL_law 420 = .ok (.iaload, 1) := by decide +kernel
theorem dL_law_421 : decode cL_law 421 = .ok (.invokevirtual 47, 3) := by decide +kernel
theorem dL_law_424 : decode cL_law 424 = .ok (.if_icmp .eq 984, 3) := by decide +kernel
theorem dL_law_427 : decode cL_law 427 = .ok (.iconst 0, 1) := by decide +kernel
theorem dL_law_428 : decode cL_law 428 = .ok (.ireturn, 1) := by decide +kernel
theorem dL_law_429 : decode cL_law 429 = .ok (.aload_n 1, 1) := by decide +kernel
theorem dL_law_430 : decode cL_law 430 = .ok (.aload_n 0, 1) := by decide +kernel
theorem dL_law_431 : decode cL_law 431 = .ok (.iload_n 3, 1) := by decide +kernel
theorem dL_law_432 : decode cL_law 432 = .ok (.iconst 1, 1) := by decide +kernel
theorem dL_law_433 : decode cL_law 433 = .ok (.iadd, 1) := by decide +kernel
theorem dL_law_434 : decode cL_law 434 = .ok (.iaload, 1) := by decide +kernel
theorem dL_law_435 : decode cL_law 435 = .ok (.aload_n 0, 1) := by decide +kernel
theorem dL_law_436 : decode cL_law 436 = .ok (.iload_n 3, 1) := by decide +kernel
theorem dL_law_437 : decode cL_law 437 = .ok (.iconst 2, 1) := by decide +kernel
theorem dL_law_438 : decode cL_law 438 = .ok (.iadd, 1) := by decide +kernel
theorem dL_law_439 : decode cL_law 439 = .ok (.iaload, 1) := by decide +kernel
theorem dL_law_440 : decode cL_law 440 = .ok (.invokevirtual 48, 3) := by decide +kernel
theorem dL_law_443 : decode cL_law 443 = .ok (.aload_n 2, 1) := by decide +kernel
theorem dL_law_444 : decode cL_law 444 = .ok (.aload_n 0, 1) := by decide +kernel
theorem dL_law_445 : decode cL_law 445 = .ok (.iload_n 3, 1) := by decide +kernel
theorem dL_law_446 : decode cL_law 446 = .ok (.iconst 1, 1) := by decide +kernel
theorem dL_law_447 : decode cL_law 447 = .ok (.iadd, 1) := by decide +kernel
theorem dL_law_448 : decode cL_law 448 = .ok (.iaload, 1) := by decide +kernel
theorem dL_law_449 : decode cL_law 449 = .ok (.aload_n 0, 1) := by decide +kernel
theorem dL_law_450 : decode cL_law 450 = .ok (.iload_n 3, 1) := by decide +kernel
theorem dL_law_451 : decode cL_law 451 = .ok (.iconst 2, 1) := by decide +kernel
theorem dL_law_452 : decode cL_law 452 = .ok (.iadd, 1) := by decide +kernel
theorem dL_law_453 : decode cL_law 453 = .ok (.iaload, 1) := by decide +kernel
theorem dL_law_454 : decode cL_law 454 = .ok (.invokevirtual 51, 3) := by decide +kernel
theorem dL_law_457 : decode cL_law 457 = .ok (.if_icmp .eq 951, 3) := by decide +kernel
theorem dL_law_460 : decode cL_law 460 = .ok (.iconst 0, 1) := by decide +kernel
theorem dL_law_461 : decode cL_law 461 = .ok (.ireturn, 1) := by decide +kernel
theorem dL_law_462 : decode cL_law 462 = .ok (.aload_n 1, 1) := by decide +kernel
theorem dL_law_463 : decode cL_law 463 = .ok (.aload_n 0, 1) := by decide +kernel
theorem dL_law_464 : decode cL_law 464 = .ok (.iload_n 3, 1) := by decide +kernel
theorem dL_law_465 : decode cL_law 465 = .ok (.iconst 1, 1) := by decide +kernel
theorem dL_law_466 : decode cL_law 466 = .ok (.iadd, 1) := by decide +kernel
theorem dL_law_467 : decode cL_law 467 = .ok (.iaload, 1) := by decide +kernel
theorem dL_law_468 : decode cL_law 468 = .ok (.aload_n 0, 1) := by decide +kernel
theorem dL_law_469 : decode cL_law 469 = .ok (.iload_n 3, 1) := by decide +kernel
theorem dL_law_470 : decode cL_law 470 = .ok (.iconst 2, 1) := by decide +kernel
theorem dL_law_471 : decode cL_law 471 = .ok (.iadd, 1) := by decide +kernel
theorem dL_law_472 : decode cL_law 472 = .ok (.iaload, 1) := by decide +kernel
theorem dL_law_473 : decode cL_law 473 = .ok (.aload_n 0, 1) := by decide +kernel
theorem dL_law_474 : decode cL_law 474 = .ok (.iload_n 3, 1) := by decide +kernel
theorem dL_law_475 : decode cL_law 475 = .ok (.iconst 3, 1) := by decide +kernel
theorem dL_law_476 : decode cL_law 476 = .ok (.iadd, 1) := by decide +kernel
theorem dL_law_477 : decode cL_law 477 = .ok (.iaload, 1) := by decide +kernel
theorem dL_law_478 : decode cL_law 478 = .ok (.invokevirtual 52, 3) := by decide +kernel
theorem dL_law_481 : decode cL_law 481 = .ok (.aload_n 2, 1) := by decide +kernel
theorem dL_law_482 : decode cL_law 482 = .ok (.aload_n 0, 1) := by decide +kernel
theorem dL_law_483 : decode cL_law 483 = .ok (.iload_n 3, 1) := by decide +kernel
theorem dL_law_484 : decode cL_law 484 = .ok (.iconst 1, 1) := by decide +kernel
theorem dL_law_485 : decode cL_law 485 = .ok (.iadd, 1) := by decide +kernel
theorem dL_law_486 : decode cL_law 486 = .ok (.iaload, 1) := by decide +kernel
theorem dL_law_487 : decode cL_law 487 = .ok (.aload_n 0, 1) := by decide +kernel
theorem dL_law_488 : decode cL_law 488 = .ok (.iload_n 3, 1) := by decide +kernel
theorem dL_law_489 : decode cL_law 489 = .ok (.iconst 2, 1) := by decide +kernel
theorem dL_law_490 : decode cL_law 490 = .ok (.iadd, 1) := by decide +kernel
theorem dL_law_491 : decode cL_law 491 = .ok (.iaload, 1) := by decide +kernel
theorem dL_law_492 : decode cL_law 492 = .ok (.aload_n 0, 1) := by decide +kernel
theorem dL_law_493 : decode cL_law 493 = .ok (.iload_n 3, 1) := by decide +kernel
theorem dL_law_494 : decode cL_law 494 = .ok (.iconst 3, 1) := by decide +kernel
theorem dL_law_495 : decode cL_law 495 = .ok (.iadd, 1) := by decide +kernel
theorem dL_law_496 : decode cL_law 496 = .ok (.iaload, 1) := by decide +kernel
theorem dL_law_497 : decode cL_law 497 = .ok (.invokevirtual 56, 3) := by decide +kernel
theorem dL_law_500 : decode cL_law 500 = .ok (.if_icmp .eq 908, 3) := by decide +kernel
theorem dL_law_503 : decode cL_law 503 = .ok (.iconst 0, 1) := by decide +kernel
theorem dL_law_504 : decode cL_law 504 = .ok (.ireturn, 1) := by decide +kernel
theorem dL_law_505 : decode cL_law 505 = .ok (.aload_n 1, 1) := by decide +kernel
theorem dL_law_506 : decode cL_law 506 = .ok (.aload_n 0, 1) := by decide +kernel
theorem dL_law_507 : decode cL_law 507 = .ok (.iload_n 3, 1) := by decide +kernel
theorem dL_law_508 : decode cL_law 508 = .ok (.iconst 1, 1) := by decide +kernel
theorem dL_law_509 : decode cL_law 509 = .ok (.iadd, 1) := by decide +kernel
theorem dL_law_510 : decode cL_law 510 = .ok (.iaload, 1) := by decide +kernel
theorem dL_law_511 : decode cL_law 511 = .ok (.aload_n 0, 1) := by decide +kernel
theorem dL_law_512 : decode cL_law 512 = .ok (.iload_n 3, 1) := by decide +kernel
theorem dL_law_513 : decode cL_law 513 = .ok (.iconst 2, 1) := by decide +kernel
theorem dL_law_514 : decode cL_law 514 = .ok (.iadd, 1) := by decide +kernel
theorem dL_law_515 : decode cL_law 515 = .ok (.iaload, 1) := by decide +kernel
theorem dL_law_516 : decode cL_law 516 = .ok (.aload_n 0, 1) := by decide +kernel
theorem dL_law_517 : decode cL_law 517 = .ok (.iload_n 3, 1) := by decide +kernel
theorem dL_law_518 : decode cL_law 518 = .ok (.iconst 3, 1) := by decide +kernel
theorem dL_law_519 : decode cL_law 519 = .ok (.iadd, 1) := by decide +kernel
theorem dL_law_520 : decode cL_law 520 = .ok (.iaload, 1) := by decide +kernel
theorem dL_law_521 : decode cL_law 521 = .ok (.invokevirtual 57, 3) := by decide +kernel
theorem dL_law_524 : decode cL_law 524 = .ok (.aload_n 2, 1) := by decide +kernel
theorem dL_law_525 : decode cL_law 525 = .ok (.aload_n 0, 1) := by decide +kernel
theorem dL_law_526 : decode cL_law 526 = .ok (.iload_n 3, 1) := by decide +kernel
theorem dL_law_527 : decode cL_law 527 = .ok (.iconst 1, 1) := by decide +kernel
theorem dL_law_528 : decode cL_law 528 = .ok (.iadd, 1) := by decide +kernel
theorem dL_law_529 : decode cL_law 529 = .ok (.iaload, 1) := by decide +kernel
theorem dL_law_530 : decode cL_law 530 = .ok (.aload_n 0, 1) := by decide +kernel
theorem dL_law_531 : decode cL_law 531 = .ok (.iload_n 3, 1) := by decide +kernel
theorem dL_law_532 : decode cL_law 532 = .ok (.iconst 2, 1) := by decide +kernel
theorem dL_law_533 : decode cL_law 533 = .ok (.iadd, 1) := by decide +kernel
theorem dL_law_534 : decode cL_law 534 = .ok (.iaload, 1) := by decide +kernel
theorem dL_law_535 : decode cL_law 535 = .ok (.aload_n 0, 1) := by decide +kernel
theorem dL_law_536 : decode cL_law 536 = .ok (.iload_n 3, 1) := by decide +kernel
theorem dL_law_537 : decode cL_law 537 = .ok (.iconst 3, 1) := by decide +kernel
theorem dL_law_538 : decode cL_law 538 = .ok (.iadd, 1) := by decide +kernel
theorem dL_law_539 : decode cL_law 539 = .ok (.iaload, 1) := by decide +kernel
theorem dL_law_540 : decode cL_law 540 = .ok (.invokevirtual 60, 3) := by decide +kernel
theorem dL_law_543 : decode cL_law 543 = .ok (.if_icmp .eq 865, 3) := by decide +kernel
theorem dL_law_546 : decode cL_law 546 = .ok (.iconst 0, 1) := by decide +kernel
theorem dL_law_547 : decode cL_law 547 = .ok (.ireturn, 1) := by decide +kernel
theorem dL_law_548 : decode cL_law 548 = .ok (.aload_n 1, 1) := by decide +kernel
theorem dL_law_549 : decode cL_law 549 = .ok (.aload_n 0, 1) := by decide +kernel
theorem dL_law_550 : decode cL_law 550 = .ok (.iload_n 3, 1) := by decide +kernel
theorem dL_law_551 : decode cL_law 551 = .ok (.iconst 1, 1) := by decide +kernel
theorem dL_law_552 : decode cL_law 552 = .ok (.iadd, 1) := by decide +kernel
theorem dL_law_553 : decode cL_law 553 = .ok (.iaload, 1) := by decide +kernel
theorem dL_law_554 : decode cL_law 554 = .ok (.invokevirtual 61, 3) := by decide +kernel
theorem dL_law_557 : decode cL_law 557 = .ok (.aload_n 2, 1) := by decide +kernel
theorem dL_law_558 : decode cL_law 558 = .ok (.aload_n 0, 1) := by decide +kernel
theorem dL_law_559 : decode cL_law 559 = .ok (.iload_n 3, 1) := by decide +kernel
theorem dL_law_560 : decode cL_law 560 = .ok (.iconst 1, 1) := by decide +kernel
theorem dL_law_561 : decode cL_law 561 = .ok (.iadd, 1) := by decide +kernel
theorem dL_law_562 : decode cL_law 562 = .ok (.iaload, 1) := by decide +kernel
theorem dL_law_563 : decode cL_law 563 = .ok (.invokevirtual 64, 3) := by decide +kernel
theorem dL_law_566 : decode cL_law 566 = .ok (.if_icmp .eq 842, 3) := by decide +kernel
theorem dL_law_569 : decode cL_law 569 = .ok (.iconst 0, 1) := by decide +kernel
theorem dL_law_570 : decode cL_law 570 = .ok (.ireturn, 1) := by decide +kernel
theorem dL_law_571 : decode cL_law 571 = .ok (.aload_n 1, 1) := by decide +kernel
theorem dL_law_572 : decode cL_law 572 = .ok (.aload_n 0, 1) := by decide +kernel
theorem dL_law_573 : decode cL_law 573 = .ok (.iload_n 3, 1) := by decide +kernel
theorem dL_law_574 : decode cL_law 574 = .ok (.iconst 1, 1) := by decide +kernel
theorem dL_law_575 : decode cL_law 575 = .ok (.iadd, 1) := by decide +kernel
theorem dL_law_576 : decode cL_law 576 = .ok (.iaload, 1) := by decide +kernel
theorem dL_law_577 : decode cL_law 577 = .ok (.invokevirtual 65, 3) := by decide +kernel
theorem dL_law_580 : decode cL_law 580 = .ok (.aload_n 2, 1) := by decide +kernel
theorem dL_law_581 : decode cL_law 581 = .ok (.aload_n 0, 1) := by decide +kernel
theorem dL_law_582 : decode cL_law 582 = .ok (.iload_n 3, 1) := by decide +kernel
theorem dL_law_583 : decode cL_law 583 = .ok (.iconst 1, 1) := by decide +kernel
theorem dL_law_584 : decode cL_law 584 = .ok (.iadd, 1) := by decide +kernel
theorem dL_law_585 : decode cL_law 585 = .ok (.iaload, 1) := by decide +kernel
theorem dL_law_586 : decode cL_law 586 = .ok (.invokevirtual 68, 3) := by decide +kernel
theorem dL_law_589 : decode cL_law 589 = .ok (.if_icmp .eq 819, 3) := by decide +kernel
theorem dL_law_592 : decode cL_law 592 = .ok (.iconst 0, 1) := by decide +kernel
theorem dL_law_593 : decode cL_law 593 = .ok (.ireturn, 1) := by decide +kernel
theorem dL_law_594 : decode cL_law 594 = .ok (.aload_n 1, 1) := by decide +kernel
theorem dL_law_595 : decode cL_law 595 = .ok (.aload_n 0, 1) := by decide +kernel
theorem dL_law_596 : decode cL_law 596 = .ok (.iload_n 3, 1) := by decide +kernel
theorem dL_law_597 : decode cL_law 597 = .ok (.iconst 1, 1) := by decide +kernel
theorem dL_law_598 : decode cL_law 598 = .ok (.iadd, 1) := by decide +kernel
theorem dL_law_599 : decode cL_law 599 = .ok (.iaload, 1) := by decide +kernel
theorem dL_law_600 : decode cL_law 600 = .ok (.aload_n 0, 1) := by decide +kernel
theorem dL_law_601 : decode cL_law 601 = .ok (.iload_n 3, 1) := by decide +kernel
theorem dL_law_602 : decode cL_law 602 = .ok (.iconst 2, 1) := by decide +kernel
theorem dL_law_603 : decode cL_law 603 = .ok (.iadd, 1) := by decide +kernel
theorem dL_law_604 : decode cL_law 604 = .ok (.iaload, 1) := by decide +kernel
theorem dL_law_605 : decode cL_law 605 = .ok (.invokevirtual 69, 3) := by decide +kernel
theorem dL_law_608 : decode cL_law 608 = .ok (.aload_n 2, 1) := by decide +kernel
theorem dL_law_609 : decode cL_law 609 = .ok (.aload_n 0, 1) := by decide +kernel
theorem dL_law_610 : decode cL_law 610 = .ok (.iload_n 3, 1) := by decide +kernel
theorem dL_law_611 : decode cL_law 611 = .ok (.iconst 1, 1) := by decide +kernel
theorem dL_law_612 : decode cL_law 612 = .ok (.iadd, 1) := by decide +kernel
theorem dL_law_613 : decode cL_law 613 = .ok (.iaload, 1) := by decide +kernel
theorem dL_law_614 : decode cL_law 614 = .ok (.aload_n 0, 1) := by decide +kernel
theorem dL_law_615 : decode cL_law 615 = .ok (.iload_n 3, 1) := by decide +kernel
theorem dL_law_616 : decode cL_law 616 = .ok (.iconst 2, 1) := by decide +kernel
theorem dL_law_617 : decode cL_law 617 = .ok (.iadd, 1) := by decide +kernel
theorem dL_law_618 : decode cL_law 618 = .ok (.iaload, 1) := by decide +kernel
theorem dL_law_619 : decode cL_law 619 = .ok (.invokevirtual 72, 3) := by decide +kernel
theorem dL_law_622 : decode cL_law 622 = .ok (.if_icmp .eq 786, 3) := by decide +kernel
theorem dL_law_625 : decode cL_law 625 = .ok (.iconst 0, 1) := by decide +kernel
theorem dL_law_626 : decode cL_law 626 = .ok (.ireturn, 1) := by decide +kernel
theorem dL_law_627 : decode cL_law 627 = .ok (.aload_n 1, 1) := by decide +kernel
theorem dL_law_628 : decode cL_law 628 = .ok (.aload_n 0, 1) := by decide +kernel
theorem dL_law_629 : decode cL_law 629 = .ok (.iload_n 3, 1) := by decide +kernel
theorem dL_law_630 : decode cL_law 630 = .ok (.iconst 1, 1) := by decide +kernel
theorem dL_law_631 : decode cL_law 631 = .ok (.iadd, 1) := by decide +kernel
theorem dL_law_632 : decode cL_law 632 = .ok (.iaload, 1) := by decide +kernel
theorem dL_law_633 : decode cL_law 633 = .ok (.aload_n 0, 1) := by decide +kernel
theorem dL_law_634 : decode cL_law 634 = .ok (.iload_n 3, 1) := by decide +kernel
theorem dL_law_635 : decode cL_law 635 = .ok (.iconst 2, 1) := by decide +kernel
theorem dL_law_636 : decode cL_law 636 = .ok (.iadd, 1) := by decide +kernel
theorem dL_law_637 : decode cL_law 637 = .ok (.iaload, 1) := by decide +kernel
theorem dL_law_638 : decode cL_law 638 = .ok (.aload_n 0, 1) := by decide +kernel
theorem dL_law_639 : decode cL_law 639 = .ok (.iload_n 3, 1) := by decide +kernel
theorem dL_law_640 : decode cL_law 640 = .ok (.iconst 3, 1) := by decide +kernel
theorem dL_law_641 : decode cL_law 641 = .ok (.iadd, 1) := by decide +kernel
theorem dL_law_642 : decode cL_law 642 = .ok (.iaload, 1) := by decide +kernel
theorem dL_law_643 : decode cL_law 643 = .ok (.aload_n 0, 1) := by decide +kernel
theorem dL_law_644 : decode cL_law 644 = .ok (.iload_n 3, 1) := by decide +kernel
theorem dL_law_645 : decode cL_law 645 = .ok (.iconst 4, 1) := by decide +kernel
theorem dL_law_646 : decode cL_law 646 = .ok (.iadd, 1) := by decide +kernel
theorem dL_law_647 : decode cL_law 647 = .ok (.iaload, 1) := by decide +kernel
theorem dL_law_648 : decode cL_law 648 = .ok (.aload_n 0, 1) := by decide +kernel
theorem dL_law_649 : decode cL_law 649 = .ok (.iload_n 3, 1) := by decide +kernel
theorem dL_law_650 : decode cL_law 650 = .ok (.iconst 5, 1) := by decide +kernel
theorem dL_law_651 : decode cL_law 651 = .ok (.iadd, 1) := by decide +kernel
theorem dL_law_652 : decode cL_law 652 = .ok (.iaload, 1) := by decide +kernel
theorem dL_law_653 : decode cL_law 653 = .ok (.invokevirtual 73, 3) := by decide +kernel
theorem dL_law_656 : decode cL_law 656 = .ok (.aload_n 2, 1) := by decide +kernel
theorem dL_law_657 : decode cL_law 657 = .ok (.aload_n 0, 1) := by decide +kernel
theorem dL_law_658 : decode cL_law 658 = .ok (.iload_n 3, 1) := by decide +kernel
theorem dL_law_659 : decode cL_law 659 = .ok (.iconst 1, 1) := by decide +kernel
theorem dL_law_660 : decode cL_law 660 = .ok (.iadd, 1) := by decide +kernel
theorem dL_law_661 : decode cL_law 661 = .ok (.iaload, 1) := by decide +kernel
theorem dL_law_662 : decode cL_law 662 = .ok (.aload_n 0, 1) := by decide +kernel
theorem dL_law_663 : decode cL_law 663 = .ok (.iload_n 3, 1) := by decide +kernel
theorem dL_law_664 : decode cL_law 664 = .ok (.iconst 2, 1) := by decide +kernel
theorem dL_law_665 : decode cL_law 665 = .ok (.iadd, 1) := by decide +kernel
theorem dL_law_666 : decode cL_law 666 = .ok (.iaload, 1) := by decide +kernel
theorem dL_law_667 : decode cL_law 667 = .ok (.aload_n 0, 1) := by decide +kernel
theorem dL_law_668 : decode cL_law 668 = .ok (.iload_n 3, 1) := by decide +kernel
theorem dL_law_669 : decode cL_law 669 = .ok (.iconst 3, 1) := by decide +kernel
theorem dL_law_670 : decode cL_law 670 = .ok (.iadd, 1) := by decide +kernel
theorem dL_law_671 : decode cL_law 671 = .ok (.iaload, 1) := by decide +kernel
theorem dL_law_672 : decode cL_law 672 = .ok (.aload_n 0, 1) := by decide +kernel
theorem dL_law_673 : decode cL_law 673 = .ok (.iload_n 3, 1) := by decide +kernel
theorem dL_law_674 : decode cL_law 674 = .ok (.iconst 4, 1) := by decide +kernel
theorem dL_law_675 : decode cL_law 675 = .ok (.iadd, 1) := by decide +kernel
theorem dL_law_676 : decode cL_law 676 = .ok (.iaload, 1) := by decide +kernel
theorem dL_law_677 : decode cL_law 677 = .ok (.aload_n 0, 1) := by decide +kernel
theorem dL_law_678 : decode cL_law 678 = .ok (.iload_n 3, 1) := by decide +kernel
theorem dL_law_679 : decode cL_law 679 = .ok (.iconst 5, 1) := by decide +kernel
theorem dL_law_680 : decode cL_law 680 = .ok (.iadd, 1) := by decide +kernel
theorem dL_law_681 : decode cL_law 681 = .ok (.iaload, 1) := by decide +kernel
theorem dL_law_682 : decode cL_law 682 = .ok (.invokevirtual 77, 3) := by decide +kernel
theorem dL_law_685 : decode cL_law 685 = .ok (.if_icmp .eq 723, 3) := by decide +kernel
theorem dL_law_688 : decode cL_law 688 = .ok (.iconst 0, 1) := by decide +kernel
theorem dL_law_689 : decode cL_law 689 = .ok (.ireturn, 1) := by decide +kernel
theorem dL_law_690 : decode cL_law 690 = .ok (.aload_n 1, 1) := by decide +kernel
theorem dL_law_691 : decode cL_law 691 = .ok (.aload_n 0, 1) := by decide +kernel
theorem dL_law_692 : decode cL_law 692 = .ok (.iload_n 3, 1) := by decide +kernel
theorem dL_law_693 : decode cL_law 693 = .ok (.iconst 1, 1) := by decide +kernel
theorem dL_law_694 : decode cL_law 694 = .ok (.iadd, 1) := by decide +kernel
theorem dL_law_695 : decode cL_law 695 = .ok (.iaload, 1) := by decide +kernel
theorem dL_law_696 : decode cL_law 696 = .ok (.aload_n 0, 1) := by decide +kernel
theorem dL_law_697 : decode cL_law 697 = .ok (.iload_n 3, 1) := by decide +kernel
theorem dL_law_698 : decode cL_law 698 = .ok (.iconst 2, 1) := by decide +kernel
theorem dL_law_699 : decode cL_law 699 = .ok (.iadd, 1) := by decide +kernel
theorem dL_law_700 : decode cL_law 700 = .ok (.iaload, 1) := by decide +kernel
theorem dL_law_701 : decode cL_law 701 = .ok (.invokevirtual 78, 3) := by decide +kernel
theorem dL_law_704 : decode cL_law 704 = .ok (.aload_n 2, 1) := by decide +kernel
theorem dL_law_705 : decode cL_law 705 = .ok (.aload_n 0, 1) := by decide +kernel
theorem dL_law_706 : decode cL_law 706 = .ok (.iload_n 3, 1) := by decide +kernel
theorem dL_law_707 : decode cL_law 707 = .ok (.iconst 1, 1) := by decide +kernel
theorem dL_law_708 : decode cL_law 708 = .ok (.iadd, 1) := by decide +kernel
theorem dL_law_709 : decode cL_law 709 = .ok (.iaload, 1) := by decide +kernel
theorem dL_law_710 : decode cL_law 710 = .ok (.aload_n 0, 1) := by decide +kernel
theorem dL_law_711 : decode cL_law 711 = .ok (.iload_n 3, 1) := by decide +kernel
theorem dL_law_712 : decode cL_law 712 = .ok (.iconst 2, 1) := by decide +kernel
theorem dL_law_713 : decode cL_law 713 = .ok (.iadd, 1) := by decide +kernel
theorem dL_law_714 : decode cL_law 714 = .ok (.iaload, 1) := by decide +kernel
theorem dL_law_715 : decode cL_law 715 = .ok (.invokevirtual 82, 3) := by decide +kernel
theorem dL_law_718 : decode cL_law 718 = .ok (.lcmp, 1) := by decide +kernel
theorem dL_law_719 : decode cL_law 719 = .ok (.ifCond .eq 689, 3) := by decide +kernel
theorem dL_law_722 : decode cL_law 722 = .ok (.iconst 0, 1) := by decide +kernel
theorem dL_law_723 : decode cL_law 723 = .ok (.ireturn, 1) := by decide +kernel
theorem dL_law_724 : decode cL_law 724 = .ok (.aload_n 1, 1) := by decide +kernel
theorem dL_law_725 : decode cL_law 725 = .ok (.aload_n 0, 1) := by decide +kernel
theorem dL_law_726 : decode cL_law 726 = .ok (.iload_n 3, 1) := by decide +kernel
theorem dL_law_727 : decode cL_law 727 = .ok (.iconst 1, 1) := by decide +kernel
theorem dL_law_728 : decode cL_law 728 = .ok (.iadd, 1) := by decide +kernel
theorem dL_law_729 : decode cL_law 729 = .ok (.iaload, 1) := by decide +kernel
theorem dL_law_730 : decode cL_law 730 = .ok (.aload_n 0, 1) := by decide +kernel
theorem dL_law_731 : decode cL_law 731 = .ok (.iload_n 3, 1) := by decide +kernel
theorem dL_law_732 : decode cL_law 732 = .ok (.iconst 2, 1) := by decide +kernel
theorem dL_law_733 : decode cL_law 733 = .ok (.iadd, 1) := by decide +kernel
theorem dL_law_734 : decode cL_law 734 = .ok (.iaload, 1) := by decide +kernel
theorem dL_law_735 : decode cL_law 735 = .ok (.invokevirtual 83, 3) := by decide +kernel
theorem dL_law_738 : decode cL_law 738 = .ok (.aload_n 2, 1) := by decide +kernel
theorem dL_law_739 : decode cL_law 739 = .ok (.aload_n 0, 1) := by decide +kernel
theorem dL_law_740 : decode cL_law 740 = .ok (.iload_n 3, 1) := by decide +kernel
theorem dL_law_741 : decode cL_law 741 = .ok (.iconst 1, 1) := by decide +kernel
theorem dL_law_742 : decode cL_law 742 = .ok (.iadd, 1) := by decide +kernel
theorem dL_law_743 : decode cL_law 743 = .ok (.iaload, 1) := by decide +kernel
theorem dL_law_744 : decode cL_law 744 = .ok (.aload_n 0, 1) := by decide +kernel
theorem dL_law_745 : decode cL_law 745 = .ok (.iload_n 3, 1) := by decide +kernel
theorem dL_law_746 : decode cL_law 746 = .ok (.iconst 2, 1) := by decide +kernel
theorem dL_law_747 : decode cL_law 747 = .ok (.iadd, 1) := by decide +kernel
theorem dL_law_748 : decode cL_law 748 = .ok (.iaload, 1) := by decide +kernel
theorem dL_law_749 : decode cL_law 749 = .ok (.invokevirtual 86, 3) := by decide +kernel
theorem dL_law_752 : decode cL_law 752 = .ok (.if_icmp .eq 656, 3) := by decide +kernel
theorem dL_law_755 : decode cL_law 755 = .ok (.iconst 0, 1) := by decide +kernel
theorem dL_law_756 : decode cL_law 756 = .ok (.ireturn, 1) := by decide +kernel
theorem dL_law_757 : decode cL_law 757 = .ok (.aload_n 1, 1) := by decide +kernel
theorem dL_law_758 : decode cL_law 758 = .ok (.aload_n 0, 1) := by decide +kernel
theorem dL_law_759 : decode cL_law 759 = .ok (.iload_n 3, 1) := by decide +kernel
theorem dL_law_760 : decode cL_law 760 = .ok (.iconst 1, 1) := by decide +kernel
theorem dL_law_761 : decode cL_law 761 = .ok (.iadd, 1) := by decide +kernel
theorem dL_law_762 : decode cL_law 762 = .ok (.iaload, 1) := by decide +kernel
theorem dL_law_763 : decode cL_law 763 = .ok (.invokevirtual 87, 3) := by decide +kernel
theorem dL_law_766 : decode cL_law 766 = .ok (.aload_n 2, 1) := by decide +kernel
theorem dL_law_767 : decode cL_law 767 = .ok (.aload_n 0, 1) := by decide +kernel
theorem dL_law_768 : decode cL_law 768 = .ok (.iload_n 3, 1) := by decide +kernel
theorem dL_law_769 : decode cL_law 769 = .ok (.iconst 1, 1) := by decide +kernel
theorem dL_law_770 : decode cL_law 770 = .ok (.iadd, 1) := by decide +kernel
theorem dL_law_771 : decode cL_law 771 = .ok (.iaload, 1) := by decide +kernel
theorem dL_law_772 : decode cL_law 772 = .ok (.invokevirtual 90, 3) := by decide +kernel
theorem dL_law_775 : decode cL_law 775 = .ok (.if_icmp .eq 633, 3) := by decide +kernel
theorem dL_law_778 : decode cL_law 778 = .ok (.iconst 0, 1) := by decide +kernel
theorem dL_law_779 : decode cL_law 779 = .ok (.ireturn, 1) := by decide +kernel
theorem dL_law_780 : decode cL_law 780 = .ok (.aload_n 1, 1) := by decide +kernel
theorem dL_law_781 : decode cL_law 781 = .ok (.aload_n 0, 1) := by decide +kernel
theorem dL_law_782 : decode cL_law 782 = .ok (.iload_n 3, 1) := by decide +kernel
theorem dL_law_783 : decode cL_law 783 = .ok (.iconst 1, 1) := by decide +kernel
theorem dL_law_784 : decode cL_law 784 = .ok (.iadd, 1) := by decide +kernel
theorem dL_law_785 : decode cL_law 785 = .ok (.iaload, 1) := by decide +kernel
theorem dL_law_786 : decode cL_law 786 = .ok (.invokevirtual 91, 3) := by decide +kernel
theorem dL_law_789 : decode cL_law 789 = .ok (.aload_n 2, 1) := by decide +kernel
theorem dL_law_790 : decode cL_law 790 = .ok (.aload_n 0, 1) := by decide +kernel
theorem dL_law_791 : decode cL_law 791 = .ok (.iload_n 3, 1) := by decide +kernel
theorem dL_law_792 : decode cL_law 792 = .ok (.iconst 1, 1) := by decide +kernel
theorem dL_law_793 : decode cL_law 793 = .ok (.iadd, 1) := by decide +kernel
theorem dL_law_794 : decode cL_law 794 = .ok (.iaload, 1) := by decide +kernel
theorem dL_law_795 : decode cL_law 795 = .ok (.invokevirtual 95, 3) := by decide +kernel
theorem dL_law_798 : decode cL_law 798 = .ok (.lcmp, 1) := by decide +kernel
theorem dL_law_799 : decode cL_law 799 = .ok (.ifCond .eq 609, 3) := by decide +kernel
theorem dL_law_802 : decode cL_law 802 = .ok (.iconst 0, 1) := by decide +kernel
theorem dL_law_803 : decode cL_law 803 = .ok (.ireturn, 1) := by decide +kernel
theorem dL_law_804 : decode cL_law 804 = .ok (.aload_n 1, 1) := by decide +kernel
theorem dL_law_805 : decode cL_law 805 = .ok (.aload_n 0, 1) := by decide +kernel
theorem dL_law_806 : decode cL_law 806 = .ok (.iload_n 3, 1) := by decide +kernel
theorem dL_law_807 : decode cL_law 807 = .ok (.iconst 1, 1) := by decide +kernel
theorem dL_law_808 : decode cL_law 808 = .ok (.iadd, 1) := by decide +kernel
theorem dL_law_809 : decode cL_law 809 = .ok (.iaload, 1) := by decide +kernel
theorem dL_law_810 : decode cL_law 810 = .ok (.aload_n 0, 1) := by decide +kernel
theorem dL_law_811 : decode cL_law 811 = .ok (.iload_n 3, 1) := by decide +kernel
theorem dL_law_812 : decode cL_law 812 = .ok (.iconst 2, 1) := by decide +kernel
theorem dL_law_813 : decode cL_law 813 = .ok (.iadd, 1) := by decide +kernel
theorem dL_law_814 : decode cL_law 814 = .ok (.iaload, 1) := by decide +kernel
theorem dL_law_815 : decode cL_law 815 = .ok (.aload_n 0, 1) := by decide +kernel
theorem dL_law_816 : decode cL_law 816 = .ok (.iload_n 3, 1) := by decide +kernel
theorem dL_law_817 : decode cL_law 817 = .ok (.iconst 3, 1) := by decide +kernel
theorem dL_law_818 : decode cL_law 818 = .ok (.iadd, 1) := by decide +kernel
theorem dL_law_819 : decode cL_law 819 = .ok (.iaload, 1) := by decide +kernel
theorem dL_law_820 : decode cL_law 820 = .ok (.invokevirtual 96, 3) := by decide +kernel
theorem dL_law_823 : decode cL_law 823 = .ok (.aload_n 2, 1) := by decide +kernel
theorem dL_law_824 : decode cL_law 824 = .ok (.aload_n 0, 1) := by decide +kernel
theorem dL_law_825 : decode cL_law 825 = .ok (.iload_n 3, 1) := by decide +kernel
theorem dL_law_826 : decode cL_law 826 = .ok (.iconst 1, 1) := by decide +kernel
theorem dL_law_827 : decode cL_law 827 = .ok (.iadd, 1) := by decide +kernel
theorem dL_law_828 : decode cL_law 828 = .ok (.iaload, 1) := by decide +kernel
theorem dL_law_829 : decode cL_law 829 = .ok (.aload_n 0, 1) := by decide +kernel
theorem dL_law_830 : decode cL_law 830 = .ok (.iload_n 3, 1) := by decide +kernel
theorem dL_law_831 : decode cL_law 831 = .ok (.iconst 2, 1) := by decide +kernel
theorem dL_law_832 : decode cL_law 832 = .ok (.iadd, 1) := by decide +kernel
theorem dL_law_833 : decode cL_law 833 = .ok (.iaload, 1) := by decide +kernel
theorem dL_law_834 : decode cL_law 834 = .ok (.aload_n 0, 1) := by decide +kernel
theorem dL_law_835 : decode cL_law 835 = .ok (.iload_n 3, 1) := by decide +kernel
theorem dL_law_836 : decode cL_law 836 = .ok (.iconst 3, 1) := by decide +kernel
theorem dL_law_837 : decode cL_law 837 = .ok (.iadd, 1) := by decide +kernel
theorem dL_law_838 : decode cL_law 838 = .ok (.iaload, 1) := by decide +kernel
theorem dL_law_839 : decode cL_law 839 = .ok (.invokevirtual 99, 3) := by decide +kernel
theorem dL_law_842 : decode cL_law 842 = .ok (.if_icmp .eq 566, 3) := by decide +kernel
theorem dL_law_845 : decode cL_law 845 = .ok (.iconst 0, 1) := by decide +kernel
theorem dL_law_846 : decode cL_law 846 = .ok (.ireturn, 1) := by decide +kernel
theorem dL_law_847 : decode cL_law 847 = .ok (.aload_n 1, 1) := by decide +kernel
theorem dL_law_848 : decode cL_law 848 = .ok (.aload_n 0, 1) := by decide +kernel
theorem dL_law_849 : decode cL_law 849 = .ok (.iload_n 3, 1) := by decide +kernel
theorem dL_law_850 : decode cL_law 850 = .ok (.iconst 1, 1) := by decide +kernel
theorem dL_law_851 : decode cL_law 851 = .ok (.iadd, 1) := by decide +kernel
theorem dL_law_852 : decode cL_law 852 = .ok (.iaload, 1) := by decide +kernel
theorem dL_law_853 : decode cL_law 853 = .ok (.aload_n 0, 1) := by decide +kernel
theorem dL_law_854 : decode cL_law 854 = .ok (.iload_n 3, 1) := by decide +kernel
theorem dL_law_855 : decode cL_law 855 = .ok (.iconst 2, 1) := by decide +kernel
theorem dL_law_856 : decode cL_law 856 = .ok (.iadd, 1) := by decide +kernel
theorem dL_law_857 : decode cL_law 857 = .ok (.iaload, 1) := by decide +kernel
theorem dL_law_858 : decode cL_law 858 = .ok (.aload_n 0, 1) := by decide +kernel
theorem dL_law_859 : decode cL_law 859 = .ok (.iload_n 3, 1) := by decide +kernel
theorem dL_law_860 : decode cL_law 860 = .ok (.iconst 3, 1) := by decide +kernel
theorem dL_law_861 : decode cL_law 861 = .ok (.iadd, 1) := by decide +kernel
theorem dL_law_862 : decode cL_law 862 = .ok (.iaload, 1) := by decide +kernel
theorem dL_law_863 : decode cL_law 863 = .ok (.invokevirtual 100, 3) := by decide +kernel
theorem dL_law_866 : decode cL_law 866 = .ok (.aload_n 2, 1) := by decide +kernel
theorem dL_law_867 : decode cL_law 867 = .ok (.aload_n 0, 1) := by decide +kernel
theorem dL_law_868 : decode cL_law 868 = .ok (.iload_n 3, 1) := by decide +kernel
theorem dL_law_869 : decode cL_law 869 = .ok (.iconst 1, 1) := by decide +kernel
theorem dL_law_870 : decode cL_law 870 = .ok (.iadd, 1) := by decide +kernel
theorem dL_law_871 : decode cL_law 871 = .ok (.iaload, 1) := by decide +kernel
theorem dL_law_872 : decode cL_law 872 = .ok (.aload_n 0, 1) := by decide +kernel
theorem dL_law_873 : decode cL_law 873 = .ok (.iload_n 3, 1) := by decide +kernel
theorem dL_law_874 : decode cL_law 874 = .ok (.iconst 2, 1) := by decide +kernel
theorem dL_law_875 : decode cL_law 875 = .ok (.iadd, 1) := by decide +kernel
theorem dL_law_876 : decode cL_law 876 = .ok (.iaload, 1) := by decide +kernel
theorem dL_law_877 : decode cL_law 877 = .ok (.aload_n 0, 1) := by decide +kernel
theorem dL_law_878 : decode cL_law 878 = .ok (.iload_n 3, 1) := by decide +kernel
theorem dL_law_879 : decode cL_law 879 = .ok (.iconst 3, 1) := by decide +kernel
theorem dL_law_880 : decode cL_law 880 = .ok (.iadd, 1) := by decide +kernel
theorem dL_law_881 : decode cL_law 881 = .ok (.iaload, 1) := by decide +kernel
theorem dL_law_882 : decode cL_law 882 = .ok (.invokevirtual 103, 3) := by decide +kernel
theorem dL_law_885 : decode cL_law 885 = .ok (.if_icmp .eq 523, 3) := by decide +kernel
theorem dL_law_888 : decode cL_law 888 = .ok (.iconst 0, 1) := by decide +kernel
theorem dL_law_889 : decode cL_law 889 = .ok (.ireturn, 1) := by decide +kernel
theorem dL_law_890 : decode cL_law 890 = .ok (.aload_n 1, 1) := by decide +kernel
theorem dL_law_891 : decode cL_law 891 = .ok (.aload_n 0, 1) := by decide +kernel
theorem dL_law_892 : decode cL_law 892 = .ok (.iload_n 3, 1) := by decide +kernel
theorem dL_law_893 : decode cL_law 893 = .ok (.iconst 1, 1) := by decide +kernel
theorem dL_law_894 : decode cL_law 894 = .ok (.iadd, 1) := by decide +kernel
theorem dL_law_895 : decode cL_law 895 = .ok (.iaload, 1) := by decide +kernel
theorem dL_law_896 : decode cL_law 896 = .ok (.aload_n 0, 1) := by decide +kernel
theorem dL_law_897 : decode cL_law 897 = .ok (.iload_n 3, 1) := by decide +kernel
theorem dL_law_898 : decode cL_law 898 = .ok (.iconst 2, 1) := by decide +kernel
theorem dL_law_899 : decode cL_law 899 = .ok (.iadd, 1) := by decide +kernel
theorem dL_law_900 : decode cL_law 900 = .ok (.iaload, 1) := by decide +kernel
theorem dL_law_901 : decode cL_law 901 = .ok (.aload_n 0, 1) := by decide +kernel
theorem dL_law_902 : decode cL_law 902 = .ok (.iload_n 3, 1) := by decide +kernel
theorem dL_law_903 : decode cL_law 903 = .ok (.iconst 3, 1) := by decide +kernel
theorem dL_law_904 : decode cL_law 904 = .ok (.iadd, 1) := by decide +kernel
theorem dL_law_905 : decode cL_law 905 = .ok (.iaload, 1) := by decide +kernel
theorem dL_law_906 : decode cL_law 906 = .ok (.ifCond .eq 7, 3) := by decide +kernel
theorem dL_law_909 : decode cL_law 909 = .ok (.iconst 1, 1) := by decide +kernel
theorem dL_law_910 : decode cL_law 910 = .ok (.goto 4, 3) := by decide +kernel
theorem dL_law_913 : decode cL_law 913 = .ok (.iconst 0, 1) := by decide +kernel
theorem dL_law_914 : decode cL_law 914 = .ok (.invokevirtual 104, 3) := by decide +kernel
theorem dL_law_917 : decode cL_law 917 = .ok (.aload_n 2, 1) := by decide +kernel
theorem dL_law_918 : decode cL_law 918 = .ok (.aload_n 0, 1) := by decide +kernel
theorem dL_law_919 : decode cL_law 919 = .ok (.iload_n 3, 1) := by decide +kernel
theorem dL_law_920 : decode cL_law 920 = .ok (.iconst 1, 1) := by decide +kernel
theorem dL_law_921 : decode cL_law 921 = .ok (.iadd, 1) := by decide +kernel
theorem dL_law_922 : decode cL_law 922 = .ok (.iaload, 1) := by decide +kernel
theorem dL_law_923 : decode cL_law 923 = .ok (.aload_n 0, 1) := by decide +kernel
theorem dL_law_924 : decode cL_law 924 = .ok (.iload_n 3, 1) := by decide +kernel
theorem dL_law_925 : decode cL_law 925 = .ok (.iconst 2, 1) := by decide +kernel
theorem dL_law_926 : decode cL_law 926 = .ok (.iadd, 1) := by decide +kernel
theorem dL_law_927 : decode cL_law 927 = .ok (.iaload, 1) := by decide +kernel
theorem dL_law_928 : decode cL_law 928 = .ok (.aload_n 0, 1) := by decide +kernel
theorem dL_law_929 : decode cL_law 929 = .ok (.iload_n 3, 1) := by decide +kernel
theorem dL_law_930 : decode cL_law 930 = .ok (.iconst 3, 1) := by decide +kernel
theorem dL_law_931 : decode cL_law 931 = .ok (.iadd, 1) := by decide +kernel
theorem dL_law_932 : decode cL_law 932 = .ok (.iaload, 1) := by decide +kernel
theorem dL_law_933 : decode cL_law 933 = .ok (.ifCond .eq 7, 3) := by decide +kernel
theorem dL_law_936 : decode cL_law 936 = .ok (.iconst 1, 1) := by decide +kernel
theorem dL_law_937 : decode cL_law 937 = .ok (.goto 4, 3) := by decide +kernel
theorem dL_law_940 : decode cL_law 940 = .ok (.iconst 0, 1) := by decide +kernel
theorem dL_law_941 : decode cL_law 941 = .ok (.invokevirtual 108, 3) := by decide +kernel
theorem dL_law_944 : decode cL_law 944 = .ok (.if_icmp .eq 464, 3) := by decide +kernel
theorem dL_law_947 : decode cL_law 947 = .ok (.iconst 0, 1) := by decide +kernel
theorem dL_law_948 : decode cL_law 948 = .ok (.ireturn, 1) := by decide +kernel
theorem dL_law_949 : decode cL_law 949 = .ok (.aload_n 1, 1) := by decide +kernel
theorem dL_law_950 : decode cL_law 950 = .ok (.aload_n 0, 1) := by decide +kernel
theorem dL_law_951 : decode cL_law 951 = .ok (.iload_n 3, 1) := by decide +kernel
theorem dL_law_952 : decode cL_law 952 = .ok (.iconst 1, 1) := by decide +kernel
theorem dL_law_953 : decode cL_law 953 = .ok (.iadd, 1) := by decide +kernel
theorem dL_law_954 : decode cL_law 954 = .ok (.iaload, 1) := by decide +kernel
theorem dL_law_955 : decode cL_law 955 = .ok (.aload_n 0, 1) := by decide +kernel
theorem dL_law_956 : decode cL_law 956 = .ok (.iload_n 3, 1) := by decide +kernel
theorem dL_law_957 : decode cL_law 957 = .ok (.iconst 2, 1) := by decide +kernel
theorem dL_law_958 : decode cL_law 958 = .ok (.iadd, 1) := by decide +kernel
theorem dL_law_959 : decode cL_law 959 = .ok (.iaload, 1) := by decide +kernel
theorem dL_law_960 : decode cL_law 960 = .ok (.invokevirtual 109, 3) := by decide +kernel
theorem dL_law_963 : decode cL_law 963 = .ok (.aload_n 2, 1) := by decide +kernel
theorem dL_law_964 : decode cL_law 964 = .ok (.aload_n 0, 1) := by decide +kernel
theorem dL_law_965 : decode cL_law 965 = .ok (.iload_n 3, 1) := by decide +kernel
theorem dL_law_966 : decode cL_law 966 = .ok (.iconst 1, 1) := by decide +kernel
theorem dL_law_967 : decode cL_law 967 = .ok (.iadd, 1) := by decide +kernel
theorem dL_law_968 : decode cL_law 968 = .ok (.iaload, 1) := by decide +kernel
theorem dL_law_969 : decode cL_law 969 = .ok (.aload_n 0, 1) := by decide +kernel
theorem dL_law_970 : decode cL_law 970 = .ok (.iload_n 3, 1) := by decide +kernel
theorem dL_law_971 : decode cL_law 971 = .ok (.iconst 2, 1) := by decide +kernel
theorem dL_law_972 : decode cL_law 972 = .ok (.iadd, 1) := by decide +kernel
theorem dL_law_973 : decode cL_law 973 = .ok (.iaload, 1) := by decide +kernel
theorem dL_law_974 : decode cL_law 974 = .ok (.invokevirtual 112, 3) := by decide +kernel
theorem dL_law_977 : decode cL_law 977 = .ok (.if_icmp .eq 431, 3) := by decide +kernel
theorem dL_law_980 : decode cL_law 980 = .ok (.iconst 0, 1) := by decide +kernel
theorem dL_law_981 : decode cL_law 981 = .ok (.ireturn, 1) := by decide +kernel
theorem dL_law_982 : decode cL_law 982 = .ok (.aload_n 1, 1) := by decide +kernel
theorem dL_law_983 : decode cL_law 983 = .ok (.aload_n 0, 1) := by decide +kernel
theorem dL_law_984 : decode cL_law 984 = .ok (.iload_n 3, 1) := by decide +kernel
theorem dL_law_985 : decode cL_law 985 = .ok (.iconst 1, 1) := by decide +kernel
theorem dL_law_986 : decode cL_law 986 = .ok (.iadd, 1) := by decide +kernel
theorem dL_law_987 : decode cL_law 987 = .ok (.iaload, 1) := by decide +kernel
theorem dL_law_988 : decode cL_law 988 = .ok (.invokevirtual 113, 3) := by decide +kernel
theorem dL_law_991 : decode cL_law 991 = .ok (.aload_n 2, 1) := by decide +kernel
theorem dL_law_992 : decode cL_law 992 = .ok (.aload_n 0, 1) := by decide +kernel
theorem dL_law_993 : decode cL_law 993 = .ok (.iload_n 3, 1) := by decide +kernel
theorem dL_law_994 : decode cL_law 994 = .ok (.iconst 1, 1) := by decide +kernel
theorem dL_law_995 : decode cL_law 995 = .ok (.iadd, 1) := by decide +kernel
theorem dL_law_996 : decode cL_law 996 = .ok (.iaload, 1) := by decide +kernel
theorem dL_law_997 : decode cL_law 997 = .ok (.invokevirtual 116, 3) := by decide +kernel
theorem dL_law_1000 : decode cL_law 1000 = .ok (.if_icmp .eq 408, 3) := by decide +kernel
theorem dL_law_1003 : decode cL_law 1003 = .ok (.iconst 0, 1) := by decide +kernel
theorem dL_law_1004 : decode cL_law 1004 = .ok (.ireturn, 1) := by decide +kernel
theorem dL_law_1005 : decode cL_law 1005 = .ok (.aload_n 1, 1) := by decide +kernel
theorem dL_law_1006 : decode cL_law 1006 = .ok (.aload_n 0, 1) := by decide +kernel
theorem dL_law_1007 : decode cL_law 1007 = .ok (.iload_n 3, 1) := by decide +kernel
theorem dL_law_1008 : decode cL_law 1008 = .ok (.iconst 1, 1) := by decide +kernel
theorem dL_law_1009 : decode cL_law 1009 = .ok (.iadd, 1) := by decide +kernel
theorem dL_law_1010 : decode cL_law 1010 = .ok (.iaload, 1) := by decide +kernel
theorem dL_law_1011 : decode cL_law 1011 = .ok (.aload_n 0, 1) := by decide +kernel
theorem dL_law_1012 : decode cL_law 1012 = .ok (.iload_n 3, 1) := by decide +kernel
theorem dL_law_1013 : decode cL_law 1013 = .ok (.iconst 2, 1) := by decide +kernel
theorem dL_law_1014 : decode cL_law 1014 = .ok (.iadd, 1) := by decide +kernel
theorem dL_law_1015 : decode cL_law 1015 = .ok (.iaload, 1) := by decide +kernel
theorem dL_law_1016 : decode cL_law 1016 = .ok (.aload_n 0, 1) := by decide +kernel
theorem dL_law_1017 : decode cL_law 1017 = .ok (.iload_n 3, 1) := by decide +kernel
theorem dL_law_1018 : decode cL_law 1018 = .ok (.iconst 3, 1) := by decide +kernel
theorem dL_law_1019 : decode cL_law 1019 = .ok (.iadd, 1) := by decide +kernel
theorem dL_law_1020 : decode cL_law 1020 = .ok (.iaload, 1) := by decide +kernel
theorem dL_law_1021 : decode cL_law 1021 = .ok (.invokevirtual 117, 3) := by decide +kernel
theorem dL_law_1024 : decode cL_law 1024 = .ok (.aload_n 2, 1) := by decide +kernel
theorem dL_law_1025 : decode cL_law 1025 = .ok (.aload_n 0, 1) := by decide +kernel
theorem dL_law_1026 : decode cL_law 1026 = .ok (.iload_n 3, 1) := by decide +kernel
theorem dL_law_1027 : decode cL_law 1027 = .ok (.iconst 1, 1) := by decide +kernel
theorem dL_law_1028 : decode cL_law 1028 = .ok (.iadd, 1) := by decide +kernel
theorem dL_law_1029 : decode cL_law 1029 = .ok (.iaload, 1) := by decide +kernel
theorem dL_law_1030 : decode cL_law 1030 = .ok (.aload_n 0, 1) := by decide +kernel
theorem dL_law_1031 : decode cL_law 1031 = .ok (.iload_n 3, 1) := by decide +kernel
theorem dL_law_1032 : decode cL_law 1032 = .ok (.iconst 2, 1) := by decide +kernel
theorem dL_law_1033 : decode cL_law 1033 = .ok (.iadd, 1) := by decide +kernel
theorem dL_law_1034 : decode cL_law 1034 = .ok (.iaload, 1) := by decide +kernel
theorem dL_law_1035 : decode cL_law 1035 = .ok (.aload_n 0, 1) := by decide +kernel
theorem dL_law_1036 : decode cL_law 1036 = .ok (.iload_n 3, 1) := by decide +kernel
theorem dL_law_1037 : decode cL_law 1037 = .ok (.iconst 3, 1) := by decide +kernel
theorem dL_law_1038 : decode cL_law 1038 = .ok (.iadd, 1) := by decide +kernel
theorem dL_law_1039 : decode cL_law 1039 = .ok (.iaload, 1) := by decide +kernel
theorem dL_law_1040 : decode cL_law 1040 = .ok (.invokevirtual 120, 3) := by decide +kernel
theorem dL_law_1043 : decode cL_law 1043 = .ok (.if_icmp .eq 365, 3) := by decide +kernel
theorem dL_law_1046 : decode cL_law 1046 = .ok (.iconst 0, 1) := by decide +kernel
theorem dL_law_1047 : decode cL_law 1047 = .ok (.ireturn, 1) := by decide +kernel
theorem dL_law_1048 : decode cL_law 1048 = .ok (.aload_n 1, 1) := by decide +kernel
theorem dL_law_1049 : decode cL_law 1049 = .ok (.aload_n 0, 1) := by decide +kernel
theorem dL_law_1050 : decode cL_law 1050 = .ok (.iload_n 3, 1) := by decide +kernel
theorem dL_law_1051 : decode cL_law 1051 = .ok (.iconst 1, 1) := by decide +kernel
theorem dL_law_1052 : decode cL_law 1052 = .ok (.iadd, 1) := by decide +kernel
theorem dL_law_1053 : decode cL_law 1053 = .ok (.iaload, 1) := by decide +kernel
theorem dL_law_1054 : decode cL_law 1054 = .ok (.aload_n 0, 1) := by decide +kernel
theorem dL_law_1055 : decode cL_law 1055 = .ok (.iload_n 3, 1) := by decide +kernel
theorem dL_law_1056 : decode cL_law 1056 = .ok (.iconst 2, 1) := by decide +kernel
theorem dL_law_1057 : decode cL_law 1057 = .ok (.iadd, 1) := by decide +kernel
theorem dL_law_1058 : decode cL_law 1058 = .ok (.iaload, 1) := by decide +kernel
theorem dL_law_1059 : decode cL_law 1059 = .ok (.aload_n 0, 1) := by decide +kernel
theorem dL_law_1060 : decode cL_law 1060 = .ok (.iload_n 3, 1) := by decide +kernel
theorem dL_law_1061 : decode cL_law 1061 = .ok (.iconst 3, 1) := by decide +kernel
theorem dL_law_1062 : decode cL_law 1062 = .ok (.iadd, 1) := by decide +kernel
theorem dL_law_1063 : decode cL_law 1063 = .ok (.iaload, 1) := by decide +kernel
theorem dL_law_1064 : decode cL_law 1064 = .ok (.invokevirtual 121, 3) := by decide +kernel
theorem dL_law_1067 : decode cL_law 1067 = .ok (.aload_n 2, 1) := by decide +kernel
theorem dL_law_1068 : decode cL_law 1068 = .ok (.aload_n 0, 1) := by decide +kernel
theorem dL_law_1069 : decode cL_law 1069 = .ok (.iload_n 3, 1) := by decide +kernel
theorem dL_law_1070 : decode cL_law 1070 = .ok (.iconst 1, 1) := by decide +kernel
theorem dL_law_1071 : decode cL_law 1071 = .ok (.iadd, 1) := by decide +kernel
theorem dL_law_1072 : decode cL_law 1072 = .ok (.iaload, 1) := by decide +kernel
theorem dL_law_1073 : decode cL_law 1073 = .ok (.aload_n 0, 1) := by decide +kernel
theorem dL_law_1074 : decode cL_law 1074 = .ok (.iload_n 3, 1) := by decide +kernel
theorem dL_law_1075 : decode cL_law 1075 = .ok (.iconst 2, 1) := by decide +kernel
theorem dL_law_1076 : decode cL_law 1076 = .ok (.iadd, 1) := by decide +kernel
theorem dL_law_1077 : decode cL_law 1077 = .ok (.iaload, 1) := by decide +kernel
theorem dL_law_1078 : decode cL_law 1078 = .ok (.aload_n 0, 1) := by decide +kernel
theorem dL_law_1079 : decode cL_law 1079 = .ok (.iload_n 3, 1) := by decide +kernel
theorem dL_law_1080 : decode cL_law 1080 = .ok (.iconst 3, 1) := by decide +kernel
theorem dL_law_1081 : decode cL_law 1081 = .ok (.iadd, 1) := by decide +kernel
theorem dL_law_1082 : decode cL_law 1082 = .ok (.iaload, 1) := by decide +kernel
theorem dL_law_1083 : decode cL_law 1083 = .ok (.invokevirtual 124, 3) := by decide +kernel
theorem dL_law_1086 : decode cL_law 1086 = .ok (.if_icmp .eq 322, 3) := by decide +kernel
theorem dL_law_1089 : decode cL_law 1089 = .ok (.iconst 0, 1) := by decide +kernel
theorem dL_law_1090 : decode cL_law 1090 = .ok (.ireturn, 1) := by decide +kernel
theorem dL_law_1091 : decode cL_law 1091 = .ok (.aload_n 1, 1) := by decide +kernel
theorem dL_law_1092 : decode cL_law 1092 = .ok (.aload_n 0, 1) := by decide +kernel
theorem dL_law_1093 : decode cL_law 1093 = .ok (.iload_n 3, 1) := by decide +kernel
theorem dL_law_1094 : decode cL_law 1094 = .ok (.iconst 1, 1) := by decide +kernel
theorem dL_law_1095 : decode cL_law 1095 = .ok (.iadd, 1) := by decide +kernel
theorem dL_law_1096 : decode cL_law 1096 = .ok (.iaload, 1) := by decide +kernel
theorem dL_law_1097 : decode cL_law 1097 = .ok (.aload_n 0, 1) := by decide +kernel
theorem dL_law_1098 : decode cL_law 1098 = .ok (.iload_n 3, 1) := by decide +kernel
theorem dL_law_1099 : decode cL_law 1099 = .ok (.iconst 2, 1) := by decide +kernel
theorem dL_law_1100 : decode cL_law 1100 = .ok (.iadd, 1) := by decide +kernel
theorem dL_law_1101 : decode cL_law 1101 = .ok (.iaload, 1) := by decide +kernel
theorem dL_law_1102 : decode cL_law 1102 = .ok (.aload_n 0, 1) := by decide +kernel
theorem dL_law_1103 : decode cL_law 1103 = .ok (.iload_n 3, 1) := by decide +kernel
theorem dL_law_1104 : decode cL_law 1104 = .ok (.iconst 3, 1) := by decide +kernel
theorem dL_law_1105 : decode cL_law 1105 = .ok (.iadd, 1) := by decide +kernel
theorem dL_law_1106 : decode cL_law 1106 = .ok (.iaload, 1) := by decide +kernel
theorem dL_law_1107 : decode cL_law 1107 = .ok (.aload_n 0, 1) := by decide +kernel
theorem dL_law_1108 : decode cL_law 1108 = .ok (.iload_n 3, 1) := by decide +kernel
theorem dL_law_1109 : decode cL_law 1109 = .ok (.iconst 4, 1) := by decide +kernel
theorem dL_law_1110 : decode cL_law 1110 = .ok (.iadd, 1) := by decide +kernel
theorem dL_law_1111 : decode cL_law 1111 = .ok (.iaload, 1) := by decide +kernel
theorem dL_law_1112 : decode cL_law 1112 = .ok (.invokevirtual 125, 3) := by decide +kernel
theorem dL_law_1115 : decode cL_law 1115 = .ok (.aload_n 2, 1) := by decide +kernel
theorem dL_law_1116 : decode cL_law 1116 = .ok (.aload_n 0, 1) := by decide +kernel
theorem dL_law_1117 : decode cL_law 1117 = .ok (.iload_n 3, 1) := by decide +kernel
theorem dL_law_1118 : decode cL_law 1118 = .ok (.iconst 1, 1) := by decide +kernel
theorem dL_law_1119 : decode cL_law 1119 = .ok (.iadd, 1) := by decide +kernel
theorem dL_law_1120 : decode cL_law 1120 = .ok (.iaload, 1) := by decide +kernel
theorem dL_law_1121 : decode cL_law 1121 = .ok (.aload_n 0, 1) := by decide +kernel
theorem dL_law_1122 : decode cL_law 1122 = .ok (.iload_n 3, 1) := by decide +kernel
theorem dL_law_1123 : decode cL_law 1123 = .ok (.iconst 2, 1) := by decide +kernel
theorem dL_law_1124 : decode cL_law 1124 = .ok (.iadd, 1) := by decide +kernel
theorem dL_law_1125 : decode cL_law 1125 = .ok (.iaload, 1) := by decide +kernel
theorem dL_law_1126 : decode cL_law 1126 = .ok (.aload_n 0, 1) := by decide +kernel
theorem dL_law_1127 : decode cL_law 1127 = .ok (.iload_n 3, 1) := by decide +kernel
theorem dL_law_1128 : decode cL_law 1128 = .ok (.iconst 3, 1) := by decide +kernel
theorem dL_law_1129 : decode cL_law 1129 = .ok (.iadd, 1) := by decide +kernel
theorem dL_law_1130 : decode cL_law 1130 = .ok (.iaload, 1) := by decide +kernel
theorem dL_law_1131 : decode cL_law 1131 = .ok (.aload_n 0, 1) := by decide +kernel
theorem dL_law_1132 : decode cL_law 1132 = .ok (.iload_n 3, 1) := by decide +kernel
theorem dL_law_1133 : decode cL_law 1133 = .ok (.iconst 4, 1) := by decide +kernel
theorem dL_law_1134 : decode cL_law 1134 = .ok (.iadd, 1) := by decide +kernel
theorem dL_law_1135 : decode cL_law 1135 = .ok (.iaload, 1) := by decide +kernel
theorem dL_law_1136 : decode cL_law 1136 = .ok (.invokevirtual 129, 3) := by decide +kernel
theorem dL_law_1139 : decode cL_law 1139 = .ok (.if_icmp .eq 269, 3) := by decide +kernel
theorem dL_law_1142 : decode cL_law 1142 = .ok (.iconst 0, 1) := by decide +kernel
theorem dL_law_1143 : decode cL_law 1143 = .ok (.ireturn, 1) := by decide +kernel
theorem dL_law_1144 : decode cL_law 1144 = .ok (.aload_n 1, 1) := by decide +kernel
theorem dL_law_1145 : decode cL_law 1145 = .ok (.aload_n 0, 1) := by decide +kernel
theorem dL_law_1146 : decode cL_law 1146 = .ok (.iload_n 3, 1) := by decide +kernel
theorem dL_law_1147 : decode cL_law 1147 = .ok (.iconst 1, 1) := by decide +kernel
theorem dL_law_1148 : decode cL_law 1148 = .ok (.iadd, 1) := by decide +kernel
theorem dL_law_1149 : decode cL_law 1149 = .ok (.iaload, 1) := by decide +kernel
theorem dL_law_1150 : decode cL_law 1150 = .ok (.invokevirtual 130, 3) := by decide +kernel
theorem dL_law_1153 : decode cL_law 1153 = .ok (.aload_n 2, 1) := by decide +kernel
theorem dL_law_1154 : decode cL_law 1154 = .ok (.aload_n 0, 1) := by decide +kernel
theorem dL_law_1155 : decode cL_law 1155 = .ok (.iload_n 3, 1) := by decide +kernel
theorem dL_law_1156 : decode cL_law 1156 = .ok (.iconst 1, 1) := by decide +kernel
theorem dL_law_1157 : decode cL_law 1157 = .ok (.iadd, 1) := by decide +kernel
theorem dL_law_1158 : decode cL_law 1158 = .ok (.iaload, 1) := by decide +kernel
theorem dL_law_1159 : decode cL_law 1159 = .ok (.invokevirtual 133, 3) := by decide +kernel
theorem dL_law_1162 : decode cL_law 1162 = .ok (.if_icmp .eq 246, 3) := by decide +kernel
theorem dL_law_1165 : decode cL_law 1165 = .ok (.iconst 0, 1) := by decide +kernel
theorem dL_law_1166 : decode cL_law 1166 = .ok (.ireturn, 1) := by decide +kernel
theorem dL_law_1167 : decode cL_law 1167 = .ok (.aload_n 1, 1) := by decide +kernel
theorem dL_law_1168 : decode cL_law 1168 = .ok (.aload_n 0, 1) := by decide +kernel
theorem dL_law_1169 : decode cL_law 1169 = .ok (.iload_n 3, 1) := by decide +kernel
theorem dL_law_1170 : decode cL_law 1170 = .ok (.iconst 1, 1) := by decide +kernel
theorem dL_law_1171 : decode cL_law 1171 = .ok (.iadd, 1) := by decide +kernel
theorem dL_law_1172 : decode cL_law 1172 = .ok (.iaload, 1) := by decide +kernel
theorem dL_law_1173 : decode cL_law 1173 = .ok (.aload_n 0, 1) := by decide +kernel
theorem dL_law_1174 : decode cL_law 1174 = .ok (.iload_n 3, 1) := by decide +kernel
theorem dL_law_1175 : decode cL_law 1175 = .ok (.iconst 2, 1) := by decide +kernel
theorem dL_law_1176 : decode cL_law 1176 = .ok (.iadd, 1) := by decide +kernel
theorem dL_law_1177 : decode cL_law 1177 = .ok (.iaload, 1) := by decide +kernel
theorem dL_law_1178 : decode cL_law 1178 = .ok (.invokevirtual 134, 3) := by decide +kernel
theorem dL_law_1181 : decode cL_law 1181 = .ok (.aload_n 2, 1) := by decide +kernel
theorem dL_law_1182 : decode cL_law 1182 = .ok (.aload_n 0, 1) := by decide +kernel
theorem dL_law_1183 : decode cL_law 1183 = .ok (.iload_n 3, 1) := by decide +kernel
theorem dL_law_1184 : decode cL_law 1184 = .ok (.iconst 1, 1) := by decide +kernel
theorem dL_law_1185 : decode cL_law 1185 = .ok (.iadd, 1) := by decide +kernel
theorem dL_law_1186 : decode cL_law 1186 = .ok (.iaload, 1) := by decide +kernel
theorem dL_law_1187 : decode cL_law 1187 = .ok (.aload_n 0, 1) := by decide +kernel
theorem dL_law_1188 : decode cL_law 1188 = .ok (.iload_n 3, 1) := by decide +kernel
theorem dL_law_1189 : decode cL_law 1189 = .ok (.iconst 2, 1) := by decide +kernel
theorem dL_law_1190 : decode cL_law 1190 = .ok (.iadd, 1) := by decide +kernel
theorem dL_law_1191 : decode cL_law 1191 = .ok (.iaload, 1) := by decide +kernel
theorem dL_law_1192 : decode cL_law 1192 = .ok (.invokevirtual 137, 3) := by decide +kernel
theorem dL_law_1195 : decode cL_law 1195 = .ok (.if_icmp .eq 213, 3) := by decide +kernel
theorem dL_law_1198 : decode cL_law 1198 = .ok (.iconst 0, 1) := by decide +kernel
theorem dL_law_1199 : decode cL_law 1199 = .ok (.ireturn, 1) := by decide +kernel
theorem dL_law_1200 : decode cL_law 1200 = .ok (.aload_n 1, 1) := by decide +kernel
theorem dL_law_1201 : decode cL_law 1201 = .ok (.aload_n 0, 1) := by decide +kernel
theorem dL_law_1202 : decode cL_law 1202 = .ok (.iload_n 3, 1) := by decide +kernel
theorem dL_law_1203 : decode cL_law 1203 = .ok (.iconst 1, 1) := by decide +kernel
theorem dL_law_1204 : decode cL_law 1204 = .ok (.iadd, 1) := by decide +kernel
theorem dL_law_1205 : decode cL_law 1205 = .ok (.iaload, 1) := by decide +kernel
theorem dL_law_1206 : decode cL_law 1206 = .ok (.invokevirtual 138, 3) := by decide +kernel
theorem dL_law_1209 : decode cL_law 1209 = .ok (.aload_n 2, 1) := by decide +kernel
theorem dL_law_1210 : decode cL_law 1210 = .ok (.aload_n 0, 1) := by decide +kernel
theorem dL_law_1211 : decode cL_law 1211 = .ok (.iload_n 3, 1) := by decide +kernel
theorem dL_law_1212 : decode cL_law 1212 = .ok (.iconst 1, 1) := by decide +kernel
theorem dL_law_1213 : decode cL_law 1213 = .ok (.iadd, 1) := by decide +kernel
theorem dL_law_1214 : decode cL_law 1214 = .ok (.iaload, 1) := by decide +kernel
theorem dL_law_1215 : decode cL_law 1215 = .ok (.invokevirtual 141, 3) := by decide +kernel
theorem dL_law_1218 : decode cL_law 1218 = .ok (.if_icmp .eq 190, 3) := by decide +kernel
theorem dL_law_1221 : decode cL_law 1221 = .ok (.iconst 0, 1) := by decide +kernel
theorem dL_law_1222 : decode cL_law 1222 = .ok (.ireturn, 1) := by decide +kernel
theorem dL_law_1223 : decode cL_law 1223 = .ok (.aload_n 1, 1) := by decide +kernel
theorem dL_law_1224 : decode cL_law 1224 = .ok (.aload_n 0, 1) := by decide +kernel
theorem dL_law_1225 : decode cL_law 1225 = .ok (.iload_n 3, 1) := by decide +kernel
theorem dL_law_1226 : decode cL_law 1226 = .ok (.iconst 1, 1) := by decide +kernel
theorem dL_law_1227 : decode cL_law 1227 = .ok (.iadd, 1) := by decide +kernel
theorem dL_law_1228 : decode cL_law 1228 = .ok (.iaload, 1) := by decide +kernel
theorem dL_law_1229 : decode cL_law 1229 = .ok (.aload_n 0, 1) := by decide +kernel
theorem dL_law_1230 : decode cL_law 1230 = .ok (.iload_n 3, 1) := by decide +kernel
theorem dL_law_1231 : decode cL_law 1231 = .ok (.iconst 2, 1) := by decide +kernel
theorem dL_law_1232 : decode cL_law 1232 = .ok (.iadd, 1) := by decide +kernel
theorem dL_law_1233 : decode cL_law 1233 = .ok (.iaload, 1) := by decide +kernel
theorem dL_law_1234 : decode cL_law 1234 = .ok (.aload_n 0, 1) := by decide +kernel
theorem dL_law_1235 : decode cL_law 1235 = .ok (.iload_n 3, 1) := by decide +kernel
theorem dL_law_1236 : decode cL_law 1236 = .ok (.iconst 3, 1) := by decide +kernel
theorem dL_law_1237 : decode cL_law 1237 = .ok (.iadd, 1) := by decide +kernel
theorem dL_law_1238 : decode cL_law 1238 = .ok (.iaload, 1) := by decide +kernel
theorem dL_law_1239 : decode cL_law 1239 = .ok (.invokevirtual 142, 3) := by decide +kernel
theorem dL_law_1242 : decode cL_law 1242 = .ok (.aload_n 2, 1) := by decide +kernel
theorem dL_law_1243 : decode cL_law 1243 = .ok (.aload_n 0, 1) := by decide +kernel
theorem dL_law_1244 : decode cL_law 1244 = .ok (.iload_n 3, 1) := by decide +kernel
theorem dL_law_1245 : decode cL_law 1245 = .ok (.iconst 1, 1) := by decide +kernel
theorem dL_law_1246 : decode cL_law 1246 = .ok (.iadd, 1) := by decide +kernel
theorem dL_law_1247 : decode cL_law 1247 = .ok (.iaload, 1) := by decide +kernel
theorem dL_law_1248 : decode cL_law 1248 = .ok (.aload_n 0, 1) := by decide +kernel
theorem dL_law_1249 : decode cL_law 1249 = .ok (.iload_n 3, 1) := by decide +kernel
theorem dL_law_1250 : decode cL_law 1250 = .ok (.iconst 2, 1) := by decide +kernel
theorem dL_law_1251 : decode cL_law 1251 = .ok (.iadd, 1) := by decide +kernel
theorem dL_law_1252 : decode cL_law 1252 = .ok (.iaload, 1) := by decide +kernel
theorem dL_law_1253 : decode cL_law 1253 = .ok (.aload_n 0, 1) := by decide +kernel
theorem dL_law_1254 : decode cL_law 1254 = .ok (.iload_n 3, 1) := by decide +kernel
theorem dL_law_1255 : decode cL_law 1255 = .ok (.iconst 3, 1) := by decide +kernel
theorem dL_law_1256 : decode cL_law 1256 = .ok (.iadd, 1) := by decide +kernel
theorem dL_law_1257 : decode cL_law 1257 = .ok (.iaload, 1) := by decide +kernel
theorem dL_law_1258 : decode cL_law 1258 = .ok (.invokevirtual 145, 3) := by decide +kernel
theorem dL_law_1261 : decode cL_law 1261 = .ok (.if_icmp .eq 147, 3) := by decide +kernel
theorem dL_law_1264 : decode cL_law 1264 = .ok (.iconst 0, 1) := by decide +kernel
theorem dL_law_1265 : decode cL_law 1265 = .ok (.ireturn, 1) := by decide +kernel
theorem dL_law_1266 : decode cL_law 1266 = .ok (.aload_n 1, 1) := by decide +kernel
theorem dL_law_1267 : decode cL_law 1267 = .ok (.aload_n 0, 1) := by decide +kernel
theorem dL_law_1268 : decode cL_law 1268 = .ok (.iload_n 3, 1) := by decide +kernel
theorem dL_law_1269 : decode cL_law 1269 = .ok (.iconst 1, 1) := by decide +kernel
theorem dL_law_1270 : decode cL_law 1270 = .ok (.iadd, 1) := by decide +kernel
theorem dL_law_1271 : decode cL_law 1271 = .ok (.iaload, 1) := by decide +kernel
theorem dL_law_1272 : decode cL_law 1272 = .ok (.aload_n 0, 1) := by decide +kernel
theorem dL_law_1273 : decode cL_law 1273 = .ok (.iload_n 3, 1) := by decide +kernel
theorem dL_law_1274 : decode cL_law 1274 = .ok (.iconst 2, 1) := by decide +kernel
theorem dL_law_1275 : decode cL_law 1275 = .ok (.iadd, 1) := by decide +kernel
theorem dL_law_1276 : decode cL_law 1276 = .ok (.iaload, 1) := by decide +kernel
theorem dL_law_1277 : decode cL_law 1277 = .ok (.aload_n 0, 1) := by decide +kernel
theorem dL_law_1278 : decode cL_law 1278 = .ok (.iload_n 3, 1) := by decide +kernel
theorem dL_law_1279 : decode cL_law 1279 = .ok (.iconst 3, 1) := by decide +kernel
theorem dL_law_1280 : decode cL_law 1280 = .ok (.iadd, 1) := by decide +kernel
theorem dL_law_1281 : decode cL_law 1281 = .ok (.iaload, 1) := by decide +kernel
theorem dL_law_1282 : decode cL_law 1282 = .ok (.invokevirtual 146, 3) := by decide +kernel
theorem dL_law_1285 : decode cL_law 1285 = .ok (.aload_n 2, 1) := by decide +kernel
theorem dL_law_1286 : decode cL_law 1286 = .ok (.aload_n 0, 1) := by decide +kernel
theorem dL_law_1287 : decode cL_law 1287 = .ok (.iload_n 3, 1) := by decide +kernel
theorem dL_law_1288 : decode cL_law 1288 = .ok (.iconst 1, 1) := by decide +kernel
theorem dL_law_1289 : decode cL_law 1289 = .ok (.iadd, 1) := by decide +kernel
theorem dL_law_1290 : decode cL_law 1290 = .ok (.iaload, 1) := by decide +kernel
theorem dL_law_1291 : decode cL_law 1291 = .ok (.aload_n 0, 1) := by decide +kernel
theorem dL_law_1292 : decode cL_law 1292 = .ok (.iload_n 3, 1) := by decide +kernel
theorem dL_law_1293 : decode cL_law 1293 = .ok (.iconst 2, 1) := by decide +kernel
theorem dL_law_1294 : decode cL_law 1294 = .ok (.iadd, 1) := by decide +kernel
theorem dL_law_1295 : decode cL_law 1295 = .ok (.iaload, 1) := by decide +kernel
theorem dL_law_1296 : decode cL_law 1296 = .ok (.aload_n 0, 1) := by decide +kernel
theorem dL_law_1297 : decode cL_law 1297 = .ok (.iload_n 3, 1) := by decide +kernel
theorem dL_law_1298 : decode cL_law 1298 = .ok (.iconst 3, 1) := by decide +kernel
theorem dL_law_1299 : decode cL_law 1299 = .ok (.iadd, 1) := by decide +kernel
theorem dL_law_1300 : decode cL_law 1300 = .ok (.iaload, 1) := by decide +kernel
theorem dL_law_1301 : decode cL_law 1301 = .ok (.invokevirtual 149, 3) := by decide +kernel
theorem dL_law_1304 : decode cL_law 1304 = .ok (.if_icmp .eq 104, 3) := by decide +kernel
theorem dL_law_1307 : decode cL_law 1307 = .ok (.iconst 0, 1) := by decide +kernel
theorem dL_law_1308 : decode cL_law 1308 = .ok (.ireturn, 1) := by decide +kernel
theorem dL_law_1309 : decode cL_law 1309 = .ok (.aload_n 1, 1) := by decide +kernel
theorem dL_law_1310 : decode cL_law 1310 = .ok (.aload_n 0, 1) := by decide +kernel
theorem dL_law_1311 : decode cL_law 1311 = .ok (.iload_n 3, 1) := by decide +kernel
theorem dL_law_1312 : decode cL_law 1312 = .ok (.iconst 1, 1) := by decide +kernel
theorem dL_law_1313 : decode cL_law 1313 = .ok (.iadd, 1) := by decide +kernel
theorem dL_law_1314 : decode cL_law 1314 = .ok (.iaload, 1) := by decide +kernel
theorem dL_law_1315 : decode cL_law 1315 = .ok (.aload_n 0, 1) := by decide +kernel
theorem dL_law_1316 : decode cL_law 1316 = .ok (.iload_n 3, 1) := by decide +kernel
theorem dL_law_1317 : decode cL_law 1317 = .ok (.iconst 2, 1) := by decide +kernel
theorem dL_law_1318 : decode cL_law 1318 = .ok (.iadd, 1) := by decide +kernel
theorem dL_law_1319 : decode cL_law 1319 = .ok (.iaload, 1) := by decide +kernel
theorem dL_law_1320 : decode cL_law 1320 = .ok (.aload_n 0, 1) := by decide +kernel
theorem dL_law_1321 : decode cL_law 1321 = .ok (.iload_n 3, 1) := by decide +kernel
theorem dL_law_1322 : decode cL_law 1322 = .ok (.iconst 3, 1) := by decide +kernel
theorem dL_law_1323 : decode cL_law 1323 = .ok (.iadd, 1) := by decide +kernel
theorem dL_law_1324 : decode cL_law 1324 = .ok (.iaload, 1) := by decide +kernel
theorem dL_law_1325 : decode cL_law 1325 = .ok (.aload_n 0, 1) := by decide +kernel
theorem dL_law_1326 : decode cL_law 1326 = .ok (.iload_n 3, 1) := by decide +kernel
theorem dL_law_1327 : decode cL_law 1327 = .ok (.iconst 4, 1) := by decide +kernel
theorem dL_law_1328 : decode cL_law 1328 = .ok (.iadd, 1) := by decide +kernel
theorem dL_law_1329 : decode cL_law 1329 = .ok (.iaload, 1) := by decide +kernel
theorem dL_law_1330 : decode cL_law 1330 = .ok (.aload_n 0, 1) := by decide +kernel
theorem dL_law_1331 : decode cL_law 1331 = .ok (.iload_n 3, 1) := by decide +kernel
theorem dL_law_1332 : decode cL_law 1332 = .ok (.iconst 5, 1) := by decide +kernel
theorem dL_law_1333 : decode cL_law 1333 = .ok (.iadd, 1) := by decide +kernel
theorem dL_law_1334 : decode cL_law 1334 = .ok (.iaload, 1) := by decide +kernel
theorem dL_law_1335 : decode cL_law 1335 = .ok (.invokevirtual 150, 3) := by decide +kernel
theorem dL_law_1338 : decode cL_law 1338 = .ok (.aload_n 2, 1) := by decide +kernel
theorem dL_law_1339 : decode cL_law 1339 = .ok (.aload_n 0, 1) := by decide +kernel
theorem dL_law_1340 : decode cL_law 1340 = .ok (.iload_n 3, 1) := by decide +kernel
theorem dL_law_1341 : decode cL_law 1341 = .ok (.iconst 1, 1) := by decide +kernel
theorem dL_law_1342 : decode cL_law 1342 = .ok (.iadd, 1) := by decide +kernel
theorem dL_law_1343 : decode cL_law 1343 = .ok (.iaload, 1) := by decide +kernel
theorem dL_law_1344 : decode cL_law 1344 = .ok (.aload_n 0, 1) := by decide +kernel
theorem dL_law_1345 : decode cL_law 1345 = .ok (.iload_n 3, 1) := by decide +kernel
theorem dL_law_1346 : decode cL_law 1346 = .ok (.iconst 2, 1) := by decide +kernel
theorem dL_law_1347 : decode cL_law 1347 = .ok (.iadd, 1) := by decide +kernel
theorem dL_law_1348 : decode cL_law 1348 = .ok (.iaload, 1) := by decide +kernel
theorem dL_law_1349 : decode cL_law 1349 = .ok (.aload_n 0, 1) := by decide +kernel
theorem dL_law_1350 : decode cL_law 1350 = .ok (.iload_n 3, 1) := by decide +kernel
theorem dL_law_1351 : decode cL_law 1351 = .ok (.iconst 3, 1) := by decide +kernel
theorem dL_law_1352 : decode cL_law 1352 = .ok (.iadd, 1) := by decide +kernel
theorem dL_law_1353 : decode cL_law 1353 = .ok (.iaload, 1) := by decide +kernel
theorem dL_law_1354 : decode cL_law 1354 = .ok (.aload_n 0, 1) := by decide +kernel
theorem dL_law_1355 : decode cL_law 1355 = .ok (.iload_n 3, 1) := by decide +kernel
theorem dL_law_1356 : decode cL_law 1356 = .ok (.iconst 4, 1) := by decide +kernel
theorem dL_law_1357 : decode cL_law 1357 = .ok (.iadd, 1) := by decide +kernel
theorem dL_law_1358 : decode cL_law 1358 = .ok (.iaload, 1) := by decide +kernel
theorem dL_law_1359 : decode cL_law 1359 = .ok (.aload_n 0, 1) := by decide +kernel
theorem dL_law_1360 : decode cL_law 1360 = .ok (.iload_n 3, 1) := by decide +kernel
theorem dL_law_1361 : decode cL_law 1361 = .ok (.iconst 5, 1) := by decide +kernel
theorem dL_law_1362 : decode cL_law 1362 = .ok (.iadd, 1) := by decide +kernel
theorem dL_law_1363 : decode cL_law 1363 = .ok (.iaload, 1) := by decide +kernel
theorem dL_law_1364 : decode cL_law 1364 = .ok (.invokevirtual 153, 3) := by decide +kernel
theorem dL_law_1367 : decode cL_law 1367 = .ok (.if_icmp .eq 41, 3) := by decide +kernel
theorem dL_law_1370 : decode cL_law 1370 = .ok (.iconst 0, 1) := by decide +kernel
theorem dL_law_1371 : decode cL_law 1371 = .ok (.ireturn, 1) := by decide +kernel
theorem dL_law_1372 : decode cL_law 1372 = .ok (.aload_n 1, 1) := by decide +kernel
theorem dL_law_1373 : decode cL_law 1373 = .ok (.invokevirtual 154, 3) := by decide +kernel
theorem dL_law_1376 : decode cL_law 1376 = .ok (.aload_n 2, 1) := by decide +kernel
theorem dL_law_1377 : decode cL_law 1377 = .ok (.invokevirtual 157, 3) := by decide +kernel
theorem dL_law_1380 : decode cL_law 1380 = .ok (.if_icmp .eq 28, 3) := by decide +kernel
theorem dL_law_1383 : decode cL_law 1383 = .ok (.iconst 0, 1) := by decide +kernel
theorem dL_law_1384 : decode cL_law 1384 = .ok (.ireturn, 1) := by decide +kernel
theorem dL_law_1385 : decode cL_law 1385 = .ok (.aload_n 1, 1) := by decide +kernel
theorem dL_law_1386 : decode cL_law 1386 = .ok (.aload_n 0, 1) := by decide +kernel
theorem dL_law_1387 : decode cL_law 1387 = .ok (.iload_n 3, 1) := by decide +kernel
theorem dL_law_1388 : decode cL_law 1388 = .ok (.iconst 1, 1) := by decide +kernel
theorem dL_law_1389 : decode cL_law 1389 = .ok (.iadd, 1) := by decide +kernel
theorem dL_law_1390 : decode cL_law 1390 = .ok (.iaload, 1) := by decide +kernel
theorem dL_law_1391 : decode cL_law 1391 = .ok (.invokevirtual 158, 3) := by decide +kernel
theorem dL_law_1394 : decode cL_law 1394 = .ok (.aload_n 2, 1) := by decide +kernel
theorem dL_law_1395 : decode cL_law 1395 = .ok (.aload_n 0, 1) := by decide +kernel
theorem dL_law_1396 : decode cL_law 1396 = .ok (.iload_n 3, 1) := by decide +kernel
theorem dL_law_1397 : decode cL_law 1397 = .ok (.iconst 1, 1) := by decide +kernel
theorem dL_law_1398 : decode cL_law 1398 = .ok (.iadd, 1) := by decide +kernel
theorem dL_law_1399 : decode cL_law 1399 = .ok (.iaload, 1) := by decide +kernel
theorem dL_law_1400 : decode cL_law 1400 = .ok (.invokevirtual 161, 3) := by decide +kernel
theorem dL_law_1403 : decode cL_law 1403 = .ok (.if_icmp .eq 5, 3) := by decide +kernel
theorem dL_law_1406 : decode cL_law 1406 = .ok (.iconst 0, 1) := by decide +kernel
theorem dL_law_1407 : decode cL_law 1407 = .ok (.ireturn, 1) := by decide +kernel
theorem dL_law_1408 : decode cL_law 1408 = .ok (.iinc 3 8, 3) := by decide +kernel
theorem dL_law_1411 : decode cL_law 1411 = .ok (.goto (-1393), 3) := by decide +kernel
theorem dL_law_1414 : decode cL_law 1414 = .ok (.iconst 1, 1) := by decide +kernel
theorem dL_law_1415 : decode cL_law 1415 = .ok (.ireturn, 1) := by decide +kernel
abbrev lL (X : XE) (b : Nat) (i : Int) : List (Nat × Value) := [(3, vI i), (2, .ref (xad X 122)), (1, .ref (xad X 0)), (0, .ref b)]
set_option maxRecDepth 100000 in
set_option maxHeartbeats 4000000 in
theorem lc_day (X : XE) (b L : Nat) (xs : Nat → Int32) {σ : Mem} (hI : INV σ) (i : Int) (hL : L ≤ 4096) (h0 : 0 ≤ i) (h8 : i + 8 ≤ L) (K : ∀ σ' : Mem, INV σ' → lok X b L xs 1408 (lL X b i) [] σ') : lok X b L xs 184 (lL X b i) [] σ := by
  refine l_aload_n 2 (pc := 184) dL_law_184 rfl rfl ?_
  refine l_aload_n 3 (pc := 185) dL_law_185 rfl rfl ?_
  refine l_iload_n 0 (pc := 186) dL_law_186 rfl rfl ?_
  refine l_iconst (pc := 187) dL_law_187 ?_
  refine l_iadd (pc := 188) dL_law_188 ?_
  refine l_rd (pc := 189) dL_law_189 hL (by omega) (by omega) ?_
  refine l_call (As := [vI (xv xs (i + 1).toNat)]) (rest := []) (pc := 190) dL_law_190 me_X11_day ml_L_13 rfl sh_0 (by decide) rfl ⟨by decide, by decide, rfl⟩ rfl ⟨rfl, rfl, rfl, rfl⟩ rfl rfl (c_X11_day X (xv xs (i + 1).toNat) (r_xv _ _) (f_day hI (xv xs (i + 1).toNat))) (fun r1 σ1 hr1 h1 => ?_)
  show lok X b L xs 193 (lL X b i) [vI r1] σ1
  refine l_aload_n 1 (pc := 193) dL_law_193 rfl rfl ?_
  refine l_aload_n 3 (pc := 194) dL_law_194 rfl rfl ?_
  refine l_iload_n 0 (pc := 195) dL_law_195 rfl rfl ?_
  refine l_iconst (pc := 196) dL_law_196 ?_
  refine l_iadd (pc := 197) dL_law_197 ?_
  refine l_rd (pc := 198) dL_law_198 hL (by omega) (by omega) ?_
  refine l_call (As := [vI (xv xs (i + 1).toNat)]) (rest := [vI r1]) (pc := 199) dL_law_199 me_X12_day ml_L_17 rfl sh_122 (by decide) rfl ⟨by decide, by decide, rfl⟩ rfl ⟨rfl, rfl, rfl, rfl⟩ rfl rfl (c_X12_day X (xv xs (i + 1).toNat) (r_xv _ _) h1) (fun r2 σ2 hr2 h2 => ?_)
  show lok X b L xs 202 (lL X b i) [vI r2, vI r1] σ2
  refine l_icmp_eq (tgt := 1408) (pc := 202) dL_law_202 rfl h2.1 ?_
  exact K _ h2.2
set_option maxRecDepth 100000 in
set_option maxHeartbeats 4000000 in
theorem lc_feed (X : XE) (b L : Nat) (xs : Nat → Int32) {σ : Mem} (hI : INV σ) (i : Int) (hL : L ≤ 4096) (h0 : 0 ≤ i) (h8 : i + 8 ≤ L) (K : ∀ σ' : Mem, INV σ' → lok X b L xs 1408 (lL X b i) [] σ') : lok X b L xs 207 (lL X b i) [] σ := by
  refine l_aload_n 2 (pc := 207) dL_law_207 rfl rfl ?_
  refine l_aload_n 3 (pc := 208) dL_law_208 rfl rfl ?_
  refine l_iload_n 0 (pc := 209) dL_law_209 rfl rfl ?_
  refine l_iconst (pc := 210) dL_law_210 ?_
  refine l_iadd (pc := 211) dL_law_211 ?_
  refine l_rd (pc := 212) dL_law_212 hL (by omega) (by omega) ?_
  refine l_i2l (pc := 213) dL_law_213 ?_
  refine l_bipush (pc := 214) dL_law_214 rfl ?_
  refine l_lshl (pc := 216) dL_law_216 ?_
  refine l_aload_n 3 (pc := 217) dL_law_217 rfl rfl ?_
  refine l_iload_n 0 (pc := 218) dL_law_218 rfl rfl ?_
  refine l_iconst (pc := 219) dL_law_219 ?_
  refine l_iadd (pc := 220) dL_law_220 ?_
  refine l_rd (pc := 221) dL_law_221 hL (by omega) (by omega) ?_
  refine l_i2l (pc := 222) dL_law_222 ?_
  refine l_ldc2 (pc := 223) dL_law_223 cn_L_18 ?_
  refine l_land (pc := 226) dL_law_226 ?_
  refine l_lor (pc := 227) dL_law_227 ?_
  refine l_topL ?_
  refine l_call (As := [vL ((((Int32.ofInt (xv xs (i + 1).toNat)).toInt64 <<< ((Int32.ofInt 32).toInt64 &&& 63)) ||| ((Int32.ofInt (xv xs (i + 2).toNat)).toInt64 &&& (Int64.ofInt (4294967295)))).toInt)]) (rest := []) (pc := 228) dL_law_228 me_X11_feed ml_L_20 rfl sh_0 (by decide) rfl ⟨by decide, by decide, rfl⟩ rfl ⟨rfl, rfl, rfl, rfl⟩ rfl rfl (c_X11_feed X ((((Int32.ofInt (xv xs (i + 1).toNat)).toInt64 <<< ((Int32.ofInt 32).toInt64 &&& 63)) ||| ((Int32.ofInt (xv xs (i + 2).toNat)).toInt64 &&& (Int64.ofInt (4294967295)))).toInt) (q_rngL _) (f_feed hI ((((Int32.ofInt (xv xs (i + 1).toNat)).toInt64 <<< ((Int32.ofInt 32).toInt64 &&& 63)) ||| ((Int32.ofInt (xv xs (i + 2).toNat)).toInt64 &&& (Int64.ofInt (4294967295)))).toInt))) (fun r1 σ1 hr1 h1 => ?_)
  show lok X b L xs 231 (lL X b i) [vI r1] σ1
  refine l_aload_n 1 (pc := 231) dL_law_231 rfl rfl ?_
  refine l_aload_n 3 (pc := 232) dL_law_232 rfl rfl ?_
  refine l_iload_n 0 (pc := 233) dL_law_233 rfl rfl ?_
  refine l_iconst (pc := 234) dL_law_234 ?_
  refine l_iadd (pc := 235) dL_law_235 ?_
  refine l_rd (pc := 236) dL_law_236 hL (by omega) (by omega) ?_
  refine l_i2l (pc := 237) dL_law_237 ?_
  refine l_bipush (pc := 238) dL_law_238 rfl ?_
  refine l_lshl (pc := 240) dL_law_240 ?_
  refine l_aload_n 3 (pc := 241) dL_law_241 rfl rfl ?_
  refine l_iload_n 0 (pc := 242) dL_law_242 rfl rfl ?_
  refine l_iconst (pc := 243) dL_law_243 ?_
  refine l_iadd (pc := 244) dL_law_244 ?_
  refine l_rd (pc := 245) dL_law_245 hL (by omega) (by omega) ?_
  refine l_i2l (pc := 246) dL_law_246 ?_
  refine l_ldc2 (pc := 247) dL_law_247 cn_L_18 ?_
  refine l_land (pc := 250) dL_law_250 ?_
  refine l_lor (pc := 251) dL_law_251 ?_
  refine l_topL ?_
  refine l_call (As := [vL ((((Int32.ofInt (xv xs (i + 1).toNat)).toInt64 <<< ((Int32.ofInt 32).toInt64 &&& 63)) ||| ((Int32.ofInt (xv xs (i + 2).toNat)).toInt64 &&& (Int64.ofInt (4294967295)))).toInt)]) (rest := [vI r1]) (pc := 252) dL_law_252 me_X12_feed ml_L_24 rfl sh_122 (by decide) rfl ⟨by decide, by decide, rfl⟩ rfl ⟨rfl, rfl, rfl, rfl⟩ rfl rfl (c_X12_feed X ((((Int32.ofInt (xv xs (i + 1).toNat)).toInt64 <<< ((Int32.ofInt 32).toInt64 &&& 63)) ||| ((Int32.ofInt (xv xs (i + 2).toNat)).toInt64 &&& (Int64.ofInt (4294967295)))).toInt) (q_rngL _) h1) (fun r2 σ2 hr2 h2 => ?_)
  show lok X b L xs 255 (lL X b i) [vI r2, vI r1] σ2
  refine l_icmp_eq (tgt := 1408) (pc := 255) dL_law_255 rfl h2.1 ?_
  exact K _ h2.2
set_option maxRecDepth 100000 in
set_option maxHeartbeats 4000000 in
theorem lc_end (X : XE) (b L : Nat) (xs : Nat → Int32) {σ : Mem} (hI : INV σ) (i : Int) (hL : L ≤ 4096) (h0 : 0 ≤ i) (h8 : i + 8 ≤ L) (K : ∀ σ' : Mem, INV σ' → lok X b L xs 1408 (lL X b i) [] σ') : lok X b L xs 260 (lL X b i) [] σ := by
  refine l_aload_n 2 (pc := 260) dL_law_260 rfl rfl ?_
  refine l_aload_n 3 (pc := 261) dL_law_261 rfl rfl ?_
  refine l_iload_n 0 (pc := 262) dL_law_262 rfl rfl ?_
  refine l_iconst (pc := 263) dL_law_263 ?_
  refine l_iadd (pc := 264) dL_law_264 ?_
  refine l_rd (pc := 265) dL_law_265 hL (by omega) (by omega) ?_
  refine l_call (As := [vI (xv xs (i + 1).toNat)]) (rest := []) (pc := 266) dL_law_266 me_X11_end ml_L_25 rfl sh_0 (by decide) rfl ⟨by decide, by decide, rfl⟩ rfl ⟨rfl, rfl, rfl, rfl⟩ rfl rfl (c_X11_end X (xv xs (i + 1).toNat) (r_xv _ _) (f_end hI (xv xs (i + 1).toNat))) (fun r1 σ1 hr1 h1 => ?_)
  show lok X b L xs 269 (lL X b i) [vI r1] σ1
  refine l_aload_n 1 (pc := 269) dL_law_269 rfl rfl ?_
  refine l_aload_n 3 (pc := 270) dL_law_270 rfl rfl ?_
  refine l_iload_n 0 (pc := 271) dL_law_271 rfl rfl ?_
  refine l_iconst (pc := 272) dL_law_272 ?_
  refine l_iadd (pc := 273) dL_law_273 ?_
  refine l_rd (pc := 274) dL_law_274 hL (by omega) (by omega) ?_
  refine l_call (As := [vI (xv xs (i + 1).toNat)]) (rest := [vI r1]) (pc := 275) dL_law_275 me_X12_end ml_L_28 rfl sh_122 (by decide) rfl ⟨by decide, by decide, rfl⟩ rfl ⟨rfl, rfl, rfl, rfl⟩ rfl rfl (c_X12_end X (xv xs (i + 1).toNat) (r_xv _ _) h1) (fun r2 σ2 hr2 h2 => ?_)
  show lok X b L xs 278 (lL X b i) [vI r2, vI r1] σ2
  refine l_icmp_eq (tgt := 1408) (pc := 278) dL_law_278 rfl h2.1 ?_
  exact K _ h2.2
set_option maxRecDepth 100000 in
set_option maxHeartbeats 4000000 in
theorem lc_text (X : XE) (b L : Nat) (xs : Nat → Int32) {σ : Mem} (hI : INV σ) (i : Int) (hL : L ≤ 4096) (h0 : 0 ≤ i) (h8 : i + 8 ≤ L) (K : ∀ σ' : Mem, INV σ' → lok X b L xs 1408 (lL X b i) [] σ') : lok X b L xs 283 (lL X b i) [] σ := by
  refine l_aload_n 2 (pc := 283) dL_law_283 rfl rfl ?_
  refine l_call (As := []) (rest := []) (pc := 284) dL_law_284 me_X11_text ml_L_29 rfl sh_0 (by decide) rfl ⟨by decide, by decide, rfl⟩ rfl ⟨rfl, rfl, rfl, rfl⟩ rfl rfl (c_X11_text X (f_text hI)) (fun r1 σ1 hr1 h1 => ?_)
  show lok X b L xs 287 (lL X b i) [vI r1] σ1
  refine l_aload_n 1 (pc := 287) dL_law_287 rfl rfl ?_
  refine l_call (As := []) (rest := [vI r1]) (pc := 288) dL_law_288 me_X12_text ml_L_33 rfl sh_122 (by decide) rfl ⟨by decide, by decide, rfl⟩ rfl ⟨rfl, rfl, rfl, rfl⟩ rfl rfl (c_X12_text X h1) (fun r2 σ2 hr2 h2 => ?_)
  show lok X b L xs 291 (lL X b i) [vI r2, vI r1] σ2
  refine l_icmp_eq (tgt := 1408) (pc := 291) dL_law_291 rfl h2.1 ?_
  exact K _ h2.2
set_option maxRecDepth 100000 in
set_option maxHeartbeats 4000000 in
theorem lc_fault (X : XE) (b L : Nat) (xs : Nat → Int32) {σ : Mem} (hI : INV σ) (i : Int) (hL : L ≤ 4096) (h0 : 0 ≤ i) (h8 : i + 8 ≤ L) (K : ∀ σ' : Mem, INV σ' → lok X b L xs 1408 (lL X b i) [] σ') : lok X b L xs 296 (lL X b i) [] σ := by
  refine l_aload_n 2 (pc := 296) dL_law_296 rfl rfl ?_
  refine l_call (As := []) (rest := []) (pc := 297) dL_law_297 me_X11_fault ml_L_34 rfl sh_0 (by decide) rfl ⟨by decide, by decide, rfl⟩ rfl ⟨rfl, rfl, rfl, rfl⟩ rfl rfl (c_X11_fault X (f_fault hI)) (fun r1 σ1 hr1 h1 => ?_)
  show lok X b L xs 300 (lL X b i) [vI r1] σ1
  refine l_aload_n 1 (pc := 300) dL_law_300 rfl rfl ?_
  refine l_call (As := []) (rest := [vI r1]) (pc := 301) dL_law_301 me_X12_fault ml_L_37 rfl sh_122 (by decide) rfl ⟨by decide, by decide, rfl⟩ rfl ⟨rfl, rfl, rfl, rfl⟩ rfl rfl (c_X12_fault X h1) (fun r2 σ2 hr2 h2 => ?_)
  show lok X b L xs 304 (lL X b i) [vI r2, vI r1] σ2
  refine l_icmp_eq (tgt := 1408) (pc := 304) dL_law_304 rfl h2.1 ?_
  exact K _ h2.2
set_option maxRecDepth 100000 in
set_option maxHeartbeats 4000000 in
theorem lc_rule (X : XE) (b L : Nat) (xs : Nat → Int32) {σ : Mem} (hI : INV σ) (i : Int) (hL : L ≤ 4096) (h0 : 0 ≤ i) (h8 : i + 8 ≤ L) (K : ∀ σ' : Mem, INV σ' → lok X b L xs 1408 (lL X b i) [] σ') : lok X b L xs 309 (lL X b i) [] σ := by
  refine l_aload_n 2 (pc := 309) dL_law_309 rfl rfl ?_
  refine l_aload_n 3 (pc := 310) dL_law_310 rfl rfl ?_
  refine l_iload_n 0 (pc := 311) dL_law_311 rfl rfl ?_
  refine l_iconst (pc := 312) dL_law_312 ?_
  refine l_iadd (pc := 313) dL_law_313 ?_
  refine l_rd (pc := 314) dL_law_314 hL (by omega) (by omega) ?_
  refine l_aload_n 3 (pc := 315) dL_law_315 rfl rfl ?_
  refine l_iload_n 0 (pc := 316) dL_law_316 rfl rfl ?_
  refine l_iconst (pc := 317) dL_law_317 ?_
  refine l_iadd (pc := 318) dL_law_318 ?_
  refine l_rd (pc := 319) dL_law_319 hL (by omega) (by omega) ?_
  refine l_call (As := [vI (xv xs (i + 1).toNat), vI (xv xs (i + 2).toNat)]) (rest := []) (pc := 320) dL_law_320 me_X11_rule ml_L_38 rfl sh_0 (by decide) rfl ⟨by decide, by decide, rfl⟩ rfl ⟨rfl, rfl, rfl, rfl⟩ rfl rfl (c_X11_rule X (xv xs (i + 1).toNat) (xv xs (i + 2).toNat) (r_xv _ _) (r_xv _ _) (f_rule hI (xv xs (i + 1).toNat) (xv xs (i + 2).toNat))) (fun r1 σ1 hr1 h1 => ?_)
  show lok X b L xs 323 (lL X b i) [vI r1] σ1
  refine l_aload_n 1 (pc := 323) dL_law_323 rfl rfl ?_
  refine l_aload_n 3 (pc := 324) dL_law_324 rfl rfl ?_
  refine l_iload_n 0 (pc := 325) dL_law_325 rfl rfl ?_
  refine l_iconst (pc := 326) dL_law_326 ?_
  refine l_iadd (pc := 327) dL_law_327 ?_
  refine l_rd (pc := 328) dL_law_328 hL (by omega) (by omega) ?_
  refine l_aload_n 3 (pc := 329) dL_law_329 rfl rfl ?_
  refine l_iload_n 0 (pc := 330) dL_law_330 rfl rfl ?_
  refine l_iconst (pc := 331) dL_law_331 ?_
  refine l_iadd (pc := 332) dL_law_332 ?_
  refine l_rd (pc := 333) dL_law_333 hL (by omega) (by omega) ?_
  refine l_call (As := [vI (xv xs (i + 1).toNat), vI (xv xs (i + 2).toNat)]) (rest := [vI r1]) (pc := 334) dL_law_334 me_X12_rule ml_L_42 rfl sh_122 (by decide) rfl ⟨by decide, by decide, rfl⟩ rfl ⟨rfl, rfl, rfl, rfl⟩ rfl rfl (c_X12_rule X (xv xs (i + 1).toNat) (xv xs (i + 2).toNat) (r_xv _ _) (r_xv _ _) h1) (fun r2 σ2 hr2 h2 => ?_)
  show lok X b L xs 337 (lL X b i) [vI r2, vI r1] σ2
  refine l_icmp_eq (tgt := 1408) (pc := 337) dL_law_337 rfl h2.1 ?_
  exact K _ h2.2
set_option maxRecDepth 100000 in
set_option maxHeartbeats 4000000 in
theorem lc_card (X : XE) (b L : Nat) (xs : Nat → Int32) {σ : Mem} (hI : INV σ) (i : Int) (hL : L ≤ 4096) (h0 : 0 ≤ i) (h8 : i + 8 ≤ L) (K : ∀ σ' : Mem, INV σ' → lok X b L xs 1408 (lL X b i) [] σ') : lok X b L xs 342 (lL X b i) [] σ := by
  refine l_aload_n 2 (pc := 342) dL_law_342 rfl rfl ?_
  refine l_aload_n 3 (pc := 343) dL_law_343 rfl rfl ?_
  refine l_iload_n 0 (pc := 344) dL_law_344 rfl rfl ?_
  refine l_iconst (pc := 345) dL_law_345 ?_
  refine l_iadd (pc := 346) dL_law_346 ?_
  refine l_rd (pc := 347) dL_law_347 hL (by omega) (by omega) ?_
  refine l_aload_n 3 (pc := 348) dL_law_348 rfl rfl ?_
  refine l_iload_n 0 (pc := 349) dL_law_349 rfl rfl ?_
  refine l_iconst (pc := 350) dL_law_350 ?_
  refine l_iadd (pc := 351) dL_law_351 ?_
  refine l_rd (pc := 352) dL_law_352 hL (by omega) (by omega) ?_
  refine l_aload_n 3 (pc := 353) dL_law_353 rfl rfl ?_
  refine l_iload_n 0 (pc := 354) dL_law_354 rfl rfl ?_
  refine l_iconst (pc := 355) dL_law_355 ?_
  refine l_iadd (pc := 356) dL_law_356 ?_
  refine l_rd (pc := 357) dL_law_357 hL (by omega) (by omega) ?_
  refine l_aload_n 3 (pc := 358) dL_law_358 rfl rfl ?_
  refine l_iload_n 0 (pc := 359) dL_law_359 rfl rfl ?_
  refine l_iconst (pc := 360) dL_law_360 ?_
  refine l_iadd (pc := 361) dL_law_361 ?_
  refine l_rd (pc := 362) dL_law_362 hL (by omega) (by omega) ?_
  refine l_aload_n 3 (pc := 363) dL_law_363 rfl rfl ?_
  refine l_iload_n 0 (pc := 364) dL_law_364 rfl rfl ?_
  refine l_iconst (pc := 365) dL_law_365 ?_
  refine l_iadd (pc := 366) dL_law_366 ?_
  refine l_rd (pc := 367) dL_law_367 hL (by omega) (by omega) ?_
  refine l_aload_n 3 (pc := 368) dL_law_368 rfl rfl ?_
  refine l_iload_n 0 (pc := 369) dL_law_369 rfl rfl ?_
  refine l_bipush (pc := 370) dL_law_370 rfl ?_
  refine l_iadd (pc := 372) dL_law_372 ?_
  refine l_rd (pc := 373) dL_law_373 hL (by omega) (by omega) ?_
  refine l_aload_n 3 (pc := 374) dL_law_374 rfl rfl ?_
  refine l_iload_n 0 (pc := 375) dL_law_375 rfl rfl ?_
  refine l_bipush (pc := 376) dL_law_376 rfl ?_
  refine l_iadd (pc := 378) dL_law_378 ?_
  refine l_rd (pc := 379) dL_law_379 hL (by omega) (by omega) ?_
  refine l_call (As := [vI (xv xs (i + 1).toNat), vI (xv xs (i + 2).toNat), vI (xv xs (i + 3).toNat), vI (xv xs (i + 4).toNat), vI (xv xs (i + 5).toNat), vI (xv xs (i + 6).toNat), vI (xv xs (i + 7).toNat)]) (rest := []) (pc := 380) dL_law_380 me_X11_card ml_L_43 rfl sh_0 (by decide) rfl ⟨by decide, by decide, rfl⟩ rfl ⟨rfl, rfl, rfl, rfl⟩ rfl rfl (c_X11_card X (xv xs (i + 1).toNat) (xv xs (i + 2).toNat) (xv xs (i + 3).toNat) (xv xs (i + 4).toNat) (xv xs (i + 5).toNat) (xv xs (i + 6).toNat) (xv xs (i + 7).toNat) (r_xv _ _) (r_xv _ _) (r_xv _ _) (r_xv _ _) (r_xv _ _) (r_xv _ _) (r_xv _ _) (f_card hI (xv xs (i + 1).toNat) (xv xs (i + 2).toNat) (xv xs (i + 3).toNat) (xv xs (i + 4).toNat) (xv xs (i + 5).toNat) (xv xs (i + 6).toNat) (xv xs (i + 7).toNat))) (fun r1 σ1 hr1 h1 => ?_)
  show lok X b L xs 383 (lL X b i) [vI r1] σ1
  refine l_aload_n 1 (pc := 383) dL_law_383 rfl rfl ?_
  refine l_aload_n 3 (pc := 384) dL_law_384 rfl rfl ?_
  refine l_iload_n 0 (pc := 385) dL_law_385 rfl rfl ?_
  refine l_iconst (pc := 386) dL_law_386 ?_
  refine l_iadd (pc := 387) dL_law_387 ?_
  refine l_rd (pc := 388) dL_law_388 hL (by omega) (by omega) ?_
  refine l_aload_n 3 (pc := 389) dL_law_389 rfl rfl ?_
  refine l_iload_n 0 (pc := 390) dL_law_390 rfl rfl ?_
  refine l_iconst (pc := 391) dL_law_391 ?_
  refine l_iadd (pc := 392) dL_law_392 ?_
  refine l_rd (pc := 393) dL_law_393 hL (by omega) (by omega) ?_
  refine l_aload_n 3 (pc := 394) dL_law_394 rfl rfl ?_
  refine l_iload_n 0 (pc := 395) dL_law_395 rfl rfl ?_
  refine l_iconst (pc := 396) dL_law_396 ?_
  refine l_iadd (pc := 397) dL_law_397 ?_
  refine l_rd (pc := 398) dL_law_398 hL (by omega) (by omega) ?_
  refine l_aload_n 3 (pc := 399) dL_law_399 rfl rfl ?_
  refine l_iload_n 0 (pc := 400) dL_law_400 rfl rfl ?_
  refine l_iconst (pc := 401) dL_law_401 ?_
  refine l_iadd (pc := 402) dL_law_402 ?_
  refine l_rd (pc := 403) dL_law_403 hL (by omega) (by omega) ?_
  refine l_aload_n 3 (pc := 404) dL_law_404 rfl rfl ?_
  refine l_iload_n 0 (pc := 405) dL_law_405 rfl rfl ?_
  refine l_iconst (pc := 406) dL_law_406 ?_
  refine l_iadd (pc := 407) dL_law_407 ?_
  refine l_rd (pc := 408) dL_law_408 hL (by omega) (by omega) ?_
  refine l_aload_n 3 (pc := 409) dL_law_409 rfl rfl ?_
  refine l_iload_n 0 (pc := 410) dL_law_410 rfl rfl ?_
  refine l_bipush (pc := 411) dL_law_411 rfl ?_
  refine l_iadd (pc := 413) dL_law_413 ?_
  refine l_rd (pc := 414) dL_law_414 hL (by omega) (by omega) ?_
  refine l_aload_n 3 (pc := 415) dL_law_415 rfl rfl ?_
  refine l_iload_n 0 (pc := 416) dL_law_416 rfl rfl ?_
  refine l_bipush (pc := 417) dL_law_417 rfl ?_
  refine l_iadd (pc := 419) dL_law_419 ?_
  refine l_rd (pc := 420) dL_law_420 hL (by omega) (by omega) ?_
  refine l_call (As := [vI (xv xs (i + 1).toNat), vI (xv xs (i + 2).toNat), vI (xv xs (i + 3).toNat), vI (xv xs (i + 4).toNat), vI (xv xs (i + 5).toNat), vI (xv xs (i + 6).toNat), vI (xv xs (i + 7).toNat)]) (rest := [vI r1]) (pc := 421) dL_law_421 me_X12_card ml_L_47 rfl sh_122 (by decide) rfl ⟨by decide, by decide, rfl⟩ rfl ⟨rfl, rfl, rfl, rfl⟩ rfl rfl (c_X12_card X (xv xs (i + 1).toNat) (xv xs (i + 2).toNat) (xv xs (i + 3).toNat) (xv xs (i + 4).toNat) (xv xs (i + 5).toNat) (xv xs (i + 6).toNat) (xv xs (i + 7).toNat) (r_xv _ _) (r_xv _ _) (r_xv _ _) (r_xv _ _) (r_xv _ _) (r_xv _ _) (r_xv _ _) h1) (fun r2 σ2 hr2 h2 => ?_)
  show lok X b L xs 424 (lL X b i) [vI r2, vI r1] σ2
  refine l_icmp_eq (tgt := 1408) (pc := 424) dL_law_424 rfl h2.1 ?_
  exact K _ h2.2
set_option maxRecDepth 100000 in
set_option maxHeartbeats 4000000 in
theorem lc_of (X : XE) (b L : Nat) (xs : Nat → Int32) {σ : Mem} (hI : INV σ) (i : Int) (hL : L ≤ 4096) (h0 : 0 ≤ i) (h8 : i + 8 ≤ L) (K : ∀ σ' : Mem, INV σ' → lok X b L xs 1408 (lL X b i) [] σ') : lok X b L xs 429 (lL X b i) [] σ := by
  refine l_aload_n 2 (pc := 429) dL_law_429 rfl rfl ?_
  refine l_aload_n 3 (pc := 430) dL_law_430 rfl rfl ?_
  refine l_iload_n 0 (pc := 431) dL_law_431 rfl rfl ?_
  refine l_iconst (pc := 432) dL_law_432 ?_
  refine l_iadd (pc := 433) dL_law_433 ?_
  refine l_rd (pc := 434) dL_law_434 hL (by omega) (by omega) ?_
  refine l_aload_n 3 (pc := 435) dL_law_435 rfl rfl ?_
  refine l_iload_n 0 (pc := 436) dL_law_436 rfl rfl ?_
  refine l_iconst (pc := 437) dL_law_437 ?_
  refine l_iadd (pc := 438) dL_law_438 ?_
  refine l_rd (pc := 439) dL_law_439 hL (by omega) (by omega) ?_
  refine l_call (As := [vI (xv xs (i + 1).toNat), vI (xv xs (i + 2).toNat)]) (rest := []) (pc := 440) dL_law_440 me_X11_of ml_L_48 rfl sh_0 (by decide) rfl ⟨by decide, by decide, rfl⟩ rfl ⟨rfl, rfl, rfl, rfl⟩ rfl rfl (c_X11_of X (xv xs (i + 1).toNat) (xv xs (i + 2).toNat) (r_xv _ _) (r_xv _ _) (f_of hI (xv xs (i + 1).toNat) (xv xs (i + 2).toNat))) (fun r1 σ1 hr1 h1 => ?_)
  show lok X b L xs 443 (lL X b i) [vI r1] σ1
  refine l_aload_n 1 (pc := 443) dL_law_443 rfl rfl ?_
  refine l_aload_n 3 (pc := 444) dL_law_444 rfl rfl ?_
  refine l_iload_n 0 (pc := 445) dL_law_445 rfl rfl ?_
  refine l_iconst (pc := 446) dL_law_446 ?_
  refine l_iadd (pc := 447) dL_law_447 ?_
  refine l_rd (pc := 448) dL_law_448 hL (by omega) (by omega) ?_
  refine l_aload_n 3 (pc := 449) dL_law_449 rfl rfl ?_
  refine l_iload_n 0 (pc := 450) dL_law_450 rfl rfl ?_
  refine l_iconst (pc := 451) dL_law_451 ?_
  refine l_iadd (pc := 452) dL_law_452 ?_
  refine l_rd (pc := 453) dL_law_453 hL (by omega) (by omega) ?_
  refine l_call (As := [vI (xv xs (i + 1).toNat), vI (xv xs (i + 2).toNat)]) (rest := [vI r1]) (pc := 454) dL_law_454 me_X12_of ml_L_51 rfl sh_122 (by decide) rfl ⟨by decide, by decide, rfl⟩ rfl ⟨rfl, rfl, rfl, rfl⟩ rfl rfl (c_X12_of X (xv xs (i + 1).toNat) (xv xs (i + 2).toNat) (r_xv _ _) (r_xv _ _) h1) (fun r2 σ2 hr2 h2 => ?_)
  show lok X b L xs 457 (lL X b i) [vI r2, vI r1] σ2
  refine l_icmp_eq (tgt := 1408) (pc := 457) dL_law_457 rfl h2.1 ?_
  exact K _ h2.2
set_option maxRecDepth 100000 in
set_option maxHeartbeats 4000000 in
theorem lc_anew (X : XE) (b L : Nat) (xs : Nat → Int32) {σ : Mem} (hI : INV σ) (i : Int) (hL : L ≤ 4096) (h0 : 0 ≤ i) (h8 : i + 8 ≤ L) (K : ∀ σ' : Mem, INV σ' → lok X b L xs 1408 (lL X b i) [] σ') : lok X b L xs 462 (lL X b i) [] σ := by
  refine l_aload_n 2 (pc := 462) dL_law_462 rfl rfl ?_
  refine l_aload_n 3 (pc := 463) dL_law_463 rfl rfl ?_
  refine l_iload_n 0 (pc := 464) dL_law_464 rfl rfl ?_
  refine l_iconst (pc := 465) dL_law_465 ?_
  refine l_iadd (pc := 466) dL_law_466 ?_
  refine l_rd (pc := 467) dL_law_467 hL (by omega) (by omega) ?_
  refine l_aload_n 3 (pc := 468) dL_law_468 rfl rfl ?_
  refine l_iload_n 0 (pc := 469) dL_law_469 rfl rfl ?_
  refine l_iconst (pc := 470) dL_law_470 ?_
  refine l_iadd (pc := 471) dL_law_471 ?_
  refine l_rd (pc := 472) dL_law_472 hL (by omega) (by omega) ?_
  refine l_aload_n 3 (pc := 473) dL_law_473 rfl rfl ?_
  refine l_iload_n 0 (pc := 474) dL_law_474 rfl rfl ?_
  refine l_iconst (pc := 475) dL_law_475 ?_
  refine l_iadd (pc := 476) dL_law_476 ?_
  refine l_rd (pc := 477) dL_law_477 hL (by omega) (by omega) ?_
  refine l_call (As := [vI (xv xs (i + 1).toNat), vI (xv xs (i + 2).toNat), vI (xv xs (i + 3).toNat)]) (rest := []) (pc := 478) dL_law_478 me_X11_anew ml_L_52 rfl sh_0 (by decide) rfl ⟨by decide, by decide, rfl⟩ rfl ⟨rfl, rfl, rfl, rfl⟩ rfl rfl (c_X11_anew X (xv xs (i + 1).toNat) (xv xs (i + 2).toNat) (xv xs (i + 3).toNat) (r_xv _ _) (r_xv _ _) (r_xv _ _) (f_anew hI (xv xs (i + 1).toNat) (xv xs (i + 2).toNat) (xv xs (i + 3).toNat))) (fun r1 σ1 hr1 h1 => ?_)
  show lok X b L xs 481 (lL X b i) [vI r1] σ1
  refine l_aload_n 1 (pc := 481) dL_law_481 rfl rfl ?_
  refine l_aload_n 3 (pc := 482) dL_law_482 rfl rfl ?_
  refine l_iload_n 0 (pc := 483) dL_law_483 rfl rfl ?_
  refine l_iconst (pc := 484) dL_law_484 ?_
  refine l_iadd (pc := 485) dL_law_485 ?_
  refine l_rd (pc := 486) dL_law_486 hL (by omega) (by omega) ?_
  refine l_aload_n 3 (pc := 487) dL_law_487 rfl rfl ?_
  refine l_iload_n 0 (pc := 488) dL_law_488 rfl rfl ?_
  refine l_iconst (pc := 489) dL_law_489 ?_
  refine l_iadd (pc := 490) dL_law_490 ?_
  refine l_rd (pc := 491) dL_law_491 hL (by omega) (by omega) ?_
  refine l_aload_n 3 (pc := 492) dL_law_492 rfl rfl ?_
  refine l_iload_n 0 (pc := 493) dL_law_493 rfl rfl ?_
  refine l_iconst (pc := 494) dL_law_494 ?_
  refine l_iadd (pc := 495) dL_law_495 ?_
  refine l_rd (pc := 496) dL_law_496 hL (by omega) (by omega) ?_
  refine l_call (As := [vI (xv xs (i + 1).toNat), vI (xv xs (i + 2).toNat), vI (xv xs (i + 3).toNat)]) (rest := [vI r1]) (pc := 497) dL_law_497 me_X12_anew ml_L_56 rfl sh_122 (by decide) rfl ⟨by decide, by decide, rfl⟩ rfl ⟨rfl, rfl, rfl, rfl⟩ rfl rfl (c_X12_anew X (xv xs (i + 1).toNat) (xv xs (i + 2).toNat) (xv xs (i + 3).toNat) (r_xv _ _) (r_xv _ _) (r_xv _ _) h1) (fun r2 σ2 hr2 h2 => ?_)
  show lok X b L xs 500 (lL X b i) [vI r2, vI r1] σ2
  refine l_icmp_eq (tgt := 1408) (pc := 500) dL_law_500 rfl h2.1 ?_
  exact K _ h2.2
set_option maxRecDepth 100000 in
set_option maxHeartbeats 4000000 in
theorem lc_known (X : XE) (b L : Nat) (xs : Nat → Int32) {σ : Mem} (hI : INV σ) (i : Int) (hL : L ≤ 4096) (h0 : 0 ≤ i) (h8 : i + 8 ≤ L) (K : ∀ σ' : Mem, INV σ' → lok X b L xs 1408 (lL X b i) [] σ') : lok X b L xs 505 (lL X b i) [] σ := by
  refine l_aload_n 2 (pc := 505) dL_law_505 rfl rfl ?_
  refine l_aload_n 3 (pc := 506) dL_law_506 rfl rfl ?_
  refine l_iload_n 0 (pc := 507) dL_law_507 rfl rfl ?_
  refine l_iconst (pc := 508) dL_law_508 ?_
  refine l_iadd (pc := 509) dL_law_509 ?_
  refine l_rd (pc := 510) dL_law_510 hL (by omega) (by omega) ?_
  refine l_aload_n 3 (pc := 511) dL_law_511 rfl rfl ?_
  refine l_iload_n 0 (pc := 512) dL_law_512 rfl rfl ?_
  refine l_iconst (pc := 513) dL_law_513 ?_
  refine l_iadd (pc := 514) dL_law_514 ?_
  refine l_rd (pc := 515) dL_law_515 hL (by omega) (by omega) ?_
  refine l_aload_n 3 (pc := 516) dL_law_516 rfl rfl ?_
  refine l_iload_n 0 (pc := 517) dL_law_517 rfl rfl ?_
  refine l_iconst (pc := 518) dL_law_518 ?_
  refine l_iadd (pc := 519) dL_law_519 ?_
  refine l_rd (pc := 520) dL_law_520 hL (by omega) (by omega) ?_
  refine l_call (As := [vI (xv xs (i + 1).toNat), vI (xv xs (i + 2).toNat), vI (xv xs (i + 3).toNat)]) (rest := []) (pc := 521) dL_law_521 me_X11_known ml_L_57 rfl sh_0 (by decide) rfl ⟨by decide, by decide, rfl⟩ rfl ⟨rfl, rfl, rfl, rfl⟩ rfl rfl (c_X11_known X (xv xs (i + 1).toNat) (xv xs (i + 2).toNat) (xv xs (i + 3).toNat) (r_xv _ _) (r_xv _ _) (r_xv _ _) (f_known hI (xv xs (i + 1).toNat) (xv xs (i + 2).toNat) (xv xs (i + 3).toNat))) (fun r1 σ1 hr1 h1 => ?_)
  show lok X b L xs 524 (lL X b i) [vI r1] σ1
  refine l_aload_n 1 (pc := 524) dL_law_524 rfl rfl ?_
  refine l_aload_n 3 (pc := 525) dL_law_525 rfl rfl ?_
  refine l_iload_n 0 (pc := 526) dL_law_526 rfl rfl ?_
  refine l_iconst (pc := 527) dL_law_527 ?_
  refine l_iadd (pc := 528) dL_law_528 ?_
  refine l_rd (pc := 529) dL_law_529 hL (by omega) (by omega) ?_
  refine l_aload_n 3 (pc := 530) dL_law_530 rfl rfl ?_
  refine l_iload_n 0 (pc := 531) dL_law_531 rfl rfl ?_
  refine l_iconst (pc := 532) dL_law_532 ?_
  refine l_iadd (pc := 533) dL_law_533 ?_
  refine l_rd (pc := 534) dL_law_534 hL (by omega) (by omega) ?_
  refine l_aload_n 3 (pc := 535) dL_law_535 rfl rfl ?_
  refine l_iload_n 0 (pc := 536) dL_law_536 rfl rfl ?_
  refine l_iconst (pc := 537) dL_law_537 ?_
  refine l_iadd (pc := 538) dL_law_538 ?_
  refine l_rd (pc := 539) dL_law_539 hL (by omega) (by omega) ?_
  refine l_call (As := [vI (xv xs (i + 1).toNat), vI (xv xs (i + 2).toNat), vI (xv xs (i + 3).toNat)]) (rest := [vI r1]) (pc := 540) dL_law_540 me_X12_known ml_L_60 rfl sh_122 (by decide) rfl ⟨by decide, by decide, rfl⟩ rfl ⟨rfl, rfl, rfl, rfl⟩ rfl rfl (c_X12_known X (xv xs (i + 1).toNat) (xv xs (i + 2).toNat) (xv xs (i + 3).toNat) (r_xv _ _) (r_xv _ _) (r_xv _ _) h1) (fun r2 σ2 hr2 h2 => ?_)
  show lok X b L xs 543 (lL X b i) [vI r2, vI r1] σ2
  refine l_icmp_eq (tgt := 1408) (pc := 543) dL_law_543 rfl h2.1 ?_
  exact K _ h2.2
set_option maxRecDepth 100000 in
set_option maxHeartbeats 4000000 in
theorem lc_file (X : XE) (b L : Nat) (xs : Nat → Int32) {σ : Mem} (hI : INV σ) (i : Int) (hL : L ≤ 4096) (h0 : 0 ≤ i) (h8 : i + 8 ≤ L) (K : ∀ σ' : Mem, INV σ' → lok X b L xs 1408 (lL X b i) [] σ') : lok X b L xs 548 (lL X b i) [] σ := by
  refine l_aload_n 2 (pc := 548) dL_law_548 rfl rfl ?_
  refine l_aload_n 3 (pc := 549) dL_law_549 rfl rfl ?_
  refine l_iload_n 0 (pc := 550) dL_law_550 rfl rfl ?_
  refine l_iconst (pc := 551) dL_law_551 ?_
  refine l_iadd (pc := 552) dL_law_552 ?_
  refine l_rd (pc := 553) dL_law_553 hL (by omega) (by omega) ?_
  refine l_call (As := [vI (xv xs (i + 1).toNat)]) (rest := []) (pc := 554) dL_law_554 me_X11_file ml_L_61 rfl sh_0 (by decide) rfl ⟨by decide, by decide, rfl⟩ rfl ⟨rfl, rfl, rfl, rfl⟩ rfl rfl (c_X11_file X (xv xs (i + 1).toNat) (r_xv _ _) (f_file hI (xv xs (i + 1).toNat))) (fun r1 σ1 hr1 h1 => ?_)
  show lok X b L xs 557 (lL X b i) [vI r1] σ1
  refine l_aload_n 1 (pc := 557) dL_law_557 rfl rfl ?_
  refine l_aload_n 3 (pc := 558) dL_law_558 rfl rfl ?_
  refine l_iload_n 0 (pc := 559) dL_law_559 rfl rfl ?_
  refine l_iconst (pc := 560) dL_law_560 ?_
  refine l_iadd (pc := 561) dL_law_561 ?_
  refine l_rd (pc := 562) dL_law_562 hL (by omega) (by omega) ?_
  refine l_call (As := [vI (xv xs (i + 1).toNat)]) (rest := [vI r1]) (pc := 563) dL_law_563 me_X12_file ml_L_64 rfl sh_122 (by decide) rfl ⟨by decide, by decide, rfl⟩ rfl ⟨rfl, rfl, rfl, rfl⟩ rfl rfl (c_X12_file X (xv xs (i + 1).toNat) (r_xv _ _) h1) (fun r2 σ2 hr2 h2 => ?_)
  show lok X b L xs 566 (lL X b i) [vI r2, vI r1] σ2
  refine l_icmp_eq (tgt := 1408) (pc := 566) dL_law_566 rfl h2.1 ?_
  exact K _ h2.2
set_option maxRecDepth 100000 in
set_option maxHeartbeats 4000000 in
theorem lc_out (X : XE) (b L : Nat) (xs : Nat → Int32) {σ : Mem} (hI : INV σ) (i : Int) (hL : L ≤ 4096) (h0 : 0 ≤ i) (h8 : i + 8 ≤ L) (K : ∀ σ' : Mem, INV σ' → lok X b L xs 1408 (lL X b i) [] σ') : lok X b L xs 571 (lL X b i) [] σ := by
  refine l_aload_n 2 (pc := 571) dL_law_571 rfl rfl ?_
  refine l_aload_n 3 (pc := 572) dL_law_572 rfl rfl ?_
  refine l_iload_n 0 (pc := 573) dL_law_573 rfl rfl ?_
  refine l_iconst (pc := 574) dL_law_574 ?_
  refine l_iadd (pc := 575) dL_law_575 ?_
  refine l_rd (pc := 576) dL_law_576 hL (by omega) (by omega) ?_
  refine l_call (As := [vI (xv xs (i + 1).toNat)]) (rest := []) (pc := 577) dL_law_577 me_X11_out ml_L_65 rfl sh_0 (by decide) rfl ⟨by decide, by decide, rfl⟩ rfl ⟨rfl, rfl, rfl, rfl⟩ rfl rfl (c_X11_out X (xv xs (i + 1).toNat) (r_xv _ _) (f_out hI (xv xs (i + 1).toNat))) (fun r1 σ1 hr1 h1 => ?_)
  show lok X b L xs 580 (lL X b i) [vI r1] σ1
  refine l_aload_n 1 (pc := 580) dL_law_580 rfl rfl ?_
  refine l_aload_n 3 (pc := 581) dL_law_581 rfl rfl ?_
  refine l_iload_n 0 (pc := 582) dL_law_582 rfl rfl ?_
  refine l_iconst (pc := 583) dL_law_583 ?_
  refine l_iadd (pc := 584) dL_law_584 ?_
  refine l_rd (pc := 585) dL_law_585 hL (by omega) (by omega) ?_
  refine l_call (As := [vI (xv xs (i + 1).toNat)]) (rest := [vI r1]) (pc := 586) dL_law_586 me_X12_out ml_L_68 rfl sh_122 (by decide) rfl ⟨by decide, by decide, rfl⟩ rfl ⟨rfl, rfl, rfl, rfl⟩ rfl rfl (c_X12_out X (xv xs (i + 1).toNat) (r_xv _ _) h1) (fun r2 σ2 hr2 h2 => ?_)
  show lok X b L xs 589 (lL X b i) [vI r2, vI r1] σ2
  refine l_icmp_eq (tgt := 1408) (pc := 589) dL_law_589 rfl h2.1 ?_
  exact K _ h2.2
set_option maxRecDepth 100000 in
set_option maxHeartbeats 4000000 in
theorem lc_drawer (X : XE) (b L : Nat) (xs : Nat → Int32) {σ : Mem} (hI : INV σ) (i : Int) (hL : L ≤ 4096) (h0 : 0 ≤ i) (h8 : i + 8 ≤ L) (K : ∀ σ' : Mem, INV σ' → lok X b L xs 1408 (lL X b i) [] σ') : lok X b L xs 594 (lL X b i) [] σ := by
  refine l_aload_n 2 (pc := 594) dL_law_594 rfl rfl ?_
  refine l_aload_n 3 (pc := 595) dL_law_595 rfl rfl ?_
  refine l_iload_n 0 (pc := 596) dL_law_596 rfl rfl ?_
  refine l_iconst (pc := 597) dL_law_597 ?_
  refine l_iadd (pc := 598) dL_law_598 ?_
  refine l_rd (pc := 599) dL_law_599 hL (by omega) (by omega) ?_
  refine l_aload_n 3 (pc := 600) dL_law_600 rfl rfl ?_
  refine l_iload_n 0 (pc := 601) dL_law_601 rfl rfl ?_
  refine l_iconst (pc := 602) dL_law_602 ?_
  refine l_iadd (pc := 603) dL_law_603 ?_
  refine l_rd (pc := 604) dL_law_604 hL (by omega) (by omega) ?_
  refine l_call (As := [vI (xv xs (i + 1).toNat), vI (xv xs (i + 2).toNat)]) (rest := []) (pc := 605) dL_law_605 me_X11_drawer ml_L_69 rfl sh_0 (by decide) rfl ⟨by decide, by decide, rfl⟩ rfl ⟨rfl, rfl, rfl, rfl⟩ rfl rfl (c_X11_drawer X (xv xs (i + 1).toNat) (xv xs (i + 2).toNat) (r_xv _ _) (r_xv _ _) (f_drawer hI (xv xs (i + 1).toNat) (xv xs (i + 2).toNat))) (fun r1 σ1 hr1 h1 => ?_)
  show lok X b L xs 608 (lL X b i) [vI r1] σ1
  refine l_aload_n 1 (pc := 608) dL_law_608 rfl rfl ?_
  refine l_aload_n 3 (pc := 609) dL_law_609 rfl rfl ?_
  refine l_iload_n 0 (pc := 610) dL_law_610 rfl rfl ?_
  refine l_iconst (pc := 611) dL_law_611 ?_
  refine l_iadd (pc := 612) dL_law_612 ?_
  refine l_rd (pc := 613) dL_law_613 hL (by omega) (by omega) ?_
  refine l_aload_n 3 (pc := 614) dL_law_614 rfl rfl ?_
  refine l_iload_n 0 (pc := 615) dL_law_615 rfl rfl ?_
  refine l_iconst (pc := 616) dL_law_616 ?_
  refine l_iadd (pc := 617) dL_law_617 ?_
  refine l_rd (pc := 618) dL_law_618 hL (by omega) (by omega) ?_
  refine l_call (As := [vI (xv xs (i + 1).toNat), vI (xv xs (i + 2).toNat)]) (rest := [vI r1]) (pc := 619) dL_law_619 me_X12_drawer ml_L_72 rfl sh_122 (by decide) rfl ⟨by decide, by decide, rfl⟩ rfl ⟨rfl, rfl, rfl, rfl⟩ rfl rfl (c_X12_drawer X (xv xs (i + 1).toNat) (xv xs (i + 2).toNat) (r_xv _ _) (r_xv _ _) h1) (fun r2 σ2 hr2 h2 => ?_)
  show lok X b L xs 622 (lL X b i) [vI r2, vI r1] σ2
  refine l_icmp_eq (tgt := 1408) (pc := 622) dL_law_622 rfl h2.1 ?_
  exact K _ h2.2
set_option maxRecDepth 100000 in
set_option maxHeartbeats 4000000 in
theorem lc_tell (X : XE) (b L : Nat) (xs : Nat → Int32) {σ : Mem} (hI : INV σ) (i : Int) (hL : L ≤ 4096) (h0 : 0 ≤ i) (h8 : i + 8 ≤ L) (K : ∀ σ' : Mem, INV σ' → lok X b L xs 1408 (lL X b i) [] σ') : lok X b L xs 627 (lL X b i) [] σ := by
  refine l_aload_n 2 (pc := 627) dL_law_627 rfl rfl ?_
  refine l_aload_n 3 (pc := 628) dL_law_628 rfl rfl ?_
  refine l_iload_n 0 (pc := 629) dL_law_629 rfl rfl ?_
  refine l_iconst (pc := 630) dL_law_630 ?_
  refine l_iadd (pc := 631) dL_law_631 ?_
  refine l_rd (pc := 632) dL_law_632 hL (by omega) (by omega) ?_
  refine l_aload_n 3 (pc := 633) dL_law_633 rfl rfl ?_
  refine l_iload_n 0 (pc := 634) dL_law_634 rfl rfl ?_
  refine l_iconst (pc := 635) dL_law_635 ?_
  refine l_iadd (pc := 636) dL_law_636 ?_
  refine l_rd (pc := 637) dL_law_637 hL (by omega) (by omega) ?_
  refine l_aload_n 3 (pc := 638) dL_law_638 rfl rfl ?_
  refine l_iload_n 0 (pc := 639) dL_law_639 rfl rfl ?_
  refine l_iconst (pc := 640) dL_law_640 ?_
  refine l_iadd (pc := 641) dL_law_641 ?_
  refine l_rd (pc := 642) dL_law_642 hL (by omega) (by omega) ?_
  refine l_aload_n 3 (pc := 643) dL_law_643 rfl rfl ?_
  refine l_iload_n 0 (pc := 644) dL_law_644 rfl rfl ?_
  refine l_iconst (pc := 645) dL_law_645 ?_
  refine l_iadd (pc := 646) dL_law_646 ?_
  refine l_rd (pc := 647) dL_law_647 hL (by omega) (by omega) ?_
  refine l_aload_n 3 (pc := 648) dL_law_648 rfl rfl ?_
  refine l_iload_n 0 (pc := 649) dL_law_649 rfl rfl ?_
  refine l_iconst (pc := 650) dL_law_650 ?_
  refine l_iadd (pc := 651) dL_law_651 ?_
  refine l_rd (pc := 652) dL_law_652 hL (by omega) (by omega) ?_
  refine l_call (As := [vI (xv xs (i + 1).toNat), vI (xv xs (i + 2).toNat), vI (xv xs (i + 3).toNat), vI (xv xs (i + 4).toNat), vI (xv xs (i + 5).toNat)]) (rest := []) (pc := 653) dL_law_653 me_X11_tell ml_L_73 rfl sh_0 (by decide) rfl ⟨by decide, by decide, rfl⟩ rfl ⟨rfl, rfl, rfl, rfl⟩ rfl rfl (c_X11_tell X (xv xs (i + 1).toNat) (xv xs (i + 2).toNat) (xv xs (i + 3).toNat) (xv xs (i + 4).toNat) (xv xs (i + 5).toNat) (r_xv _ _) (r_xv _ _) (r_xv _ _) (r_xv _ _) (r_xv _ _) (f_tell hI (xv xs (i + 1).toNat) (xv xs (i + 2).toNat) (xv xs (i + 3).toNat) (xv xs (i + 4).toNat) (xv xs (i + 5).toNat))) (fun r1 σ1 hr1 h1 => ?_)
  show lok X b L xs 656 (lL X b i) [vI r1] σ1
  refine l_aload_n 1 (pc := 656) dL_law_656 rfl rfl ?_
  refine l_aload_n 3 (pc := 657) dL_law_657 rfl rfl ?_
  refine l_iload_n 0 (pc := 658) dL_law_658 rfl rfl ?_
  refine l_iconst (pc := 659) dL_law_659 ?_
  refine l_iadd (pc := 660) dL_law_660 ?_
  refine l_rd (pc := 661) dL_law_661 hL (by omega) (by omega) ?_
  refine l_aload_n 3 (pc := 662) dL_law_662 rfl rfl ?_
  refine l_iload_n 0 (pc := 663) dL_law_663 rfl rfl ?_
  refine l_iconst (pc := 664) dL_law_664 ?_
  refine l_iadd (pc := 665) dL_law_665 ?_
  refine l_rd (pc := 666) dL_law_666 hL (by omega) (by omega) ?_
  refine l_aload_n 3 (pc := 667) dL_law_667 rfl rfl ?_
  refine l_iload_n 0 (pc := 668) dL_law_668 rfl rfl ?_
  refine l_iconst (pc := 669) dL_law_669 ?_
  refine l_iadd (pc := 670) dL_law_670 ?_
  refine l_rd (pc := 671) dL_law_671 hL (by omega) (by omega) ?_
  refine l_aload_n 3 (pc := 672) dL_law_672 rfl rfl ?_
  refine l_iload_n 0 (pc := 673) dL_law_673 rfl rfl ?_
  refine l_iconst (pc := 674) dL_law_674 ?_
  refine l_iadd (pc := 675) dL_law_675 ?_
  refine l_rd (pc := 676) dL_law_676 hL (by omega) (by omega) ?_
  refine l_aload_n 3 (pc := 677) dL_law_677 rfl rfl ?_
  refine l_iload_n 0 (pc := 678) dL_law_678 rfl rfl ?_
  refine l_iconst (pc := 679) dL_law_679 ?_
  refine l_iadd (pc := 680) dL_law_680 ?_
  refine l_rd (pc := 681) dL_law_681 hL (by omega) (by omega) ?_
  refine l_call (As := [vI (xv xs (i + 1).toNat), vI (xv xs (i + 2).toNat), vI (xv xs (i + 3).toNat), vI (xv xs (i + 4).toNat), vI (xv xs (i + 5).toNat)]) (rest := [vI r1]) (pc := 682) dL_law_682 me_X12_tell ml_L_77 rfl sh_122 (by decide) rfl ⟨by decide, by decide, rfl⟩ rfl ⟨rfl, rfl, rfl, rfl⟩ rfl rfl (c_X12_tell X (xv xs (i + 1).toNat) (xv xs (i + 2).toNat) (xv xs (i + 3).toNat) (xv xs (i + 4).toNat) (xv xs (i + 5).toNat) (r_xv _ _) (r_xv _ _) (r_xv _ _) (r_xv _ _) (r_xv _ _) h1) (fun r2 σ2 hr2 h2 => ?_)
  show lok X b L xs 685 (lL X b i) [vI r2, vI r1] σ2
  refine l_icmp_eq (tgt := 1408) (pc := 685) dL_law_685 rfl h2.1 ?_
  exact K _ h2.2
set_option maxRecDepth 100000 in
set_option maxHeartbeats 4000000 in
theorem lc_chance (X : XE) (b L : Nat) (xs : Nat → Int32) {σ : Mem} (hI : INV σ) (i : Int) (hL : L ≤ 4096) (h0 : 0 ≤ i) (h8 : i + 8 ≤ L) (K : ∀ σ' : Mem, INV σ' → lok X b L xs 1408 (lL X b i) [] σ') : lok X b L xs 690 (lL X b i) [] σ := by
  refine l_aload_n 2 (pc := 690) dL_law_690 rfl rfl ?_
  refine l_aload_n 3 (pc := 691) dL_law_691 rfl rfl ?_
  refine l_iload_n 0 (pc := 692) dL_law_692 rfl rfl ?_
  refine l_iconst (pc := 693) dL_law_693 ?_
  refine l_iadd (pc := 694) dL_law_694 ?_
  refine l_rd (pc := 695) dL_law_695 hL (by omega) (by omega) ?_
  refine l_aload_n 3 (pc := 696) dL_law_696 rfl rfl ?_
  refine l_iload_n 0 (pc := 697) dL_law_697 rfl rfl ?_
  refine l_iconst (pc := 698) dL_law_698 ?_
  refine l_iadd (pc := 699) dL_law_699 ?_
  refine l_rd (pc := 700) dL_law_700 hL (by omega) (by omega) ?_
  refine l_call (As := [vI (xv xs (i + 1).toNat), vI (xv xs (i + 2).toNat)]) (rest := []) (pc := 701) dL_law_701 me_X11_chance ml_L_78 rfl sh_0 (by decide) rfl ⟨by decide, by decide, rfl⟩ rfl ⟨rfl, rfl, rfl, rfl⟩ rfl rfl (c_X11_chance X (xv xs (i + 1).toNat) (xv xs (i + 2).toNat) (r_xv _ _) (r_xv _ _) (f_chance hI (xv xs (i + 1).toNat) (xv xs (i + 2).toNat))) (fun r1 σ1 hr1 h1 => ?_)
  show lok X b L xs 704 (lL X b i) [vL r1] σ1
  refine l_aload_n 1 (pc := 704) dL_law_704 rfl rfl ?_
  refine l_aload_n 3 (pc := 705) dL_law_705 rfl rfl ?_
  refine l_iload_n 0 (pc := 706) dL_law_706 rfl rfl ?_
  refine l_iconst (pc := 707) dL_law_707 ?_
  refine l_iadd (pc := 708) dL_law_708 ?_
  refine l_rd (pc := 709) dL_law_709 hL (by omega) (by omega) ?_
  refine l_aload_n 3 (pc := 710) dL_law_710 rfl rfl ?_
  refine l_iload_n 0 (pc := 711) dL_law_711 rfl rfl ?_
  refine l_iconst (pc := 712) dL_law_712 ?_
  refine l_iadd (pc := 713) dL_law_713 ?_
  refine l_rd (pc := 714) dL_law_714 hL (by omega) (by omega) ?_
  refine l_call (As := [vI (xv xs (i + 1).toNat), vI (xv xs (i + 2).toNat)]) (rest := [vL r1]) (pc := 715) dL_law_715 me_X12_chance ml_L_82 rfl sh_122 (by decide) rfl ⟨by decide, by decide, rfl⟩ rfl ⟨rfl, rfl, rfl, rfl⟩ rfl rfl (c_X12_chance X (xv xs (i + 1).toNat) (xv xs (i + 2).toNat) (r_xv _ _) (r_xv _ _) h1) (fun r2 σ2 hr2 h2 => ?_)
  show lok X b L xs 718 (lL X b i) [vL r2, vL r1] σ2
  refine l_lcmp_eq (tgt := 1408) (pc := 718) dL_law_718 dL_law_719 rfl hr1 hr2 h2.1 ?_
  exact K _ h2.2
set_option maxRecDepth 100000 in
set_option maxHeartbeats 4000000 in
theorem lc_look (X : XE) (b L : Nat) (xs : Nat → Int32) {σ : Mem} (hI : INV σ) (i : Int) (hL : L ≤ 4096) (h0 : 0 ≤ i) (h8 : i + 8 ≤ L) (K : ∀ σ' : Mem, INV σ' → lok X b L xs 1408 (lL X b i) [] σ') : lok X b L xs 724 (lL X b i) [] σ := by
  refine l_aload_n 2 (pc := 724) dL_law_724 rfl rfl ?_
  refine l_aload_n 3 (pc := 725) dL_law_725 rfl rfl ?_
  refine l_iload_n 0 (pc := 726) dL_law_726 rfl rfl ?_
  refine l_iconst (pc := 727) dL_law_727 ?_
  refine l_iadd (pc := 728) dL_law_728 ?_
  refine l_rd (pc := 729) dL_law_729 hL (by omega) (by omega) ?_
  refine l_aload_n 3 (pc := 730) dL_law_730 rfl rfl ?_
  refine l_iload_n 0 (pc := 731) dL_law_731 rfl rfl ?_
  refine l_iconst (pc := 732) dL_law_732 ?_
  refine l_iadd (pc := 733) dL_law_733 ?_
  refine l_rd (pc := 734) dL_law_734 hL (by omega) (by omega) ?_
  refine l_call (As := [vI (xv xs (i + 1).toNat), vI (xv xs (i + 2).toNat)]) (rest := []) (pc := 735) dL_law_735 me_X11_look ml_L_83 rfl sh_0 (by decide) rfl ⟨by decide, by decide, rfl⟩ rfl ⟨rfl, rfl, rfl, rfl⟩ rfl rfl (c_X11_look X (xv xs (i + 1).toNat) (xv xs (i + 2).toNat) (r_xv _ _) (r_xv _ _) (f_look hI (xv xs (i + 1).toNat) (xv xs (i + 2).toNat))) (fun r1 σ1 hr1 h1 => ?_)
  show lok X b L xs 738 (lL X b i) [vI r1] σ1
  refine l_aload_n 1 (pc := 738) dL_law_738 rfl rfl ?_
  refine l_aload_n 3 (pc := 739) dL_law_739 rfl rfl ?_
  refine l_iload_n 0 (pc := 740) dL_law_740 rfl rfl ?_
  refine l_iconst (pc := 741) dL_law_741 ?_
  refine l_iadd (pc := 742) dL_law_742 ?_
  refine l_rd (pc := 743) dL_law_743 hL (by omega) (by omega) ?_
  refine l_aload_n 3 (pc := 744) dL_law_744 rfl rfl ?_
  refine l_iload_n 0 (pc := 745) dL_law_745 rfl rfl ?_
  refine l_iconst (pc := 746) dL_law_746 ?_
  refine l_iadd (pc := 747) dL_law_747 ?_
  refine l_rd (pc := 748) dL_law_748 hL (by omega) (by omega) ?_
  refine l_call (As := [vI (xv xs (i + 1).toNat), vI (xv xs (i + 2).toNat)]) (rest := [vI r1]) (pc := 749) dL_law_749 me_X12_look ml_L_86 rfl sh_122 (by decide) rfl ⟨by decide, by decide, rfl⟩ rfl ⟨rfl, rfl, rfl, rfl⟩ rfl rfl (c_X12_look X (xv xs (i + 1).toNat) (xv xs (i + 2).toNat) (r_xv _ _) (r_xv _ _) h1) (fun r2 σ2 hr2 h2 => ?_)
  show lok X b L xs 752 (lL X b i) [vI r2, vI r1] σ2
  refine l_icmp_eq (tgt := 1408) (pc := 752) dL_law_752 rfl h2.1 ?_
  exact K _ h2.2
set_option maxRecDepth 100000 in
set_option maxHeartbeats 4000000 in
theorem lc_match (X : XE) (b L : Nat) (xs : Nat → Int32) {σ : Mem} (hI : INV σ) (i : Int) (hL : L ≤ 4096) (h0 : 0 ≤ i) (h8 : i + 8 ≤ L) (K : ∀ σ' : Mem, INV σ' → lok X b L xs 1408 (lL X b i) [] σ') : lok X b L xs 757 (lL X b i) [] σ := by
  refine l_aload_n 2 (pc := 757) dL_law_757 rfl rfl ?_
  refine l_aload_n 3 (pc := 758) dL_law_758 rfl rfl ?_
  refine l_iload_n 0 (pc := 759) dL_law_759 rfl rfl ?_
  refine l_iconst (pc := 760) dL_law_760 ?_
  refine l_iadd (pc := 761) dL_law_761 ?_
  refine l_rd (pc := 762) dL_law_762 hL (by omega) (by omega) ?_
  refine l_call (As := [vI (xv xs (i + 1).toNat)]) (rest := []) (pc := 763) dL_law_763 me_X11_match ml_L_87 rfl sh_0 (by decide) rfl ⟨by decide, by decide, rfl⟩ rfl ⟨rfl, rfl, rfl, rfl⟩ rfl rfl (c_X11_match X (xv xs (i + 1).toNat) (r_xv _ _) (f_match hI (xv xs (i + 1).toNat) (r_xv _ _))) (fun r1 σ1 hr1 h1 => ?_)
  show lok X b L xs 766 (lL X b i) [vI r1] σ1
  refine l_aload_n 1 (pc := 766) dL_law_766 rfl rfl ?_
  refine l_aload_n 3 (pc := 767) dL_law_767 rfl rfl ?_
  refine l_iload_n 0 (pc := 768) dL_law_768 rfl rfl ?_
  refine l_iconst (pc := 769) dL_law_769 ?_
  refine l_iadd (pc := 770) dL_law_770 ?_
  refine l_rd (pc := 771) dL_law_771 hL (by omega) (by omega) ?_
  refine l_call (As := [vI (xv xs (i + 1).toNat)]) (rest := [vI r1]) (pc := 772) dL_law_772 me_X12_match ml_L_90 rfl sh_122 (by decide) rfl ⟨by decide, by decide, rfl⟩ rfl ⟨rfl, rfl, rfl, rfl⟩ rfl rfl (c_X12_match X (xv xs (i + 1).toNat) (r_xv _ _) h1) (fun r2 σ2 hr2 h2 => ?_)
  show lok X b L xs 775 (lL X b i) [vI r2, vI r1] σ2
  refine l_icmp_eq (tgt := 1408) (pc := 775) dL_law_775 rfl h2.1 ?_
  exact K _ h2.2
set_option maxRecDepth 100000 in
set_option maxHeartbeats 4000000 in
theorem lc_byChance (X : XE) (b L : Nat) (xs : Nat → Int32) {σ : Mem} (hI : INV σ) (i : Int) (hL : L ≤ 4096) (h0 : 0 ≤ i) (h8 : i + 8 ≤ L) (K : ∀ σ' : Mem, INV σ' → lok X b L xs 1408 (lL X b i) [] σ') : lok X b L xs 780 (lL X b i) [] σ := by
  refine l_aload_n 2 (pc := 780) dL_law_780 rfl rfl ?_
  refine l_aload_n 3 (pc := 781) dL_law_781 rfl rfl ?_
  refine l_iload_n 0 (pc := 782) dL_law_782 rfl rfl ?_
  refine l_iconst (pc := 783) dL_law_783 ?_
  refine l_iadd (pc := 784) dL_law_784 ?_
  refine l_rd (pc := 785) dL_law_785 hL (by omega) (by omega) ?_
  refine l_call (As := [vI (xv xs (i + 1).toNat)]) (rest := []) (pc := 786) dL_law_786 me_X11_byChance ml_L_91 rfl sh_0 (by decide) rfl ⟨by decide, by decide, rfl⟩ rfl ⟨rfl, rfl, rfl, rfl⟩ rfl rfl (c_X11_byChance X (xv xs (i + 1).toNat) (r_xv _ _) (f_byChance hI (xv xs (i + 1).toNat))) (fun r1 σ1 hr1 h1 => ?_)
  show lok X b L xs 789 (lL X b i) [vL r1] σ1
  refine l_aload_n 1 (pc := 789) dL_law_789 rfl rfl ?_
  refine l_aload_n 3 (pc := 790) dL_law_790 rfl rfl ?_
  refine l_iload_n 0 (pc := 791) dL_law_791 rfl rfl ?_
  refine l_iconst (pc := 792) dL_law_792 ?_
  refine l_iadd (pc := 793) dL_law_793 ?_
  refine l_rd (pc := 794) dL_law_794 hL (by omega) (by omega) ?_
  refine l_call (As := [vI (xv xs (i + 1).toNat)]) (rest := [vL r1]) (pc := 795) dL_law_795 me_X12_byChance ml_L_95 rfl sh_122 (by decide) rfl ⟨by decide, by decide, rfl⟩ rfl ⟨rfl, rfl, rfl, rfl⟩ rfl rfl (c_X12_byChance X (xv xs (i + 1).toNat) (r_xv _ _) h1) (fun r2 σ2 hr2 h2 => ?_)
  show lok X b L xs 798 (lL X b i) [vL r2, vL r1] σ2
  refine l_lcmp_eq (tgt := 1408) (pc := 798) dL_law_798 dL_law_799 rfl hr1 hr2 h2.1 ?_
  exact K _ h2.2
set_option maxRecDepth 100000 in
set_option maxHeartbeats 4000000 in
theorem lc_grown (X : XE) (b L : Nat) (xs : Nat → Int32) {σ : Mem} (hI : INV σ) (i : Int) (hL : L ≤ 4096) (h0 : 0 ≤ i) (h8 : i + 8 ≤ L) (K : ∀ σ' : Mem, INV σ' → lok X b L xs 1408 (lL X b i) [] σ') : lok X b L xs 804 (lL X b i) [] σ := by
  refine l_aload_n 2 (pc := 804) dL_law_804 rfl rfl ?_
  refine l_aload_n 3 (pc := 805) dL_law_805 rfl rfl ?_
  refine l_iload_n 0 (pc := 806) dL_law_806 rfl rfl ?_
  refine l_iconst (pc := 807) dL_law_807 ?_
  refine l_iadd (pc := 808) dL_law_808 ?_
  refine l_rd (pc := 809) dL_law_809 hL (by omega) (by omega) ?_
  refine l_aload_n 3 (pc := 810) dL_law_810 rfl rfl ?_
  refine l_iload_n 0 (pc := 811) dL_law_811 rfl rfl ?_
  refine l_iconst (pc := 812) dL_law_812 ?_
  refine l_iadd (pc := 813) dL_law_813 ?_
  refine l_rd (pc := 814) dL_law_814 hL (by omega) (by omega) ?_
  refine l_aload_n 3 (pc := 815) dL_law_815 rfl rfl ?_
  refine l_iload_n 0 (pc := 816) dL_law_816 rfl rfl ?_
  refine l_iconst (pc := 817) dL_law_817 ?_
  refine l_iadd (pc := 818) dL_law_818 ?_
  refine l_rd (pc := 819) dL_law_819 hL (by omega) (by omega) ?_
  refine l_call (As := [vI (xv xs (i + 1).toNat), vI (xv xs (i + 2).toNat), vI (xv xs (i + 3).toNat)]) (rest := []) (pc := 820) dL_law_820 me_X11_grown ml_L_96 rfl sh_0 (by decide) rfl ⟨by decide, by decide, rfl⟩ rfl ⟨rfl, rfl, rfl, rfl⟩ rfl rfl (c_X11_grown X (xv xs (i + 1).toNat) (xv xs (i + 2).toNat) (xv xs (i + 3).toNat) (r_xv _ _) (r_xv _ _) (r_xv _ _) (f_grown hI (xv xs (i + 1).toNat) (xv xs (i + 2).toNat) (xv xs (i + 3).toNat))) (fun r1 σ1 hr1 h1 => ?_)
  show lok X b L xs 823 (lL X b i) [vI r1] σ1
  refine l_aload_n 1 (pc := 823) dL_law_823 rfl rfl ?_
  refine l_aload_n 3 (pc := 824) dL_law_824 rfl rfl ?_
  refine l_iload_n 0 (pc := 825) dL_law_825 rfl rfl ?_
  refine l_iconst (pc := 826) dL_law_826 ?_
  refine l_iadd (pc := 827) dL_law_827 ?_
  refine l_rd (pc := 828) dL_law_828 hL (by omega) (by omega) ?_
  refine l_aload_n 3 (pc := 829) dL_law_829 rfl rfl ?_
  refine l_iload_n 0 (pc := 830) dL_law_830 rfl rfl ?_
  refine l_iconst (pc := 831) dL_law_831 ?_
  refine l_iadd (pc := 832) dL_law_832 ?_
  refine l_rd (pc := 833) dL_law_833 hL (by omega) (by omega) ?_
  refine l_aload_n 3 (pc := 834) dL_law_834 rfl rfl ?_
  refine l_iload_n 0 (pc := 835) dL_law_835 rfl rfl ?_
  refine l_iconst (pc := 836) dL_law_836 ?_
  refine l_iadd (pc := 837) dL_law_837 ?_
  refine l_rd (pc := 838) dL_law_838 hL (by omega) (by omega) ?_
  refine l_call (As := [vI (xv xs (i + 1).toNat), vI (xv xs (i + 2).toNat), vI (xv xs (i + 3).toNat)]) (rest := [vI r1]) (pc := 839) dL_law_839 me_X12_grown ml_L_99 rfl sh_122 (by decide) rfl ⟨by decide, by decide, rfl⟩ rfl ⟨rfl, rfl, rfl, rfl⟩ rfl rfl (c_X12_grown X (xv xs (i + 1).toNat) (xv xs (i + 2).toNat) (xv xs (i + 3).toNat) (r_xv _ _) (r_xv _ _) (r_xv _ _) h1) (fun r2 σ2 hr2 h2 => ?_)
  show lok X b L xs 842 (lL X b i) [vI r2, vI r1] σ2
  refine l_icmp_eq (tgt := 1408) (pc := 842) dL_law_842 rfl h2.1 ?_
  exact K _ h2.2
set_option maxRecDepth 100000 in
set_option maxHeartbeats 4000000 in
theorem lc_beside (X : XE) (b L : Nat) (xs : Nat → Int32) {σ : Mem} (hI : INV σ) (i : Int) (hL : L ≤ 4096) (h0 : 0 ≤ i) (h8 : i + 8 ≤ L) (K : ∀ σ' : Mem, INV σ' → lok X b L xs 1408 (lL X b i) [] σ') : lok X b L xs 847 (lL X b i) [] σ := by
  refine l_aload_n 2 (pc := 847) dL_law_847 rfl rfl ?_
  refine l_aload_n 3 (pc := 848) dL_law_848 rfl rfl ?_
  refine l_iload_n 0 (pc := 849) dL_law_849 rfl rfl ?_
  refine l_iconst (pc := 850) dL_law_850 ?_
  refine l_iadd (pc := 851) dL_law_851 ?_
  refine l_rd (pc := 852) dL_law_852 hL (by omega) (by omega) ?_
  refine l_aload_n 3 (pc := 853) dL_law_853 rfl rfl ?_
  refine l_iload_n 0 (pc := 854) dL_law_854 rfl rfl ?_
  refine l_iconst (pc := 855) dL_law_855 ?_
  refine l_iadd (pc := 856) dL_law_856 ?_
  refine l_rd (pc := 857) dL_law_857 hL (by omega) (by omega) ?_
  refine l_aload_n 3 (pc := 858) dL_law_858 rfl rfl ?_
  refine l_iload_n 0 (pc := 859) dL_law_859 rfl rfl ?_
  refine l_iconst (pc := 860) dL_law_860 ?_
  refine l_iadd (pc := 861) dL_law_861 ?_
  refine l_rd (pc := 862) dL_law_862 hL (by omega) (by omega) ?_
  refine l_call (As := [vI (xv xs (i + 1).toNat), vI (xv xs (i + 2).toNat), vI (xv xs (i + 3).toNat)]) (rest := []) (pc := 863) dL_law_863 me_X11_beside ml_L_100 rfl sh_0 (by decide) rfl ⟨by decide, by decide, rfl⟩ rfl ⟨rfl, rfl, rfl, rfl⟩ rfl rfl (c_X11_beside X (xv xs (i + 1).toNat) (xv xs (i + 2).toNat) (xv xs (i + 3).toNat) (r_xv _ _) (r_xv _ _) (r_xv _ _) (f_beside hI (xv xs (i + 1).toNat) (xv xs (i + 2).toNat) (xv xs (i + 3).toNat))) (fun r1 σ1 hr1 h1 => ?_)
  show lok X b L xs 866 (lL X b i) [vI r1] σ1
  refine l_aload_n 1 (pc := 866) dL_law_866 rfl rfl ?_
  refine l_aload_n 3 (pc := 867) dL_law_867 rfl rfl ?_
  refine l_iload_n 0 (pc := 868) dL_law_868 rfl rfl ?_
  refine l_iconst (pc := 869) dL_law_869 ?_
  refine l_iadd (pc := 870) dL_law_870 ?_
  refine l_rd (pc := 871) dL_law_871 hL (by omega) (by omega) ?_
  refine l_aload_n 3 (pc := 872) dL_law_872 rfl rfl ?_
  refine l_iload_n 0 (pc := 873) dL_law_873 rfl rfl ?_
  refine l_iconst (pc := 874) dL_law_874 ?_
  refine l_iadd (pc := 875) dL_law_875 ?_
  refine l_rd (pc := 876) dL_law_876 hL (by omega) (by omega) ?_
  refine l_aload_n 3 (pc := 877) dL_law_877 rfl rfl ?_
  refine l_iload_n 0 (pc := 878) dL_law_878 rfl rfl ?_
  refine l_iconst (pc := 879) dL_law_879 ?_
  refine l_iadd (pc := 880) dL_law_880 ?_
  refine l_rd (pc := 881) dL_law_881 hL (by omega) (by omega) ?_
  refine l_call (As := [vI (xv xs (i + 1).toNat), vI (xv xs (i + 2).toNat), vI (xv xs (i + 3).toNat)]) (rest := [vI r1]) (pc := 882) dL_law_882 me_X12_beside ml_L_103 rfl sh_122 (by decide) rfl ⟨by decide, by decide, rfl⟩ rfl ⟨rfl, rfl, rfl, rfl⟩ rfl rfl (c_X12_beside X (xv xs (i + 1).toNat) (xv xs (i + 2).toNat) (xv xs (i + 3).toNat) (r_xv _ _) (r_xv _ _) (r_xv _ _) h1) (fun r2 σ2 hr2 h2 => ?_)
  show lok X b L xs 885 (lL X b i) [vI r2, vI r1] σ2
  refine l_icmp_eq (tgt := 1408) (pc := 885) dL_law_885 rfl h2.1 ?_
  exact K _ h2.2
set_option maxRecDepth 100000 in
set_option maxHeartbeats 4000000 in
theorem lc_bar (X : XE) (b L : Nat) (xs : Nat → Int32) {σ : Mem} (hI : INV σ) (i : Int) (hL : L ≤ 4096) (h0 : 0 ≤ i) (h8 : i + 8 ≤ L) (K : ∀ σ' : Mem, INV σ' → lok X b L xs 1408 (lL X b i) [] σ') : lok X b L xs 890 (lL X b i) [] σ := by
  refine l_aload_n 2 (pc := 890) dL_law_890 rfl rfl ?_
  refine l_aload_n 3 (pc := 891) dL_law_891 rfl rfl ?_
  refine l_iload_n 0 (pc := 892) dL_law_892 rfl rfl ?_
  refine l_iconst (pc := 893) dL_law_893 ?_
  refine l_iadd (pc := 894) dL_law_894 ?_
  refine l_rd (pc := 895) dL_law_895 hL (by omega) (by omega) ?_
  refine l_aload_n 3 (pc := 896) dL_law_896 rfl rfl ?_
  refine l_iload_n 0 (pc := 897) dL_law_897 rfl rfl ?_
  refine l_iconst (pc := 898) dL_law_898 ?_
  refine l_iadd (pc := 899) dL_law_899 ?_
  refine l_rd (pc := 900) dL_law_900 hL (by omega) (by omega) ?_
  refine l_aload_n 3 (pc := 901) dL_law_901 rfl rfl ?_
  refine l_iload_n 0 (pc := 902) dL_law_902 rfl rfl ?_
  refine l_iconst (pc := 903) dL_law_903 ?_
  refine l_iadd (pc := 904) dL_law_904 ?_
  refine l_rd (pc := 905) dL_law_905 hL (by omega) (by omega) ?_
  refine l_bit (pc := 906) dL_law_906 dL_law_909 dL_law_910 dL_law_913 (r_xv _ _) ?_
  refine l_call (As := [vI (xv xs (i + 1).toNat), vI (xv xs (i + 2).toNat), vI (bitI (xv xs (i + 3).toNat))]) (rest := []) (pc := 914) dL_law_914 me_X11_bar ml_L_104 rfl sh_0 (by decide) rfl ⟨by decide, by decide, rfl⟩ rfl ⟨rfl, rfl, rfl, rfl⟩ rfl rfl (c_X11_bar X (xv xs (i + 1).toNat) (xv xs (i + 2).toNat) (bitI (xv xs (i + 3).toNat)) (r_xv _ _) (r_xv _ _) (r_bitI _) (f_bar hI (xv xs (i + 1).toNat) (xv xs (i + 2).toNat) (bitI (xv xs (i + 3).toNat)) (bitI_01 _))) (fun r1 σ1 hr1 h1 => ?_)
  show lok X b L xs 917 (lL X b i) [vI r1] σ1
  refine l_aload_n 1 (pc := 917) dL_law_917 rfl rfl ?_
  refine l_aload_n 3 (pc := 918) dL_law_918 rfl rfl ?_
  refine l_iload_n 0 (pc := 919) dL_law_919 rfl rfl ?_
  refine l_iconst (pc := 920) dL_law_920 ?_
  refine l_iadd (pc := 921) dL_law_921 ?_
  refine l_rd (pc := 922) dL_law_922 hL (by omega) (by omega) ?_
  refine l_aload_n 3 (pc := 923) dL_law_923 rfl rfl ?_
  refine l_iload_n 0 (pc := 924) dL_law_924 rfl rfl ?_
  refine l_iconst (pc := 925) dL_law_925 ?_
  refine l_iadd (pc := 926) dL_law_926 ?_
  refine l_rd (pc := 927) dL_law_927 hL (by omega) (by omega) ?_
  refine l_aload_n 3 (pc := 928) dL_law_928 rfl rfl ?_
  refine l_iload_n 0 (pc := 929) dL_law_929 rfl rfl ?_
  refine l_iconst (pc := 930) dL_law_930 ?_
  refine l_iadd (pc := 931) dL_law_931 ?_
  refine l_rd (pc := 932) dL_law_932 hL (by omega) (by omega) ?_
  refine l_bit (pc := 933) dL_law_933 dL_law_936 dL_law_937 dL_law_940 (r_xv _ _) ?_
  refine l_call (As := [vI (xv xs (i + 1).toNat), vI (xv xs (i + 2).toNat), vI (bitI (xv xs (i + 3).toNat))]) (rest := [vI r1]) (pc := 941) dL_law_941 me_X12_bar ml_L_108 rfl sh_122 (by decide) rfl ⟨by decide, by decide, rfl⟩ rfl ⟨rfl, rfl, rfl, rfl⟩ rfl rfl (c_X12_bar X (xv xs (i + 1).toNat) (xv xs (i + 2).toNat) (bitI (xv xs (i + 3).toNat)) (r_xv _ _) (r_xv _ _) (r_bitI _) h1) (fun r2 σ2 hr2 h2 => ?_)
  show lok X b L xs 944 (lL X b i) [vI r2, vI r1] σ2
  refine l_icmp_eq (tgt := 1408) (pc := 944) dL_law_944 rfl h2.1 ?_
  exact K _ h2.2
set_option maxRecDepth 100000 in
set_option maxHeartbeats 4000000 in
theorem lc_join (X : XE) (b L : Nat) (xs : Nat → Int32) {σ : Mem} (hI : INV σ) (i : Int) (hL : L ≤ 4096) (h0 : 0 ≤ i) (h8 : i + 8 ≤ L) (K : ∀ σ' : Mem, INV σ' → lok X b L xs 1408 (lL X b i) [] σ') : lok X b L xs 949 (lL X b i) [] σ := by
  refine l_aload_n 2 (pc := 949) dL_law_949 rfl rfl ?_
  refine l_aload_n 3 (pc := 950) dL_law_950 rfl rfl ?_
  refine l_iload_n 0 (pc := 951) dL_law_951 rfl rfl ?_
  refine l_iconst (pc := 952) dL_law_952 ?_
  refine l_iadd (pc := 953) dL_law_953 ?_
  refine l_rd (pc := 954) dL_law_954 hL (by omega) (by omega) ?_
  refine l_aload_n 3 (pc := 955) dL_law_955 rfl rfl ?_
  refine l_iload_n 0 (pc := 956) dL_law_956 rfl rfl ?_
  refine l_iconst (pc := 957) dL_law_957 ?_
  refine l_iadd (pc := 958) dL_law_958 ?_
  refine l_rd (pc := 959) dL_law_959 hL (by omega) (by omega) ?_
  refine l_call (As := [vI (xv xs (i + 1).toNat), vI (xv xs (i + 2).toNat)]) (rest := []) (pc := 960) dL_law_960 me_X11_join ml_L_109 rfl sh_0 (by decide) rfl ⟨by decide, by decide, rfl⟩ rfl ⟨rfl, rfl, rfl, rfl⟩ rfl rfl (c_X11_join X (xv xs (i + 1).toNat) (xv xs (i + 2).toNat) (r_xv _ _) (r_xv _ _) (f_join hI (xv xs (i + 1).toNat) (xv xs (i + 2).toNat))) (fun r1 σ1 hr1 h1 => ?_)
  show lok X b L xs 963 (lL X b i) [vI r1] σ1
  refine l_aload_n 1 (pc := 963) dL_law_963 rfl rfl ?_
  refine l_aload_n 3 (pc := 964) dL_law_964 rfl rfl ?_
  refine l_iload_n 0 (pc := 965) dL_law_965 rfl rfl ?_
  refine l_iconst (pc := 966) dL_law_966 ?_
  refine l_iadd (pc := 967) dL_law_967 ?_
  refine l_rd (pc := 968) dL_law_968 hL (by omega) (by omega) ?_
  refine l_aload_n 3 (pc := 969) dL_law_969 rfl rfl ?_
  refine l_iload_n 0 (pc := 970) dL_law_970 rfl rfl ?_
  refine l_iconst (pc := 971) dL_law_971 ?_
  refine l_iadd (pc := 972) dL_law_972 ?_
  refine l_rd (pc := 973) dL_law_973 hL (by omega) (by omega) ?_
  refine l_call (As := [vI (xv xs (i + 1).toNat), vI (xv xs (i + 2).toNat)]) (rest := [vI r1]) (pc := 974) dL_law_974 me_X12_join ml_L_112 rfl sh_122 (by decide) rfl ⟨by decide, by decide, rfl⟩ rfl ⟨rfl, rfl, rfl, rfl⟩ rfl rfl (c_X12_join X (xv xs (i + 1).toNat) (xv xs (i + 2).toNat) (r_xv _ _) (r_xv _ _) h1) (fun r2 σ2 hr2 h2 => ?_)
  show lok X b L xs 977 (lL X b i) [vI r2, vI r1] σ2
  refine l_icmp_eq (tgt := 1408) (pc := 977) dL_law_977 rfl h2.1 ?_
  exact K _ h2.2
set_option maxRecDepth 100000 in
set_option maxHeartbeats 4000000 in
theorem lc_men (X : XE) (b L : Nat) (xs : Nat → Int32) {σ : Mem} (hI : INV σ) (i : Int) (hL : L ≤ 4096) (h0 : 0 ≤ i) (h8 : i + 8 ≤ L) (K : ∀ σ' : Mem, INV σ' → lok X b L xs 1408 (lL X b i) [] σ') : lok X b L xs 982 (lL X b i) [] σ := by
  refine l_aload_n 2 (pc := 982) dL_law_982 rfl rfl ?_
  refine l_aload_n 3 (pc := 983) dL_law_983 rfl rfl ?_
  refine l_iload_n 0 (pc := 984) dL_law_984 rfl rfl ?_
  refine l_iconst (pc := 985) dL_law_985 ?_
  refine l_iadd (pc := 986) dL_law_986 ?_
  refine l_rd (pc := 987) dL_law_987 hL (by omega) (by omega) ?_
  refine l_call (As := [vI (xv xs (i + 1).toNat)]) (rest := []) (pc := 988) dL_law_988 me_X11_men ml_L_113 rfl sh_0 (by decide) rfl ⟨by decide, by decide, rfl⟩ rfl ⟨rfl, rfl, rfl, rfl⟩ rfl rfl (c_X11_men X (xv xs (i + 1).toNat) (r_xv _ _) (f_men hI (xv xs (i + 1).toNat) (r_xv _ _))) (fun r1 σ1 hr1 h1 => ?_)
  show lok X b L xs 991 (lL X b i) [vI r1] σ1
  refine l_aload_n 1 (pc := 991) dL_law_991 rfl rfl ?_
  refine l_aload_n 3 (pc := 992) dL_law_992 rfl rfl ?_
  refine l_iload_n 0 (pc := 993) dL_law_993 rfl rfl ?_
  refine l_iconst (pc := 994) dL_law_994 ?_
  refine l_iadd (pc := 995) dL_law_995 ?_
  refine l_rd (pc := 996) dL_law_996 hL (by omega) (by omega) ?_
  refine l_call (As := [vI (xv xs (i + 1).toNat)]) (rest := [vI r1]) (pc := 997) dL_law_997 me_X12_men ml_L_116 rfl sh_122 (by decide) rfl ⟨by decide, by decide, rfl⟩ rfl ⟨rfl, rfl, rfl, rfl⟩ rfl rfl (c_X12_men X (xv xs (i + 1).toNat) (r_xv _ _) h1) (fun r2 σ2 hr2 h2 => ?_)
  show lok X b L xs 1000 (lL X b i) [vI r2, vI r1] σ2
  refine l_icmp_eq (tgt := 1408) (pc := 1000) dL_law_1000 rfl h2.1 ?_
  exact K _ h2.2
set_option maxRecDepth 100000 in
set_option maxHeartbeats 4000000 in
theorem lc_guess (X : XE) (b L : Nat) (xs : Nat → Int32) {σ : Mem} (hI : INV σ) (i : Int) (hL : L ≤ 4096) (h0 : 0 ≤ i) (h8 : i + 8 ≤ L) (K : ∀ σ' : Mem, INV σ' → lok X b L xs 1408 (lL X b i) [] σ') : lok X b L xs 1005 (lL X b i) [] σ := by
  refine l_aload_n 2 (pc := 1005) dL_law_1005 rfl rfl ?_
  refine l_aload_n 3 (pc := 1006) dL_law_1006 rfl rfl ?_
  refine l_iload_n 0 (pc := 1007) dL_law_1007 rfl rfl ?_
  refine l_iconst (pc := 1008) dL_law_1008 ?_
  refine l_iadd (pc := 1009) dL_law_1009 ?_
  refine l_rd (pc := 1010) dL_law_1010 hL (by omega) (by omega) ?_
  refine l_aload_n 3 (pc := 1011) dL_law_1011 rfl rfl ?_
  refine l_iload_n 0 (pc := 1012) dL_law_1012 rfl rfl ?_
  refine l_iconst (pc := 1013) dL_law_1013 ?_
  refine l_iadd (pc := 1014) dL_law_1014 ?_
  refine l_rd (pc := 1015) dL_law_1015 hL (by omega) (by omega) ?_
  refine l_aload_n 3 (pc := 1016) dL_law_1016 rfl rfl ?_
  refine l_iload_n 0 (pc := 1017) dL_law_1017 rfl rfl ?_
  refine l_iconst (pc := 1018) dL_law_1018 ?_
  refine l_iadd (pc := 1019) dL_law_1019 ?_
  refine l_rd (pc := 1020) dL_law_1020 hL (by omega) (by omega) ?_
  refine l_call (As := [vI (xv xs (i + 1).toNat), vI (xv xs (i + 2).toNat), vI (xv xs (i + 3).toNat)]) (rest := []) (pc := 1021) dL_law_1021 me_X11_guess ml_L_117 rfl sh_0 (by decide) rfl ⟨by decide, by decide, rfl⟩ rfl ⟨rfl, rfl, rfl, rfl⟩ rfl rfl (c_X11_guess X (xv xs (i + 1).toNat) (xv xs (i + 2).toNat) (xv xs (i + 3).toNat) (r_xv _ _) (r_xv _ _) (r_xv _ _) (f_guess hI (xv xs (i + 1).toNat) (xv xs (i + 2).toNat) (xv xs (i + 3).toNat))) (fun r1 σ1 hr1 h1 => ?_)
  show lok X b L xs 1024 (lL X b i) [vI r1] σ1
  refine l_aload_n 1 (pc := 1024) dL_law_1024 rfl rfl ?_
  refine l_aload_n 3 (pc := 1025) dL_law_1025 rfl rfl ?_
  refine l_iload_n 0 (pc := 1026) dL_law_1026 rfl rfl ?_
  refine l_iconst (pc := 1027) dL_law_1027 ?_
  refine l_iadd (pc := 1028) dL_law_1028 ?_
  refine l_rd (pc := 1029) dL_law_1029 hL (by omega) (by omega) ?_
  refine l_aload_n 3 (pc := 1030) dL_law_1030 rfl rfl ?_
  refine l_iload_n 0 (pc := 1031) dL_law_1031 rfl rfl ?_
  refine l_iconst (pc := 1032) dL_law_1032 ?_
  refine l_iadd (pc := 1033) dL_law_1033 ?_
  refine l_rd (pc := 1034) dL_law_1034 hL (by omega) (by omega) ?_
  refine l_aload_n 3 (pc := 1035) dL_law_1035 rfl rfl ?_
  refine l_iload_n 0 (pc := 1036) dL_law_1036 rfl rfl ?_
  refine l_iconst (pc := 1037) dL_law_1037 ?_
  refine l_iadd (pc := 1038) dL_law_1038 ?_
  refine l_rd (pc := 1039) dL_law_1039 hL (by omega) (by omega) ?_
  refine l_call (As := [vI (xv xs (i + 1).toNat), vI (xv xs (i + 2).toNat), vI (xv xs (i + 3).toNat)]) (rest := [vI r1]) (pc := 1040) dL_law_1040 me_X12_guess ml_L_120 rfl sh_122 (by decide) rfl ⟨by decide, by decide, rfl⟩ rfl ⟨rfl, rfl, rfl, rfl⟩ rfl rfl (c_X12_guess X (xv xs (i + 1).toNat) (xv xs (i + 2).toNat) (xv xs (i + 3).toNat) (r_xv _ _) (r_xv _ _) (r_xv _ _) h1) (fun r2 σ2 hr2 h2 => ?_)
  show lok X b L xs 1043 (lL X b i) [vI r2, vI r1] σ2
  refine l_icmp_eq (tgt := 1408) (pc := 1043) dL_law_1043 rfl h2.1 ?_
  exact K _ h2.2
set_option maxRecDepth 100000 in
set_option maxHeartbeats 4000000 in
theorem lc_even (X : XE) (b L : Nat) (xs : Nat → Int32) {σ : Mem} (hI : INV σ) (i : Int) (hL : L ≤ 4096) (h0 : 0 ≤ i) (h8 : i + 8 ≤ L) (K : ∀ σ' : Mem, INV σ' → lok X b L xs 1408 (lL X b i) [] σ') : lok X b L xs 1048 (lL X b i) [] σ := by
  refine l_aload_n 2 (pc := 1048) dL_law_1048 rfl rfl ?_
  refine l_aload_n 3 (pc := 1049) dL_law_1049 rfl rfl ?_
  refine l_iload_n 0 (pc := 1050) dL_law_1050 rfl rfl ?_
  refine l_iconst (pc := 1051) dL_law_1051 ?_
  refine l_iadd (pc := 1052) dL_law_1052 ?_
  refine l_rd (pc := 1053) dL_law_1053 hL (by omega) (by omega) ?_
  refine l_aload_n 3 (pc := 1054) dL_law_1054 rfl rfl ?_
  refine l_iload_n 0 (pc := 1055) dL_law_1055 rfl rfl ?_
  refine l_iconst (pc := 1056) dL_law_1056 ?_
  refine l_iadd (pc := 1057) dL_law_1057 ?_
  refine l_rd (pc := 1058) dL_law_1058 hL (by omega) (by omega) ?_
  refine l_aload_n 3 (pc := 1059) dL_law_1059 rfl rfl ?_
  refine l_iload_n 0 (pc := 1060) dL_law_1060 rfl rfl ?_
  refine l_iconst (pc := 1061) dL_law_1061 ?_
  refine l_iadd (pc := 1062) dL_law_1062 ?_
  refine l_rd (pc := 1063) dL_law_1063 hL (by omega) (by omega) ?_
  refine l_call (As := [vI (xv xs (i + 1).toNat), vI (xv xs (i + 2).toNat), vI (xv xs (i + 3).toNat)]) (rest := []) (pc := 1064) dL_law_1064 me_X11_even ml_L_121 rfl sh_0 (by decide) rfl ⟨by decide, by decide, rfl⟩ rfl ⟨rfl, rfl, rfl, rfl⟩ rfl rfl (c_X11_even X (xv xs (i + 1).toNat) (xv xs (i + 2).toNat) (xv xs (i + 3).toNat) (r_xv _ _) (r_xv _ _) (r_xv _ _) (f_even hI (xv xs (i + 1).toNat) (xv xs (i + 2).toNat) (xv xs (i + 3).toNat))) (fun r1 σ1 hr1 h1 => ?_)
  show lok X b L xs 1067 (lL X b i) [vI r1] σ1
  refine l_aload_n 1 (pc := 1067) dL_law_1067 rfl rfl ?_
  refine l_aload_n 3 (pc := 1068) dL_law_1068 rfl rfl ?_
  refine l_iload_n 0 (pc := 1069) dL_law_1069 rfl rfl ?_
  refine l_iconst (pc := 1070) dL_law_1070 ?_
  refine l_iadd (pc := 1071) dL_law_1071 ?_
  refine l_rd (pc := 1072) dL_law_1072 hL (by omega) (by omega) ?_
  refine l_aload_n 3 (pc := 1073) dL_law_1073 rfl rfl ?_
  refine l_iload_n 0 (pc := 1074) dL_law_1074 rfl rfl ?_
  refine l_iconst (pc := 1075) dL_law_1075 ?_
  refine l_iadd (pc := 1076) dL_law_1076 ?_
  refine l_rd (pc := 1077) dL_law_1077 hL (by omega) (by omega) ?_
  refine l_aload_n 3 (pc := 1078) dL_law_1078 rfl rfl ?_
  refine l_iload_n 0 (pc := 1079) dL_law_1079 rfl rfl ?_
  refine l_iconst (pc := 1080) dL_law_1080 ?_
  refine l_iadd (pc := 1081) dL_law_1081 ?_
  refine l_rd (pc := 1082) dL_law_1082 hL (by omega) (by omega) ?_
  refine l_call (As := [vI (xv xs (i + 1).toNat), vI (xv xs (i + 2).toNat), vI (xv xs (i + 3).toNat)]) (rest := [vI r1]) (pc := 1083) dL_law_1083 me_X12_even ml_L_124 rfl sh_122 (by decide) rfl ⟨by decide, by decide, rfl⟩ rfl ⟨rfl, rfl, rfl, rfl⟩ rfl rfl (c_X12_even X (xv xs (i + 1).toNat) (xv xs (i + 2).toNat) (xv xs (i + 3).toNat) (r_xv _ _) (r_xv _ _) (r_xv _ _) h1) (fun r2 σ2 hr2 h2 => ?_)
  show lok X b L xs 1086 (lL X b i) [vI r2, vI r1] σ2
  refine l_icmp_eq (tgt := 1408) (pc := 1086) dL_law_1086 rfl h2.1 ?_
  exact K _ h2.2
set_option maxRecDepth 100000 in
set_option maxHeartbeats 4000000 in
theorem lc_judge (X : XE) (b L : Nat) (xs : Nat → Int32) {σ : Mem} (hI : INV σ) (i : Int) (hL : L ≤ 4096) (h0 : 0 ≤ i) (h8 : i + 8 ≤ L) (K : ∀ σ' : Mem, INV σ' → lok X b L xs 1408 (lL X b i) [] σ') : lok X b L xs 1091 (lL X b i) [] σ := by
  refine l_aload_n 2 (pc := 1091) dL_law_1091 rfl rfl ?_
  refine l_aload_n 3 (pc := 1092) dL_law_1092 rfl rfl ?_
  refine l_iload_n 0 (pc := 1093) dL_law_1093 rfl rfl ?_
  refine l_iconst (pc := 1094) dL_law_1094 ?_
  refine l_iadd (pc := 1095) dL_law_1095 ?_
  refine l_rd (pc := 1096) dL_law_1096 hL (by omega) (by omega) ?_
  refine l_aload_n 3 (pc := 1097) dL_law_1097 rfl rfl ?_
  refine l_iload_n 0 (pc := 1098) dL_law_1098 rfl rfl ?_
  refine l_iconst (pc := 1099) dL_law_1099 ?_
  refine l_iadd (pc := 1100) dL_law_1100 ?_
  refine l_rd (pc := 1101) dL_law_1101 hL (by omega) (by omega) ?_
  refine l_aload_n 3 (pc := 1102) dL_law_1102 rfl rfl ?_
  refine l_iload_n 0 (pc := 1103) dL_law_1103 rfl rfl ?_
  refine l_iconst (pc := 1104) dL_law_1104 ?_
  refine l_iadd (pc := 1105) dL_law_1105 ?_
  refine l_rd (pc := 1106) dL_law_1106 hL (by omega) (by omega) ?_
  refine l_aload_n 3 (pc := 1107) dL_law_1107 rfl rfl ?_
  refine l_iload_n 0 (pc := 1108) dL_law_1108 rfl rfl ?_
  refine l_iconst (pc := 1109) dL_law_1109 ?_
  refine l_iadd (pc := 1110) dL_law_1110 ?_
  refine l_rd (pc := 1111) dL_law_1111 hL (by omega) (by omega) ?_
  refine l_call (As := [vI (xv xs (i + 1).toNat), vI (xv xs (i + 2).toNat), vI (xv xs (i + 3).toNat), vI (xv xs (i + 4).toNat)]) (rest := []) (pc := 1112) dL_law_1112 me_X11_judge ml_L_125 rfl sh_0 (by decide) rfl ⟨by decide, by decide, rfl⟩ rfl ⟨rfl, rfl, rfl, rfl⟩ rfl rfl (c_X11_judge X (xv xs (i + 1).toNat) (xv xs (i + 2).toNat) (xv xs (i + 3).toNat) (xv xs (i + 4).toNat) (r_xv _ _) (r_xv _ _) (r_xv _ _) (r_xv _ _) (f_judge hI (xv xs (i + 1).toNat) (xv xs (i + 2).toNat) (xv xs (i + 3).toNat) (xv xs (i + 4).toNat))) (fun r1 σ1 hr1 h1 => ?_)
  show lok X b L xs 1115 (lL X b i) [vI r1] σ1
  refine l_aload_n 1 (pc := 1115) dL_law_1115 rfl rfl ?_
  refine l_aload_n 3 (pc := 1116) dL_law_1116 rfl rfl ?_
  refine l_iload_n 0 (pc := 1117) dL_law_1117 rfl rfl ?_
  refine l_iconst (pc := 1118) dL_law_1118 ?_
  refine l_iadd (pc := 1119) dL_law_1119 ?_
  refine l_rd (pc := 1120) dL_law_1120 hL (by omega) (by omega) ?_
  refine l_aload_n 3 (pc := 1121) dL_law_1121 rfl rfl ?_
  refine l_iload_n 0 (pc := 1122) dL_law_1122 rfl rfl ?_
  refine l_iconst (pc := 1123) dL_law_1123 ?_
  refine l_iadd (pc := 1124) dL_law_1124 ?_
  refine l_rd (pc := 1125) dL_law_1125 hL (by omega) (by omega) ?_
  refine l_aload_n 3 (pc := 1126) dL_law_1126 rfl rfl ?_
  refine l_iload_n 0 (pc := 1127) dL_law_1127 rfl rfl ?_
  refine l_iconst (pc := 1128) dL_law_1128 ?_
  refine l_iadd (pc := 1129) dL_law_1129 ?_
  refine l_rd (pc := 1130) dL_law_1130 hL (by omega) (by omega) ?_
  refine l_aload_n 3 (pc := 1131) dL_law_1131 rfl rfl ?_
  refine l_iload_n 0 (pc := 1132) dL_law_1132 rfl rfl ?_
  refine l_iconst (pc := 1133) dL_law_1133 ?_
  refine l_iadd (pc := 1134) dL_law_1134 ?_
  refine l_rd (pc := 1135) dL_law_1135 hL (by omega) (by omega) ?_
  refine l_call (As := [vI (xv xs (i + 1).toNat), vI (xv xs (i + 2).toNat), vI (xv xs (i + 3).toNat), vI (xv xs (i + 4).toNat)]) (rest := [vI r1]) (pc := 1136) dL_law_1136 me_X12_judge ml_L_129 rfl sh_122 (by decide) rfl ⟨by decide, by decide, rfl⟩ rfl ⟨rfl, rfl, rfl, rfl⟩ rfl rfl (c_X12_judge X (xv xs (i + 1).toNat) (xv xs (i + 2).toNat) (xv xs (i + 3).toNat) (xv xs (i + 4).toNat) (r_xv _ _) (r_xv _ _) (r_xv _ _) (r_xv _ _) h1) (fun r2 σ2 hr2 h2 => ?_)
  show lok X b L xs 1139 (lL X b i) [vI r2, vI r1] σ2
  refine l_icmp_eq (tgt := 1408) (pc := 1139) dL_law_1139 rfl h2.1 ?_
  exact K _ h2.2
set_option maxRecDepth 100000 in
set_option maxHeartbeats 4000000 in
theorem lc_hold (X : XE) (b L : Nat) (xs : Nat → Int32) {σ : Mem} (hI : INV σ) (i : Int) (hL : L ≤ 4096) (h0 : 0 ≤ i) (h8 : i + 8 ≤ L) (K : ∀ σ' : Mem, INV σ' → lok X b L xs 1408 (lL X b i) [] σ') : lok X b L xs 1144 (lL X b i) [] σ := by
  refine l_aload_n 2 (pc := 1144) dL_law_1144 rfl rfl ?_
  refine l_aload_n 3 (pc := 1145) dL_law_1145 rfl rfl ?_
  refine l_iload_n 0 (pc := 1146) dL_law_1146 rfl rfl ?_
  refine l_iconst (pc := 1147) dL_law_1147 ?_
  refine l_iadd (pc := 1148) dL_law_1148 ?_
  refine l_rd (pc := 1149) dL_law_1149 hL (by omega) (by omega) ?_
  refine l_call (As := [vI (xv xs (i + 1).toNat)]) (rest := []) (pc := 1150) dL_law_1150 me_X11_hold ml_L_130 rfl sh_0 (by decide) rfl ⟨by decide, by decide, rfl⟩ rfl ⟨rfl, rfl, rfl, rfl⟩ rfl rfl (c_X11_hold X (xv xs (i + 1).toNat) (r_xv _ _) (f_hold hI (xv xs (i + 1).toNat))) (fun r1 σ1 hr1 h1 => ?_)
  show lok X b L xs 1153 (lL X b i) [vI r1] σ1
  refine l_aload_n 1 (pc := 1153) dL_law_1153 rfl rfl ?_
  refine l_aload_n 3 (pc := 1154) dL_law_1154 rfl rfl ?_
  refine l_iload_n 0 (pc := 1155) dL_law_1155 rfl rfl ?_
  refine l_iconst (pc := 1156) dL_law_1156 ?_
  refine l_iadd (pc := 1157) dL_law_1157 ?_
  refine l_rd (pc := 1158) dL_law_1158 hL (by omega) (by omega) ?_
  refine l_call (As := [vI (xv xs (i + 1).toNat)]) (rest := [vI r1]) (pc := 1159) dL_law_1159 me_X12_hold ml_L_133 rfl sh_122 (by decide) rfl ⟨by decide, by decide, rfl⟩ rfl ⟨rfl, rfl, rfl, rfl⟩ rfl rfl (c_X12_hold X (xv xs (i + 1).toNat) (r_xv _ _) h1) (fun r2 σ2 hr2 h2 => ?_)
  show lok X b L xs 1162 (lL X b i) [vI r2, vI r1] σ2
  refine l_icmp_eq (tgt := 1408) (pc := 1162) dL_law_1162 rfl h2.1 ?_
  exact K _ h2.2
set_option maxRecDepth 100000 in
set_option maxHeartbeats 4000000 in
theorem lc_held (X : XE) (b L : Nat) (xs : Nat → Int32) {σ : Mem} (hI : INV σ) (i : Int) (hL : L ≤ 4096) (h0 : 0 ≤ i) (h8 : i + 8 ≤ L) (K : ∀ σ' : Mem, INV σ' → lok X b L xs 1408 (lL X b i) [] σ') : lok X b L xs 1167 (lL X b i) [] σ := by
  refine l_aload_n 2 (pc := 1167) dL_law_1167 rfl rfl ?_
  refine l_aload_n 3 (pc := 1168) dL_law_1168 rfl rfl ?_
  refine l_iload_n 0 (pc := 1169) dL_law_1169 rfl rfl ?_
  refine l_iconst (pc := 1170) dL_law_1170 ?_
  refine l_iadd (pc := 1171) dL_law_1171 ?_
  refine l_rd (pc := 1172) dL_law_1172 hL (by omega) (by omega) ?_
  refine l_aload_n 3 (pc := 1173) dL_law_1173 rfl rfl ?_
  refine l_iload_n 0 (pc := 1174) dL_law_1174 rfl rfl ?_
  refine l_iconst (pc := 1175) dL_law_1175 ?_
  refine l_iadd (pc := 1176) dL_law_1176 ?_
  refine l_rd (pc := 1177) dL_law_1177 hL (by omega) (by omega) ?_
  refine l_call (As := [vI (xv xs (i + 1).toNat), vI (xv xs (i + 2).toNat)]) (rest := []) (pc := 1178) dL_law_1178 me_X11_held ml_L_134 rfl sh_0 (by decide) rfl ⟨by decide, by decide, rfl⟩ rfl ⟨rfl, rfl, rfl, rfl⟩ rfl rfl (c_X11_held X (xv xs (i + 1).toNat) (xv xs (i + 2).toNat) (r_xv _ _) (r_xv _ _) (f_held hI (xv xs (i + 1).toNat) (xv xs (i + 2).toNat))) (fun r1 σ1 hr1 h1 => ?_)
  show lok X b L xs 1181 (lL X b i) [vI r1] σ1
  refine l_aload_n 1 (pc := 1181) dL_law_1181 rfl rfl ?_
  refine l_aload_n 3 (pc := 1182) dL_law_1182 rfl rfl ?_
  refine l_iload_n 0 (pc := 1183) dL_law_1183 rfl rfl ?_
  refine l_iconst (pc := 1184) dL_law_1184 ?_
  refine l_iadd (pc := 1185) dL_law_1185 ?_
  refine l_rd (pc := 1186) dL_law_1186 hL (by omega) (by omega) ?_
  refine l_aload_n 3 (pc := 1187) dL_law_1187 rfl rfl ?_
  refine l_iload_n 0 (pc := 1188) dL_law_1188 rfl rfl ?_
  refine l_iconst (pc := 1189) dL_law_1189 ?_
  refine l_iadd (pc := 1190) dL_law_1190 ?_
  refine l_rd (pc := 1191) dL_law_1191 hL (by omega) (by omega) ?_
  refine l_call (As := [vI (xv xs (i + 1).toNat), vI (xv xs (i + 2).toNat)]) (rest := [vI r1]) (pc := 1192) dL_law_1192 me_X12_held ml_L_137 rfl sh_122 (by decide) rfl ⟨by decide, by decide, rfl⟩ rfl ⟨rfl, rfl, rfl, rfl⟩ rfl rfl (c_X12_held X (xv xs (i + 1).toNat) (xv xs (i + 2).toNat) (r_xv _ _) (r_xv _ _) h1) (fun r2 σ2 hr2 h2 => ?_)
  show lok X b L xs 1195 (lL X b i) [vI r2, vI r1] σ2
  refine l_icmp_eq (tgt := 1408) (pc := 1195) dL_law_1195 rfl h2.1 ?_
  exact K _ h2.2
set_option maxRecDepth 100000 in
set_option maxHeartbeats 4000000 in
theorem lc_wrong (X : XE) (b L : Nat) (xs : Nat → Int32) {σ : Mem} (hI : INV σ) (i : Int) (hL : L ≤ 4096) (h0 : 0 ≤ i) (h8 : i + 8 ≤ L) (K : ∀ σ' : Mem, INV σ' → lok X b L xs 1408 (lL X b i) [] σ') : lok X b L xs 1200 (lL X b i) [] σ := by
  refine l_aload_n 2 (pc := 1200) dL_law_1200 rfl rfl ?_
  refine l_aload_n 3 (pc := 1201) dL_law_1201 rfl rfl ?_
  refine l_iload_n 0 (pc := 1202) dL_law_1202 rfl rfl ?_
  refine l_iconst (pc := 1203) dL_law_1203 ?_
  refine l_iadd (pc := 1204) dL_law_1204 ?_
  refine l_rd (pc := 1205) dL_law_1205 hL (by omega) (by omega) ?_
  refine l_call (As := [vI (xv xs (i + 1).toNat)]) (rest := []) (pc := 1206) dL_law_1206 me_X11_wrong ml_L_138 rfl sh_0 (by decide) rfl ⟨by decide, by decide, rfl⟩ rfl ⟨rfl, rfl, rfl, rfl⟩ rfl rfl (c_X11_wrong X (xv xs (i + 1).toNat) (r_xv _ _) (f_wrong hI (xv xs (i + 1).toNat))) (fun r1 σ1 hr1 h1 => ?_)
  show lok X b L xs 1209 (lL X b i) [vI r1] σ1
  refine l_aload_n 1 (pc := 1209) dL_law_1209 rfl rfl ?_
  refine l_aload_n 3 (pc := 1210) dL_law_1210 rfl rfl ?_
  refine l_iload_n 0 (pc := 1211) dL_law_1211 rfl rfl ?_
  refine l_iconst (pc := 1212) dL_law_1212 ?_
  refine l_iadd (pc := 1213) dL_law_1213 ?_
  refine l_rd (pc := 1214) dL_law_1214 hL (by omega) (by omega) ?_
  refine l_call (As := [vI (xv xs (i + 1).toNat)]) (rest := [vI r1]) (pc := 1215) dL_law_1215 me_X12_wrong ml_L_141 rfl sh_122 (by decide) rfl ⟨by decide, by decide, rfl⟩ rfl ⟨rfl, rfl, rfl, rfl⟩ rfl rfl (c_X12_wrong X (xv xs (i + 1).toNat) (r_xv _ _) h1) (fun r2 σ2 hr2 h2 => ?_)
  show lok X b L xs 1218 (lL X b i) [vI r2, vI r1] σ2
  refine l_icmp_eq (tgt := 1408) (pc := 1218) dL_law_1218 rfl h2.1 ?_
  exact K _ h2.2
set_option maxRecDepth 100000 in
set_option maxHeartbeats 4000000 in
theorem lc_sheet (X : XE) (b L : Nat) (xs : Nat → Int32) {σ : Mem} (hI : INV σ) (i : Int) (hL : L ≤ 4096) (h0 : 0 ≤ i) (h8 : i + 8 ≤ L) (K : ∀ σ' : Mem, INV σ' → lok X b L xs 1408 (lL X b i) [] σ') : lok X b L xs 1223 (lL X b i) [] σ := by
  refine l_aload_n 2 (pc := 1223) dL_law_1223 rfl rfl ?_
  refine l_aload_n 3 (pc := 1224) dL_law_1224 rfl rfl ?_
  refine l_iload_n 0 (pc := 1225) dL_law_1225 rfl rfl ?_
  refine l_iconst (pc := 1226) dL_law_1226 ?_
  refine l_iadd (pc := 1227) dL_law_1227 ?_
  refine l_rd (pc := 1228) dL_law_1228 hL (by omega) (by omega) ?_
  refine l_aload_n 3 (pc := 1229) dL_law_1229 rfl rfl ?_
  refine l_iload_n 0 (pc := 1230) dL_law_1230 rfl rfl ?_
  refine l_iconst (pc := 1231) dL_law_1231 ?_
  refine l_iadd (pc := 1232) dL_law_1232 ?_
  refine l_rd (pc := 1233) dL_law_1233 hL (by omega) (by omega) ?_
  refine l_aload_n 3 (pc := 1234) dL_law_1234 rfl rfl ?_
  refine l_iload_n 0 (pc := 1235) dL_law_1235 rfl rfl ?_
  refine l_iconst (pc := 1236) dL_law_1236 ?_
  refine l_iadd (pc := 1237) dL_law_1237 ?_
  refine l_rd (pc := 1238) dL_law_1238 hL (by omega) (by omega) ?_
  refine l_call (As := [vI (xv xs (i + 1).toNat), vI (xv xs (i + 2).toNat), vI (xv xs (i + 3).toNat)]) (rest := []) (pc := 1239) dL_law_1239 me_X11_sheet ml_L_142 rfl sh_0 (by decide) rfl ⟨by decide, by decide, rfl⟩ rfl ⟨rfl, rfl, rfl, rfl⟩ rfl rfl (c_X11_sheet X (xv xs (i + 1).toNat) (xv xs (i + 2).toNat) (xv xs (i + 3).toNat) (r_xv _ _) (r_xv _ _) (r_xv _ _) (f_sheet hI (xv xs (i + 1).toNat) (xv xs (i + 2).toNat) (xv xs (i + 3).toNat))) (fun r1 σ1 hr1 h1 => ?_)
  show lok X b L xs 1242 (lL X b i) [vI r1] σ1
  refine l_aload_n 1 (pc := 1242) dL_law_1242 rfl rfl ?_
  refine l_aload_n 3 (pc := 1243) dL_law_1243 rfl rfl ?_
  refine l_iload_n 0 (pc := 1244) dL_law_1244 rfl rfl ?_
  refine l_iconst (pc := 1245) dL_law_1245 ?_
  refine l_iadd (pc := 1246) dL_law_1246 ?_
  refine l_rd (pc := 1247) dL_law_1247 hL (by omega) (by omega) ?_
  refine l_aload_n 3 (pc := 1248) dL_law_1248 rfl rfl ?_
  refine l_iload_n 0 (pc := 1249) dL_law_1249 rfl rfl ?_
  refine l_iconst (pc := 1250) dL_law_1250 ?_
  refine l_iadd (pc := 1251) dL_law_1251 ?_
  refine l_rd (pc := 1252) dL_law_1252 hL (by omega) (by omega) ?_
  refine l_aload_n 3 (pc := 1253) dL_law_1253 rfl rfl ?_
  refine l_iload_n 0 (pc := 1254) dL_law_1254 rfl rfl ?_
  refine l_iconst (pc := 1255) dL_law_1255 ?_
  refine l_iadd (pc := 1256) dL_law_1256 ?_
  refine l_rd (pc := 1257) dL_law_1257 hL (by omega) (by omega) ?_
  refine l_call (As := [vI (xv xs (i + 1).toNat), vI (xv xs (i + 2).toNat), vI (xv xs (i + 3).toNat)]) (rest := [vI r1]) (pc := 1258) dL_law_1258 me_X12_sheet ml_L_145 rfl sh_122 (by decide) rfl ⟨by decide, by decide, rfl⟩ rfl ⟨rfl, rfl, rfl, rfl⟩ rfl rfl (c_X12_sheet X (xv xs (i + 1).toNat) (xv xs (i + 2).toNat) (xv xs (i + 3).toNat) (r_xv _ _) (r_xv _ _) (r_xv _ _) h1) (fun r2 σ2 hr2 h2 => ?_)
  show lok X b L xs 1261 (lL X b i) [vI r2, vI r1] σ2
  refine l_icmp_eq (tgt := 1408) (pc := 1261) dL_law_1261 rfl h2.1 ?_
  exact K _ h2.2
set_option maxRecDepth 100000 in
set_option maxHeartbeats 4000000 in
theorem lc_lay (X : XE) (b L : Nat) (xs : Nat → Int32) {σ : Mem} (hI : INV σ) (i : Int) (hL : L ≤ 4096) (h0 : 0 ≤ i) (h8 : i + 8 ≤ L) (K : ∀ σ' : Mem, INV σ' → lok X b L xs 1408 (lL X b i) [] σ') : lok X b L xs 1266 (lL X b i) [] σ := by
  refine l_aload_n 2 (pc := 1266) dL_law_1266 rfl rfl ?_
  refine l_aload_n 3 (pc := 1267) dL_law_1267 rfl rfl ?_
  refine l_iload_n 0 (pc := 1268) dL_law_1268 rfl rfl ?_
  refine l_iconst (pc := 1269) dL_law_1269 ?_
  refine l_iadd (pc := 1270) dL_law_1270 ?_
  refine l_rd (pc := 1271) dL_law_1271 hL (by omega) (by omega) ?_
  refine l_aload_n 3 (pc := 1272) dL_law_1272 rfl rfl ?_
  refine l_iload_n 0 (pc := 1273) dL_law_1273 rfl rfl ?_
  refine l_iconst (pc := 1274) dL_law_1274 ?_
  refine l_iadd (pc := 1275) dL_law_1275 ?_
  refine l_rd (pc := 1276) dL_law_1276 hL (by omega) (by omega) ?_
  refine l_aload_n 3 (pc := 1277) dL_law_1277 rfl rfl ?_
  refine l_iload_n 0 (pc := 1278) dL_law_1278 rfl rfl ?_
  refine l_iconst (pc := 1279) dL_law_1279 ?_
  refine l_iadd (pc := 1280) dL_law_1280 ?_
  refine l_rd (pc := 1281) dL_law_1281 hL (by omega) (by omega) ?_
  refine l_call (As := [vI (xv xs (i + 1).toNat), vI (xv xs (i + 2).toNat), vI (xv xs (i + 3).toNat)]) (rest := []) (pc := 1282) dL_law_1282 me_X11_lay ml_L_146 rfl sh_0 (by decide) rfl ⟨by decide, by decide, rfl⟩ rfl ⟨rfl, rfl, rfl, rfl⟩ rfl rfl (c_X11_lay X (xv xs (i + 1).toNat) (xv xs (i + 2).toNat) (xv xs (i + 3).toNat) (r_xv _ _) (r_xv _ _) (r_xv _ _) (f_lay hI (xv xs (i + 1).toNat) (xv xs (i + 2).toNat) (xv xs (i + 3).toNat))) (fun r1 σ1 hr1 h1 => ?_)
  show lok X b L xs 1285 (lL X b i) [vI r1] σ1
  refine l_aload_n 1 (pc := 1285) dL_law_1285 rfl rfl ?_
  refine l_aload_n 3 (pc := 1286) dL_law_1286 rfl rfl ?_
  refine l_iload_n 0 (pc := 1287) dL_law_1287 rfl rfl ?_
  refine l_iconst (pc := 1288) dL_law_1288 ?_
  refine l_iadd (pc := 1289) dL_law_1289 ?_
  refine l_rd (pc := 1290) dL_law_1290 hL (by omega) (by omega) ?_
  refine l_aload_n 3 (pc := 1291) dL_law_1291 rfl rfl ?_
  refine l_iload_n 0 (pc := 1292) dL_law_1292 rfl rfl ?_
  refine l_iconst (pc := 1293) dL_law_1293 ?_
  refine l_iadd (pc := 1294) dL_law_1294 ?_
  refine l_rd (pc := 1295) dL_law_1295 hL (by omega) (by omega) ?_
  refine l_aload_n 3 (pc := 1296) dL_law_1296 rfl rfl ?_
  refine l_iload_n 0 (pc := 1297) dL_law_1297 rfl rfl ?_
  refine l_iconst (pc := 1298) dL_law_1298 ?_
  refine l_iadd (pc := 1299) dL_law_1299 ?_
  refine l_rd (pc := 1300) dL_law_1300 hL (by omega) (by omega) ?_
  refine l_call (As := [vI (xv xs (i + 1).toNat), vI (xv xs (i + 2).toNat), vI (xv xs (i + 3).toNat)]) (rest := [vI r1]) (pc := 1301) dL_law_1301 me_X12_lay ml_L_149 rfl sh_122 (by decide) rfl ⟨by decide, by decide, rfl⟩ rfl ⟨rfl, rfl, rfl, rfl⟩ rfl rfl (c_X12_lay X (xv xs (i + 1).toNat) (xv xs (i + 2).toNat) (xv xs (i + 3).toNat) (r_xv _ _) (r_xv _ _) (r_xv _ _) h1) (fun r2 σ2 hr2 h2 => ?_)
  show lok X b L xs 1304 (lL X b i) [vI r2, vI r1] σ2
  refine l_icmp_eq (tgt := 1408) (pc := 1304) dL_law_1304 rfl h2.1 ?_
  exact K _ h2.2
set_option maxRecDepth 100000 in
set_option maxHeartbeats 4000000 in
theorem lc_read (X : XE) (b L : Nat) (xs : Nat → Int32) {σ : Mem} (hI : INV σ) (i : Int) (hL : L ≤ 4096) (h0 : 0 ≤ i) (h8 : i + 8 ≤ L) (K : ∀ σ' : Mem, INV σ' → lok X b L xs 1408 (lL X b i) [] σ') : lok X b L xs 1309 (lL X b i) [] σ := by
  refine l_aload_n 2 (pc := 1309) dL_law_1309 rfl rfl ?_
  refine l_aload_n 3 (pc := 1310) dL_law_1310 rfl rfl ?_
  refine l_iload_n 0 (pc := 1311) dL_law_1311 rfl rfl ?_
  refine l_iconst (pc := 1312) dL_law_1312 ?_
  refine l_iadd (pc := 1313) dL_law_1313 ?_
  refine l_rd (pc := 1314) dL_law_1314 hL (by omega) (by omega) ?_
  refine l_aload_n 3 (pc := 1315) dL_law_1315 rfl rfl ?_
  refine l_iload_n 0 (pc := 1316) dL_law_1316 rfl rfl ?_
  refine l_iconst (pc := 1317) dL_law_1317 ?_
  refine l_iadd (pc := 1318) dL_law_1318 ?_
  refine l_rd (pc := 1319) dL_law_1319 hL (by omega) (by omega) ?_
  refine l_aload_n 3 (pc := 1320) dL_law_1320 rfl rfl ?_
  refine l_iload_n 0 (pc := 1321) dL_law_1321 rfl rfl ?_
  refine l_iconst (pc := 1322) dL_law_1322 ?_
  refine l_iadd (pc := 1323) dL_law_1323 ?_
  refine l_rd (pc := 1324) dL_law_1324 hL (by omega) (by omega) ?_
  refine l_aload_n 3 (pc := 1325) dL_law_1325 rfl rfl ?_
  refine l_iload_n 0 (pc := 1326) dL_law_1326 rfl rfl ?_
  refine l_iconst (pc := 1327) dL_law_1327 ?_
  refine l_iadd (pc := 1328) dL_law_1328 ?_
  refine l_rd (pc := 1329) dL_law_1329 hL (by omega) (by omega) ?_
  refine l_aload_n 3 (pc := 1330) dL_law_1330 rfl rfl ?_
  refine l_iload_n 0 (pc := 1331) dL_law_1331 rfl rfl ?_
  refine l_iconst (pc := 1332) dL_law_1332 ?_
  refine l_iadd (pc := 1333) dL_law_1333 ?_
  refine l_rd (pc := 1334) dL_law_1334 hL (by omega) (by omega) ?_
  refine l_call (As := [vI (xv xs (i + 1).toNat), vI (xv xs (i + 2).toNat), vI (xv xs (i + 3).toNat), vI (xv xs (i + 4).toNat), vI (xv xs (i + 5).toNat)]) (rest := []) (pc := 1335) dL_law_1335 me_X11_read ml_L_150 rfl sh_0 (by decide) rfl ⟨by decide, by decide, rfl⟩ rfl ⟨rfl, rfl, rfl, rfl⟩ rfl rfl (c_X11_read X (xv xs (i + 1).toNat) (xv xs (i + 2).toNat) (xv xs (i + 3).toNat) (xv xs (i + 4).toNat) (xv xs (i + 5).toNat) (r_xv _ _) (r_xv _ _) (r_xv _ _) (r_xv _ _) (r_xv _ _) (f_read hI (xv xs (i + 1).toNat) (xv xs (i + 2).toNat) (xv xs (i + 3).toNat) (xv xs (i + 4).toNat) (xv xs (i + 5).toNat) (r_xv _ _))) (fun r1 σ1 hr1 h1 => ?_)
  show lok X b L xs 1338 (lL X b i) [vI r1] σ1
  refine l_aload_n 1 (pc := 1338) dL_law_1338 rfl rfl ?_
  refine l_aload_n 3 (pc := 1339) dL_law_1339 rfl rfl ?_
  refine l_iload_n 0 (pc := 1340) dL_law_1340 rfl rfl ?_
  refine l_iconst (pc := 1341) dL_law_1341 ?_
  refine l_iadd (pc := 1342) dL_law_1342 ?_
  refine l_rd (pc := 1343) dL_law_1343 hL (by omega) (by omega) ?_
  refine l_aload_n 3 (pc := 1344) dL_law_1344 rfl rfl ?_
  refine l_iload_n 0 (pc := 1345) dL_law_1345 rfl rfl ?_
  refine l_iconst (pc := 1346) dL_law_1346 ?_
  refine l_iadd (pc := 1347) dL_law_1347 ?_
  refine l_rd (pc := 1348) dL_law_1348 hL (by omega) (by omega) ?_
  refine l_aload_n 3 (pc := 1349) dL_law_1349 rfl rfl ?_
  refine l_iload_n 0 (pc := 1350) dL_law_1350 rfl rfl ?_
  refine l_iconst (pc := 1351) dL_law_1351 ?_
  refine l_iadd (pc := 1352) dL_law_1352 ?_
  refine l_rd (pc := 1353) dL_law_1353 hL (by omega) (by omega) ?_
  refine l_aload_n 3 (pc := 1354) dL_law_1354 rfl rfl ?_
  refine l_iload_n 0 (pc := 1355) dL_law_1355 rfl rfl ?_
  refine l_iconst (pc := 1356) dL_law_1356 ?_
  refine l_iadd (pc := 1357) dL_law_1357 ?_
  refine l_rd (pc := 1358) dL_law_1358 hL (by omega) (by omega) ?_
  refine l_aload_n 3 (pc := 1359) dL_law_1359 rfl rfl ?_
  refine l_iload_n 0 (pc := 1360) dL_law_1360 rfl rfl ?_
  refine l_iconst (pc := 1361) dL_law_1361 ?_
  refine l_iadd (pc := 1362) dL_law_1362 ?_
  refine l_rd (pc := 1363) dL_law_1363 hL (by omega) (by omega) ?_
  refine l_call (As := [vI (xv xs (i + 1).toNat), vI (xv xs (i + 2).toNat), vI (xv xs (i + 3).toNat), vI (xv xs (i + 4).toNat), vI (xv xs (i + 5).toNat)]) (rest := [vI r1]) (pc := 1364) dL_law_1364 me_X12_read ml_L_153 rfl sh_122 (by decide) rfl ⟨by decide, by decide, rfl⟩ rfl ⟨rfl, rfl, rfl, rfl⟩ rfl rfl (c_X12_read X (xv xs (i + 1).toNat) (xv xs (i + 2).toNat) (xv xs (i + 3).toNat) (xv xs (i + 4).toNat) (xv xs (i + 5).toNat) (r_xv _ _) (r_xv _ _) (r_xv _ _) (r_xv _ _) (r_xv _ _) h1) (fun r2 σ2 hr2 h2 => ?_)
  show lok X b L xs 1367 (lL X b i) [vI r2, vI r1] σ2
  refine l_icmp_eq (tgt := 1408) (pc := 1367) dL_law_1367 rfl h2.1 ?_
  exact K _ h2.2
set_option maxRecDepth 100000 in
set_option maxHeartbeats 4000000 in
theorem lc_torn (X : XE) (b L : Nat) (xs : Nat → Int32) {σ : Mem} (hI : INV σ) (i : Int) (hL : L ≤ 4096) (h0 : 0 ≤ i) (h8 : i + 8 ≤ L) (K : ∀ σ' : Mem, INV σ' → lok X b L xs 1408 (lL X b i) [] σ') : lok X b L xs 1372 (lL X b i) [] σ := by
  refine l_aload_n 2 (pc := 1372) dL_law_1372 rfl rfl ?_
  refine l_call (As := []) (rest := []) (pc := 1373) dL_law_1373 me_X11_torn ml_L_154 rfl sh_0 (by decide) rfl ⟨by decide, by decide, rfl⟩ rfl ⟨rfl, rfl, rfl, rfl⟩ rfl rfl (c_X11_torn X (f_torn hI)) (fun r1 σ1 hr1 h1 => ?_)
  show lok X b L xs 1376 (lL X b i) [vI r1] σ1
  refine l_aload_n 1 (pc := 1376) dL_law_1376 rfl rfl ?_
  refine l_call (As := []) (rest := [vI r1]) (pc := 1377) dL_law_1377 me_X12_torn ml_L_157 rfl sh_122 (by decide) rfl ⟨by decide, by decide, rfl⟩ rfl ⟨rfl, rfl, rfl, rfl⟩ rfl rfl (c_X12_torn X h1) (fun r2 σ2 hr2 h2 => ?_)
  show lok X b L xs 1380 (lL X b i) [vI r2, vI r1] σ2
  refine l_icmp_eq (tgt := 1408) (pc := 1380) dL_law_1380 rfl h2.1 ?_
  exact K _ h2.2
set_option maxRecDepth 100000 in
set_option maxHeartbeats 4000000 in
theorem lc_count (X : XE) (b L : Nat) (xs : Nat → Int32) {σ : Mem} (hI : INV σ) (i : Int) (hL : L ≤ 4096) (h0 : 0 ≤ i) (h8 : i + 8 ≤ L) (K : ∀ σ' : Mem, INV σ' → lok X b L xs 1408 (lL X b i) [] σ') : lok X b L xs 1385 (lL X b i) [] σ := by
  refine l_aload_n 2 (pc := 1385) dL_law_1385 rfl rfl ?_
  refine l_aload_n 3 (pc := 1386) dL_law_1386 rfl rfl ?_
  refine l_iload_n 0 (pc := 1387) dL_law_1387 rfl rfl ?_
  refine l_iconst (pc := 1388) dL_law_1388 ?_
  refine l_iadd (pc := 1389) dL_law_1389 ?_
  refine l_rd (pc := 1390) dL_law_1390 hL (by omega) (by omega) ?_
  refine l_call (As := [vI (xv xs (i + 1).toNat)]) (rest := []) (pc := 1391) dL_law_1391 me_X11_count ml_L_158 rfl sh_0 (by decide) rfl ⟨by decide, by decide, rfl⟩ rfl ⟨rfl, rfl, rfl, rfl⟩ rfl rfl (c_X11_count X (xv xs (i + 1).toNat) (r_xv _ _) (f_count hI (xv xs (i + 1).toNat))) (fun r1 σ1 hr1 h1 => ?_)
  show lok X b L xs 1394 (lL X b i) [vI r1] σ1
  refine l_aload_n 1 (pc := 1394) dL_law_1394 rfl rfl ?_
  refine l_aload_n 3 (pc := 1395) dL_law_1395 rfl rfl ?_
  refine l_iload_n 0 (pc := 1396) dL_law_1396 rfl rfl ?_
  refine l_iconst (pc := 1397) dL_law_1397 ?_
  refine l_iadd (pc := 1398) dL_law_1398 ?_
  refine l_rd (pc := 1399) dL_law_1399 hL (by omega) (by omega) ?_
  refine l_call (As := [vI (xv xs (i + 1).toNat)]) (rest := [vI r1]) (pc := 1400) dL_law_1400 me_X12_count ml_L_161 rfl sh_122 (by decide) rfl ⟨by decide, by decide, rfl⟩ rfl ⟨rfl, rfl, rfl, rfl⟩ rfl rfl (c_X12_count X (xv xs (i + 1).toNat) (r_xv _ _) h1) (fun r2 σ2 hr2 h2 => ?_)
  show lok X b L xs 1403 (lL X b i) [vI r2, vI r1] σ2
  refine l_icmp_eq (tgt := 1408) (pc := 1403) dL_law_1403 rfl h2.1 ?_
  exact K _ h2.2
set_option maxRecDepth 100000 in
set_option maxHeartbeats 4000000 in
theorem l_switch (X : XE) (b L : Nat) (xs : Nat → Int32) {σ : Mem} (hI : INV σ) (i v : Int) (hv : inR v) (hL : L ≤ 4096) (h0 : 0 ≤ i) (h8 : i + 8 ≤ L) (K : ∀ σ' : Mem, INV σ' → lok X b L xs 1408 (lL X b i) [] σ') : lok X b L xs 33 (lL X b i) [vI v] σ := by
  by_cases q0 : v = 0
  · subst q0
    exact l_tin (tgt := 184) (pc := 33) dL_law_33 hv (by decide) (by decide) rfl rfl (lc_day X b L xs hI i hL h0 h8 K)
  by_cases q1 : v = 1
  · subst q1
    exact l_tin (tgt := 207) (pc := 33) dL_law_33 hv (by decide) (by decide) rfl rfl (lc_feed X b L xs hI i hL h0 h8 K)
  by_cases q2 : v = 2
  · subst q2
    exact l_tin (tgt := 260) (pc := 33) dL_law_33 hv (by decide) (by decide) rfl rfl (lc_end X b L xs hI i hL h0 h8 K)
  by_cases q3 : v = 3
  · subst q3
    exact l_tin (tgt := 283) (pc := 33) dL_law_33 hv (by decide) (by decide) rfl rfl (lc_text X b L xs hI i hL h0 h8 K)
  by_cases q4 : v = 4
  · subst q4
    exact l_tin (tgt := 296) (pc := 33) dL_law_33 hv (by decide) (by decide) rfl rfl (lc_fault X b L xs hI i hL h0 h8 K)
  by_cases q5 : v = 5
  · subst q5
    exact l_tin (tgt := 309) (pc := 33) dL_law_33 hv (by decide) (by decide) rfl rfl (lc_rule X b L xs hI i hL h0 h8 K)
  by_cases q6 : v = 6
  · subst q6
    exact l_tin (tgt := 342) (pc := 33) dL_law_33 hv (by decide) (by decide) rfl rfl (lc_card X b L xs hI i hL h0 h8 K)
  by_cases q7 : v = 7
  · subst q7
    exact l_tin (tgt := 429) (pc := 33) dL_law_33 hv (by decide) (by decide) rfl rfl (lc_of X b L xs hI i hL h0 h8 K)
  by_cases q8 : v = 8
  · subst q8
    exact l_tin (tgt := 462) (pc := 33) dL_law_33 hv (by decide) (by decide) rfl rfl (lc_anew X b L xs hI i hL h0 h8 K)
  by_cases q9 : v = 9
  · subst q9
    exact l_tin (tgt := 505) (pc := 33) dL_law_33 hv (by decide) (by decide) rfl rfl (lc_known X b L xs hI i hL h0 h8 K)
  by_cases q10 : v = 10
  · subst q10
    exact l_tin (tgt := 548) (pc := 33) dL_law_33 hv (by decide) (by decide) rfl rfl (lc_file X b L xs hI i hL h0 h8 K)
  by_cases q11 : v = 11
  · subst q11
    exact l_tin (tgt := 571) (pc := 33) dL_law_33 hv (by decide) (by decide) rfl rfl (lc_out X b L xs hI i hL h0 h8 K)
  by_cases q12 : v = 12
  · subst q12
    exact l_tin (tgt := 594) (pc := 33) dL_law_33 hv (by decide) (by decide) rfl rfl (lc_drawer X b L xs hI i hL h0 h8 K)
  by_cases q13 : v = 13
  · subst q13
    exact l_tin (tgt := 627) (pc := 33) dL_law_33 hv (by decide) (by decide) rfl rfl (lc_tell X b L xs hI i hL h0 h8 K)
  by_cases q14 : v = 14
  · subst q14
    exact l_tin (tgt := 690) (pc := 33) dL_law_33 hv (by decide) (by decide) rfl rfl (lc_chance X b L xs hI i hL h0 h8 K)
  by_cases q15 : v = 15
  · subst q15
    exact l_tin (tgt := 724) (pc := 33) dL_law_33 hv (by decide) (by decide) rfl rfl (lc_look X b L xs hI i hL h0 h8 K)
  by_cases q16 : v = 16
  · subst q16
    exact l_tin (tgt := 757) (pc := 33) dL_law_33 hv (by decide) (by decide) rfl rfl (lc_match X b L xs hI i hL h0 h8 K)
  by_cases q17 : v = 17
  · subst q17
    exact l_tin (tgt := 780) (pc := 33) dL_law_33 hv (by decide) (by decide) rfl rfl (lc_byChance X b L xs hI i hL h0 h8 K)
  by_cases q18 : v = 18
  · subst q18
    exact l_tin (tgt := 804) (pc := 33) dL_law_33 hv (by decide) (by decide) rfl rfl (lc_grown X b L xs hI i hL h0 h8 K)
  by_cases q19 : v = 19
  · subst q19
    exact l_tin (tgt := 847) (pc := 33) dL_law_33 hv (by decide) (by decide) rfl rfl (lc_beside X b L xs hI i hL h0 h8 K)
  by_cases q20 : v = 20
  · subst q20
    exact l_tin (tgt := 890) (pc := 33) dL_law_33 hv (by decide) (by decide) rfl rfl (lc_bar X b L xs hI i hL h0 h8 K)
  by_cases q21 : v = 21
  · subst q21
    exact l_tin (tgt := 949) (pc := 33) dL_law_33 hv (by decide) (by decide) rfl rfl (lc_join X b L xs hI i hL h0 h8 K)
  by_cases q22 : v = 22
  · subst q22
    exact l_tin (tgt := 982) (pc := 33) dL_law_33 hv (by decide) (by decide) rfl rfl (lc_men X b L xs hI i hL h0 h8 K)
  by_cases q23 : v = 23
  · subst q23
    exact l_tin (tgt := 1005) (pc := 33) dL_law_33 hv (by decide) (by decide) rfl rfl (lc_guess X b L xs hI i hL h0 h8 K)
  by_cases q24 : v = 24
  · subst q24
    exact l_tin (tgt := 1048) (pc := 33) dL_law_33 hv (by decide) (by decide) rfl rfl (lc_even X b L xs hI i hL h0 h8 K)
  by_cases q25 : v = 25
  · subst q25
    exact l_tin (tgt := 1091) (pc := 33) dL_law_33 hv (by decide) (by decide) rfl rfl (lc_judge X b L xs hI i hL h0 h8 K)
  by_cases q26 : v = 26
  · subst q26
    exact l_tin (tgt := 1144) (pc := 33) dL_law_33 hv (by decide) (by decide) rfl rfl (lc_hold X b L xs hI i hL h0 h8 K)
  by_cases q27 : v = 27
  · subst q27
    exact l_tin (tgt := 1167) (pc := 33) dL_law_33 hv (by decide) (by decide) rfl rfl (lc_held X b L xs hI i hL h0 h8 K)
  by_cases q28 : v = 28
  · subst q28
    exact l_tin (tgt := 1200) (pc := 33) dL_law_33 hv (by decide) (by decide) rfl rfl (lc_wrong X b L xs hI i hL h0 h8 K)
  by_cases q29 : v = 29
  · subst q29
    exact l_tin (tgt := 1223) (pc := 33) dL_law_33 hv (by decide) (by decide) rfl rfl (lc_sheet X b L xs hI i hL h0 h8 K)
  by_cases q30 : v = 30
  · subst q30
    exact l_tin (tgt := 1266) (pc := 33) dL_law_33 hv (by decide) (by decide) rfl rfl (lc_lay X b L xs hI i hL h0 h8 K)
  by_cases q31 : v = 31
  · subst q31
    exact l_tin (tgt := 1309) (pc := 33) dL_law_33 hv (by decide) (by decide) rfl rfl (lc_read X b L xs hI i hL h0 h8 K)
  by_cases q32 : v = 32
  · subst q32
    exact l_tin (tgt := 1372) (pc := 33) dL_law_33 hv (by decide) (by decide) rfl rfl (lc_torn X b L xs hI i hL h0 h8 K)
  by_cases q33 : v = 33
  · subst q33
    exact l_tin (tgt := 1385) (pc := 33) dL_law_33 hv (by decide) (by decide) rfl rfl (lc_count X b L xs hI i hL h0 h8 K)
  exact l_tout (tgt := 1408) (pc := 33) dL_law_33 hv (by omega) rfl (K σ hI)
set_option maxRecDepth 100000 in
set_option maxHeartbeats 4000000 in
theorem l_loop (X : XE) (b L : Nat) (xs : Nat → Int32) (hL : L ≤ 4096) : ∀ (f : Nat) (i : Int) (σ : Mem), INV σ → 0 ≤ i → i ≤ 4096 → (L : Int) ≤ i + 8 * f → lok X b L xs 18 (lL X b i) [] σ := by
  intro f
  induction f with
  | zero =>
    intro i σ hI h0 h1 hf
    refine l_iload_n 0 (pc := 18) dL_law_18 rfl rfl ?_
    refine l_aload_n 3 (pc := 19) dL_law_19 rfl rfl ?_
    refine l_len (pc := 20) dL_law_20 hL ?_
    refine l_bipush (pc := 21) dL_law_21 rfl ?_
    refine l_isub (pc := 23) dL_law_23 ?_
    refine l_icmp_gt (tgt := 1414) (pc := 24) dL_law_24 rfl ⟨by omega, by omega⟩ ⟨by omega, by omega⟩ (fun q => ?_) (fun q => absurd (by omega) q)
    refine l_iconst (pc := 1414) dL_law_1414 ?_
    exact l_ret (pc := 1415) dL_law_1415
  | succ f ih =>
    intro i σ hI h0 h1 hf
    refine l_iload_n 0 (pc := 18) dL_law_18 rfl rfl ?_
    refine l_aload_n 3 (pc := 19) dL_law_19 rfl rfl ?_
    refine l_len (pc := 20) dL_law_20 hL ?_
    refine l_bipush (pc := 21) dL_law_21 rfl ?_
    refine l_isub (pc := 23) dL_law_23 ?_
    refine l_icmp_gt (tgt := 1414) (pc := 24) dL_law_24 rfl ⟨by omega, by omega⟩ ⟨by omega, by omega⟩ (fun q => ?_) (fun q => ?_)
    · refine l_iconst (pc := 1414) dL_law_1414 ?_
      exact l_ret (pc := 1415) dL_law_1415
    · have h8 : i + 8 ≤ L := by omega
      refine l_aload_n 3 (pc := 27) dL_law_27 rfl rfl ?_
      refine l_iload_n 0 (pc := 28) dL_law_28 rfl rfl ?_
      refine l_rd (pc := 29) dL_law_29 hL h0 (by omega) ?_
      refine l_bipush (pc := 30) dL_law_30 rfl ?_
      refine l_iand (pc := 32) dL_law_32 ?_
      refine l_switch X b L xs hI i _ (q_rng _) hL h0 h8 (fun σ1 h1 => ?_)
      refine l_iinc (L' := lL X b (i + 8)) 0 (pc := 1408) dL_law_1408 rfl rfl rfl ?_
      refine l_goto (tgt := 18) (pc := 1411) dL_law_1411 rfl ?_
      exact ih (i + 8) σ1 h1 (by omega) (by omega) (by omega)
