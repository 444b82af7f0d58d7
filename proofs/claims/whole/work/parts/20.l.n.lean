def RL : String := "PlateRingsLaw"
abbrev cL_law : ByteArray := code
theorem dL_law_0 : decode cL_law 0 = .ok (.new 7, 3) := by decide +kernel
theorem dL_law_3 : decode cL_law 3 = .ok (.dup, 1) := by decide +kernel
theorem dL_law_4 : decode cL_law 4 = .ok (.invokespecial 9, 3) := by decide +kernel
theorem dL_law_7 : decode cL_law 7 = .ok (.astore_n 1, 1) := by decide +kernel
theorem dL_law_8 : decode cL_law 8 = .ok (.new 10, 3) := by decide +kernel
theorem dL_law_11 : decode cL_law 11 = .ok (.dup, 1) := by decide +kernel
theorem dL_law_12 : decode cL_law 12 = .ok (.invokespecial 12, 3) := by decide +kernel
theorem dL_law_15 : decode cL_law 15 = .ok (.astore_n 2, 1) := by decide +kernel
theorem dL_law_16 : decode cL_law 16 = .ok (.iconst 0, 1) := by decide +kernel
theorem dL_law_17 : decode cL_law 17 = .ok (.istore_n 3, 1) := by decide +kernel
theorem dL_law_18 : decode cL_law 18 = .ok (.iload_n 3, 1) := by decide +kernel
theorem dL_law_19 : decode cL_law 19 = .ok (.aload_n 0, 1) := by decide +kernel
theorem dL_law_20 : decode cL_law 20 = .ok (.arraylength, 1) := by decide +kernel
theorem dL_law_21 : decode cL_law 21 = .ok (.bipush 7, 2) := by decide +kernel
theorem dL_law_23 : decode cL_law 23 = .ok (.isub, 1) := by decide +kernel
theorem dL_law_24 : decode cL_law 24 = .ok (.if_icmp .gt 1314, 3) := by decide +kernel
theorem dL_law_27 : decode cL_law 27 = .ok (.aload_n 0, 1) := by decide +kernel
theorem dL_law_28 : decode cL_law 28 = .ok (.iload_n 3, 1) := by decide +kernel
theorem dL_law_29 : decode cL_law 29 = .ok (.iaload, 1) := by decide +kernel
theorem dL_law_30 : decode cL_law 30 = .ok (.bipush 63, 2) := by decide +kernel
theorem dL_law_32 : decode cL_law 32 = .ok (.iand, 1) := by decide +kernel
theorem dL_law_33 : decode cL_law 33 = .ok (.tableswitch 1299 0 34 #[155, 218, 231, 264, 307, 340, 383, 422, 455, 518, 561, 584, 607, 621, 654, 707, 730, 743, 766, 779, 802, 825, 848, 891, 954, 997, 1040, 1063, 1086, 1109, 1142, 1175, 1250, 1263, 1276], 155) := by decide +kernel
theorem dL_law_188 : decode cL_law 188 = .ok (.aload_n 1, 1) := by decide +kernel
theorem dL_law_189 : decode cL_law 189 = .ok (.aload_n 0, 1) := by decide +kernel
theorem dL_law_190 : decode cL_law 190 = .ok (.iload_n 3, 1) := by decide +kernel
theorem dL_law_191 : decode cL_law 191 = .ok (.iconst 1, 1) := by decide +kernel
theorem dL_law_192 : decode cL_law 192 = .ok (.iadd, 1) := by decide +kernel
theorem dL_law_193 : decode cL_law 193 = .ok (.iaload, 1) := by decide +kernel
theorem dL_law_194 : decode cL_law 194 = .ok (.aload_n 0, 1) := by decide +kernel
theorem dL_law_195 : decode cL_law 195 = .ok (.iload_n 3, 1) := by decide +kernel
theorem dL_law_196 : decode cL_law 196 = .ok (.iconst 2, 1) := by decide +kernel
theorem dL_law_197 : decode cL_law 197 = .ok (.iadd, 1) := by decide +kernel
theorem dL_law_198 : decode cL_law 198 = .ok (.iaload, 1) := by decide +kernel
theorem dL_law_199 : decode cL_law 199 = .ok (.i2l, 1) := by decide +kernel
theorem dL_law_200 : decode cL_law 200 = .ok (.bipush 32, 2) := by decide +kernel
theorem dL_law_202 : decode cL_law 202 = .ok (.lshl, 1) := by decide +kernel
theorem dL_law_203 : decode cL_law 203 = .ok (.aload_n 0, 1) := by decide +kernel
theorem dL_law_204 : decode cL_law 204 = .ok (.iload_n 3, 1) := by decide +kernel
theorem dL_law_205 : decode cL_law 205 = .ok (.iconst 3, 1) := by decide +kernel
theorem dL_law_206 : decode cL_law 206 = .ok (.iadd, 1) := by decide +kernel
theorem dL_law_207 : decode cL_law 207 = .ok (.iaload, 1) := by decide +kernel
theorem dL_law_208 : decode cL_law 208 = .ok (.i2l, 1) := by decide +kernel
theorem dL_law_209 : decode cL_law 209 = .ok (.ldc2_w 13, 3) := by decide +kernel
theorem dL_law_212 : decode cL_law 212 = .ok (.land, 1) := by decide +kernel
theorem dL_law_213 : decode cL_law 213 = .ok (.lor, 1) := by decide +kernel
theorem dL_law_214 : decode cL_law 214 = .ok (.invokevirtual 15, 3) := by decide +kernel
theorem dL_law_217 : decode cL_law 217 = .ok (.aload_n 2, 1) := by decide +kernel
theorem dL_law_218 : decode cL_law 218 = .ok (.aload_n 0, 1) := by decide +kernel
theorem dL_law_219 : decode cL_law 219 = .ok (.iload_n 3, 1) := by decide +kernel
theorem dL_law_220 : decode cL_law 220 = .ok (.iconst 1, 1) := by decide +kernel
theorem dL_law_221 : decode cL_law 221 = .ok (.iadd, 1) := by decide +kernel
theorem dL_law_222 : decode cL_law 222 = .ok (.iaload, 1) := by decide +kernel
theorem dL_law_223 : decode cL_law 223 = .ok (.aload_n 0, 1) := by decide +kernel
theorem dL_law_224 : decode cL_law 224 = .ok (.iload_n 3, 1) := by decide +kernel
theorem dL_law_225 : decode cL_law 225 = .ok (.iconst 2, 1) := by decide +kernel
theorem dL_law_226 : decode cL_law 226 = .ok (.iadd, 1) := by decide +kernel
theorem dL_law_227 : decode cL_law 227 = .ok (.iaload, 1) := by decide +kernel
theorem dL_law_228 : decode cL_law 228 = .ok (.i2l, 1) := by decide +kernel
theorem dL_law_229 : decode cL_law 229 = .ok (.bipush 32, 2) := by decide +kernel
theorem dL_law_231 : decode cL_law 231 = .ok (.lshl, 1) := by decide +kernel
theorem dL_law_232 : decode cL_law 232 = .ok (.aload_n 0, 1) := by decide +kernel
theorem dL_law_233 : decode cL_law 233 = .ok (.iload_n 3, 1) := by decide +kernel
theorem dL_law_234 : decode cL_law 234 = .ok (.iconst 3, 1) := by decide +kernel
theorem dL_law_235 : decode cL_law 235 = .ok (.iadd, 1) := by decide +kernel
theorem dL_law_236 : decode cL_law 236 = .ok (.iaload, 1) := by decide +kernel
theorem dL_law_237 : decode cL_law 237 = .ok (.i2l, 1) := by decide +kernel
theorem dL_law_238 : decode cL_law 238 = .ok (.ldc2_w 13, 3) := by decide +kernel
theorem dL_law_241 : decode cL_law 241 = .ok (.land, 1) := by decide +kernel
theorem dL_law_242 : decode cL_law 242 = .ok (.lor, 1) := by decide +kernel
theorem dL_law_243 : decode cL_law 243 = .ok (.invokevirtual 19, 3) := by decide +kernel
theorem dL_law_246 : decode cL_law 246 = .ok (.if_icmp .eq 1086, 3) := by decide +kernel
theorem dL_law_249 : decode cL_law 249 = .ok (.iconst 0, 1) := by decide +kernel
theorem dL_law_250 : decode cL_law 250 = .ok (.ireturn, 1) := by decide +kernel
theorem dL_law_251 : decode cL_law 251 = .ok (.aload_n 1, 1) := by decide +kernel
theorem dL_law_252 : decode cL_law 252 = .ok (.invokevirtual 20, 3) := by decide +kernel
theorem dL_law_255 : decode cL_law 255 = .ok (.aload_n 2, 1) := by decide +kernel
theorem dL_law_256 : decode cL_law 256 = .ok (.invokevirtual 24, 3) := by decide +kernel
theorem dL_law_259 : decode cL_law 259 = .ok (.if_icmp .eq 1073, 3) := by decide +kernel
theorem dL_law_262 : decode cL_law 262 = .ok (.iconst 0, 1) := by decide +kernel
theorem dL_law_263 : decode cL_law 263 = .ok (.ireturn, 1) := by decide +kernel
theorem dL_law_264 : decode cL_law 264 = .ok (.aload_n 1, 1) := by decide +kernel
theorem dL_law_265 : decode cL_law 265 = .ok (.aload_n 0, 1) := by decide +kernel
theorem dL_law_266 : decode cL_law 266 = .ok (.iload_n 3, 1) := by decide +kernel
theorem dL_law_267 : decode cL_law 267 = .ok (.iconst 1, 1) := by decide +kernel
theorem dL_law_268 : decode cL_law 268 = .ok (.iadd, 1) := by decide +kernel
theorem dL_law_269 : decode cL_law 269 = .ok (.iaload, 1) := by decide +kernel
theorem dL_law_270 : decode cL_law 270 = .ok (.aload_n 0, 1) := by decide +kernel
theorem dL_law_271 : decode cL_law 271 = .ok (.iload_n 3, 1) := by decide +kernel
theorem dL_law_272 : decode cL_law 272 = .ok (.iconst 2, 1) := by decide +kernel
theorem dL_law_273 : decode cL_law 273 = .ok (.iadd, 1) := by decide +kernel
theorem dL_law_274 : decode cL_law 274 = .ok (.iaload, 1) := by decide +kernel
theorem dL_law_275 : decode cL_law 275 = .ok (.invokevirtual 25, 3) := by decide +kernel
theorem dL_law_278 : decode cL_law 278 = .ok (.aload_n 2, 1) := by decide +kernel
theorem dL_law_279 : decode cL_law 279 = .ok (.aload_n 0, 1) := by decide +kernel
theorem dL_law_280 : decode cL_law 280 = .ok (.iload_n 3, 1) := by decide +kernel
theorem dL_law_281 : decode cL_law 281 = .ok (.iconst 1, 1) := by decide +kernel
theorem dL_law_282 : decode cL_law 282 = .ok (.iadd, 1) := by decide +kernel
theorem dL_law_283 : decode cL_law 283 = .ok (.iaload, 1) := by decide +kernel
theorem dL_law_284 : decode cL_law 284 = .ok (.aload_n 0, 1) := by decide +kernel
theorem dL_law_285 : decode cL_law 285 = .ok (.iload_n 3, 1) := by decide +kernel
theorem dL_law_286 : decode cL_law 286 = .ok (.iconst 2, 1) := by decide +kernel
theorem dL_law_287 : decode cL_law 287 = .ok (.iadd, 1) := by decide +kernel
theorem dL_law_288 : decode cL_law 288 = .ok (.iaload, 1) := by decide +kernel
theorem dL_law_289 : decode cL_law 289 = .ok (.invokevirtual 29, 3) := by decide +kernel
theorem dL_law_292 : decode cL_law 292 = .ok (.if_icmp .eq 1040, 3) := by decide +kernel
theorem dL_law_295 : decode cL_law 295 = .ok (.iconst 0, 1) := by decide +kernel
theorem dL_law_296 : decode cL_law 296 = .ok (.ireturn, 1) := by decide +kernel
theorem dL_law_297 : decode cL_law 297 = .ok (.aload_n 1, 1) := by decide +kernel
theorem dL_law_298 : decode cL_law 298 = .ok (.aload_n 0, 1) := by decide +kernel
theorem dL_law_299 : decode cL_law 299 = .ok (.iload_n 3, 1) := by decide +kernel
theorem dL_law_300 : decode cL_law 300 = .ok (.iconst 1, 1) := by decide +kernel
theorem dL_law_301 : decode cL_law 301 = .ok (.iadd, 1) := by decide +kernel
theorem dL_law_302 : decode cL_law 302 = .ok (.iaload, 1) := by decide +kernel
theorem dL_law_303 : decode cL_law 303 = .ok (.aload_n 0, 1) := by decide +kernel
theorem dL_law_304 : decode cL_law 304 = .ok (.iload_n 3, 1) := by decide +kernel
theorem dL_law_305 : decode cL_law 305 = .ok (.iconst 2, 1) := by decide +kernel
theorem dL_law_306 : decode cL_law 306 = .ok (.iadd, 1) := by decide +kernel
theorem dL_law_307 : decode cL_law 307 = .ok (.iaload, 1) := by decide +kernel
theorem dL_law_308 : decode cL_law 308 = .ok (.aload_n 0, 1) := by decide +kernel
theorem dL_law_309 : decode cL_law 309 = .ok (.iload_n 3, 1) := by decide +kernel
theorem dL_law_310 : decode cL_law 310 = .ok (.iconst 3, 1) := by decide +kernel
theorem dL_law_311 : decode cL_law 311 = .ok (.iadd, 1) := by decide +kernel
theorem dL_law_312 : decode cL_law 312 = .ok (.iaload, 1) := by decide +kernel
theorem dL_law_313 : decode cL_law 313 = .ok (.invokevirtual 30, 3) := by decide +kernel
theorem dL_law_316 : decode cL_law 316 = .ok (.aload_n 2, 1) := by decide +kernel
theorem dL_law_317 : decode cL_law 317 = .ok (.aload_n 0, 1) := by decide +kernel
theorem dL_law_318 : decode cL_law 318 = .ok (.iload_n 3, 1) := by decide +kernel
theorem dL_law_319 : decode cL_law 319 = .ok (.iconst 1, 1) := by decide +kernel
theorem dL_law_320 : decode cL_law 320 = .ok (.iadd, 1) := by decide +kernel
theorem dL_law_321 : decode cL_law 321 = .ok (.iaload, 1) := by decide +kernel
theorem dL_law_322 : decode cL_law 322 = .ok (.aload_n 0, 1) := by decide +kernel
theorem dL_law_323 : decode cL_law 323 = .ok (.iload_n 3, 1) := by decide +kernel
theorem dL_law_324 : decode cL_law 324 = .ok (.iconst 2, 1) := by decide +kernel
theorem dL_law_325 : decode cL_law 325 = .ok (.iadd, 1) := by decide +kernel
theorem dL_law_326 : decode cL_law 326 = .ok (.iaload, 1) := by decide +kernel
theorem dL_law_327 : decode cL_law 327 = .ok (.aload_n 0, 1) := by decide +kernel
theorem dL_law_328 : decode cL_law 328 = .ok (.iload_n 3, 1) := by decide +kernel
theorem dL_law_329 : decode cL_law 329 = .ok (.iconst 3, 1) := by decide +kernel
theorem dL_law_330 : decode cL_law 330 = .ok (.iadd, 1) := by decide +kernel
theorem dL_law_331 : decode cL_law 331 = .ok (.iaload, 1) := by decide +kernel
theorem dL_law_332 : decode cL_law 332 = .ok (.invokevirtual 34, 3) := by decide +kernel
theorem dL_law_335 : decode cL_law 335 = .ok (.if_icmp .eq 997, 3) := by decide +kernel
theorem dL_law_338 : decode cL_law 338 = .ok (.iconst 0, 1) := by decide +kernel
theorem dL_law_339 : decode cL_law 339 = .ok (.ireturn, 1) := by decide +kernel
theorem dL_law_340 : decode cL_law 340 = .ok (.aload_n 1, 1) := by decide +kernel
theorem dL_law_341 : decode cL_law 341 = .ok (.aload_n 0, 1) := by decide +kernel
theorem dL_law_342 : decode cL_law 342 = .ok (.iload_n 3, 1) := by decide +kernel
theorem dL_law_343 : decode cL_law 343 = .ok (.iconst 1, 1) := by decide +kernel
theorem dL_law_344 : decode cL_law 344 = .ok (.iadd, 1) := by decide +kernel
theorem dL_law_345 : decode cL_law 345 = .ok (.iaload, 1) := by decide +kernel
theorem dL_law_346 : decode cL_law 346 = .ok (.aload_n 0, 1) := by decide +kernel
theorem dL_law_347 : decode cL_law 347 = .ok (.iload_n 3, 1) := by decide +kernel
theorem dL_law_348 : decode cL_law 348 = .ok (.iconst 2, 1) := by decide +kernel
theorem dL_law_349 : decode cL_law 349 = .ok (.iadd, 1) := by decide +kernel
theorem dL_law_350 : decode cL_law 350 = .ok (.iaload, 1) := by decide +kernel
theorem dL_law_351 : decode cL_law 351 = .ok (.invokevirtual 35, 3) := by decide +kernel
theorem dL_law_354 : decode cL_law 354 = .ok (.aload_n 2, 1) := by decide +kernel
theorem dL_law_355 : decode cL_law 355 = .ok (.aload_n 0, 1) := by decide +kernel
theorem dL_law_356 : decode cL_law 356 = .ok (.iload_n 3, 1) := by decide +kernel
theorem dL_law_357 : decode cL_law 357 = .ok (.iconst 1, 1) := by decide +kernel
theorem dL_law_358 : decode cL_law 358 = .ok (.iadd, 1) := by decide +kernel
theorem dL_law_359 : decode cL_law 359 = .ok (.iaload, 1) := by decide +kernel
theorem dL_law_360 : decode cL_law 360 = .ok (.aload_n 0, 1) := by decide +kernel
theorem dL_law_361 : decode cL_law 361 = .ok (.iload_n 3, 1) := by decide +kernel
theorem dL_law_362 : decode cL_law 362 = .ok (.iconst 2, 1) := by decide +kernel
theorem dL_law_363 : decode cL_law 363 = .ok (.iadd, 1) := by decide +kernel
theorem dL_law_364 : decode cL_law 364 = .ok (.iaload, 1) := by decide +kernel
theorem dL_law_365 : decode cL_law 365 = .ok (.invokevirtual 38, 3) := by decide +kernel
theorem dL_law_368 : decode cL_law 368 = .ok (.if_icmp .eq 964, 3) := by decide +kernel
theorem dL_law_371 : decode cL_law 371 = .ok (.iconst 0, 1) := by decide +kernel
theorem dL_law_372 : decode cL_law 372 = .ok (.ireturn, 1) := by decide +kernel
theorem dL_law_373 : decode cL_law 373 = .ok (.aload_n 1, 1) := by decide +kernel
theorem dL_law_374 : decode cL_law 374 = .ok (.aload_n 0, 1) := by decide +kernel
theorem dL_law_375 : decode cL_law 375 = .ok (.iload_n 3, 1) := by decide +kernel
theorem dL_law_376 : decode cL_law 376 = .ok (.iconst 1, 1) := by decide +kernel
theorem dL_law_377 : decode cL_law 377 = .ok (.iadd, 1) := by decide +kernel
theorem dL_law_378 : decode cL_law 378 = .ok (.iaload, 1) := by decide +kernel
theorem dL_law_379 : decode cL_law 379 = .ok (.aload_n 0, 1) := by decide +kernel
theorem dL_law_380 : decode cL_law 380 = .ok (.iload_n 3, 1) := by decide +kernel
theorem dL_law_381 : decode cL_law 381 = .ok (.iconst 2, 1) := by decide +kernel
theorem dL_law_382 : decode cL_law 382 = .ok (.iadd, 1) := by decide +kernel
theorem dL_law_383 : decode cL_law 383 = .ok (.iaload, 1) := by decide +kernel
theorem dL_law_384 : decode cL_law 384 = .ok (.aload_n 0, 1) := by decide +kernel
theorem dL_law_385 : decode cL_law 385 = .ok (.iload_n 3, 1) := by decide +kernel
theorem dL_law_386 : decode cL_law 386 = .ok (.iconst 3, 1) := by decide +kernel
theorem dL_law_387 : decode cL_law 387 = .ok (.iadd, 1) := by decide +kernel
theorem dL_law_388 : decode cL_law 388 = .ok (.iaload, 1) := by decide +kernel
theorem dL_law_389 : decode cL_law 389 = .ok (.invokevirtual 39, 3) := by decide +kernel
theorem dL_law_392 : decode cL_law 392 = .ok (.aload_n 2, 1) := by decide +kernel
theorem dL_law_393 : decode cL_law 393 = .ok (.aload_n 0, 1) := by decide +kernel
theorem dL_law_394 : decode cL_law 394 = .ok (.iload_n 3, 1) := by decide +kernel
theorem dL_law_395 : decode cL_law 395 = .ok (.iconst 1, 1) := by decide +kernel
theorem dL_law_396 : decode cL_law 396 = .ok (.iadd, 1) := by decide +kernel
theorem dL_law_397 : decode cL_law 397 = .ok (.iaload, 1) := by decide +kernel
theorem dL_law_398 : decode cL_law 398 = .ok (.aload_n 0, 1) := by decide +kernel
theorem dL_law_399 : decode cL_law 399 = .ok (.iload_n 3, 1) := by decide +kernel
theorem dL_law_400 : decode cL_law 400 = .ok (.iconst 2, 1) := by decide +kernel
theorem dL_law_401 : decode cL_law 401 = .ok (.iadd, 1) := by decide +kernel
theorem dL_law_402 : decode cL_law 402 = .ok (.iaload, 1) := by decide +kernel
theorem dL_law_403 : decode cL_law 403 = .ok (.aload_n 0, 1) := by decide +kernel
theorem dL_law_404 : decode cL_law 404 = .ok (.iload_n 3, 1) := by decide +kernel
theorem dL_law_405 : decode cL_law 405 = .ok (.iconst 3, 1) := by decide +kernel
theorem dL_law_406 : decode cL_law 406 = .ok (.iadd, 1) := by decide +kernel
theorem dL_law_407 : decode cL_law 407 = .ok (.iaload, 1) := by decide +kernel
theorem dL_law_408 : decode cL_law 408 = .ok (.invokevirtual 42, 3) := by decide +kernel
theorem dL_law_411 : decode cL_law 411 = .ok (.if_icmp .eq 921, 3) := by decide +kernel
theorem dL_law_414 : decode cL_law 414 = .ok (.iconst 0, 1) := by decide +kernel
theorem dL_law_415 : decode cL_law 415 = .ok (.ireturn, 1) := by decide +kernel
theorem dL_law_416 : decode cL_law 416 = .ok (.aload_n 1, 1) := by decide +kernel
theorem dL_law_417 : decode cL_law 417 = .ok (.aload_n 0, 1) := by decide +kernel
theorem dL_law_418 : decode cL_law 418 = .ok (.iload_n 3, 1) := by decide +kernel
theorem dL_law_419 : decode cL_law 419 = .ok (.iconst 1, 1) := by decide +kernel
theorem dL_law_420 : decode cL_law 420 = .ok (.iadd, 1) := by decide +kernel
theorem dL_law_421 : decode cL_law 421 = .ok (.iaload, 1) := by decide +kernel
theorem dL_law_422 : decode cL_law 422 = .ok (.ifCond .eq 7, 3) := by decide +kernel
theorem dL_law_425 : decode cL_law 425 = .ok (.iconst 1, 1) := by decide +kernel
theorem dL_law_426 : decode cL_law 426 = .ok (.goto 4, 3) := by decide +kernel
theorem dL_law_429 : decode cL_law 429 = .ok (.iconst 0, 1) := by decide +kernel
theorem dL_law_430 : decode cL_law 430 = .ok (.invokevirtual 43, 3) := by decide +kernel
theorem dL_law_433 : decode cL_law 433 = .ok (.aload_n 2, 1) := by decide +kernel
theorem dL_law_434 : decode cL_law 434 = .ok (.aload_n 0, 1) := by decide +kernel
theorem dL_law_435 : decode cL_law 435 = .ok (.iload_n 3, 1) := by decide +kernel
theorem dL_law_436 : decode cL_law 436 = .ok (.iconst 1, 1) := by decide +kernel
theorem dL_law_437 : decode cL_law 437 = .ok (.iadd, 1) := by decide +kernel
theorem dL_law_438 : decode cL_law 438 = .ok (.iaload, 1) := by decide +kernel
theorem dL_law_439 : decode cL_law 439 = .ok (.ifCond .eq 7, 3) := by decide +kernel
theorem dL_law_442 : decode cL_law 442 = .ok (.iconst 1, 1) := by decide +kernel
theorem dL_law_443 : decode cL_law 443 = .ok (.goto 4, 3) := by decide +kernel
theorem dL_law_446 : decode cL_law 446 = .ok (.iconst 0, 1) := by decide +kernel
theorem dL_law_447 : decode cL_law 447 = .ok (.invokevirtual 47, 3) := by decide +kernel
theorem dL_law_450 : decode cL_law 450 = .ok (.if_icmp .eq 882, 3) := by decide +kernel
theorem dL_law_453 : decode cL_law 453 = .ok (.iconst 0, 1) := by decide +kernel
theorem dL_law_454 : decode cL_law 454 = .ok (.ireturn, 1) := by decide +kernel
theorem dL_law_455 : decode cL_law 455 = .ok (.aload_n 1, 1) := by decide +kernel
theorem dL_law_456 : decode cL_law 456 = .ok (.aload_n 0, 1) := by decide +kernel
theorem dL_law_457 : decode cL_law 457 = .ok (.iload_n 3, 1) := by decide +kernel
theorem dL_law_458 : decode cL_law 458 = .ok (.iconst 1, 1) := by decide +kernel
theorem dL_law_459 : decode cL_law 459 = .ok (.iadd, 1) := by decide +kernel
theorem dL_law_460 : decode cL_law 460 = .ok (.iaload, 1) := by decide +kernel
theorem dL_law_461 : decode cL_law 461 = .ok (.aload_n 0, 1) := by decide +kernel
theorem dL_law_462 : decode cL_law 462 = .ok (.iload_n 3, 1) := by decide +kernel
theorem dL_law_463 : decode cL_law 463 = .ok (.iconst 2, 1) := by decide +kernel
theorem dL_law_464 : decode cL_law 464 = .ok (.iadd, 1) := by decide +kernel
theorem dL_law_465 : decode cL_law 465 = .ok (.iaload, 1) := by decide +kernel
theorem dL_law_466 : decode cL_law 466 = .ok (.invokevirtual 48, 3) := by decide +kernel
theorem dL_law_469 : decode cL_law 469 = .ok (.aload_n 2, 1) := by decide +kernel
theorem dL_law_470 : decode cL_law 470 = .ok (.aload_n 0, 1) := by decide +kernel
theorem dL_law_471 : decode cL_law 471 = .ok (.iload_n 3, 1) := by decide +kernel
theorem dL_law_472 : decode cL_law 472 = .ok (.iconst 1, 1) := by decide +kernel
theorem dL_law_473 : decode cL_law 473 = .ok (.iadd, 1) := by decide +kernel
theorem dL_law_474 : decode cL_law 474 = .ok (.iaload, 1) := by decide +kernel
theorem dL_law_475 : decode cL_law 475 = .ok (.aload_n 0, 1) := by decide +kernel
theorem dL_law_476 : decode cL_law 476 = .ok (.iload_n 3, 1) := by decide +kernel
theorem dL_law_477 : decode cL_law 477 = .ok (.iconst 2, 1) := by decide +kernel
theorem dL_law_478 : decode cL_law 478 = .ok (.iadd, 1) := by decide +kernel
theorem dL_law_479 : decode cL_law 479 = .ok (.iaload, 1) := by decide +kernel
theorem dL_law_480 : decode cL_law 480 = .ok (.invokevirtual 51, 3) := by decide +kernel
theorem dL_law_483 : decode cL_law 483 = .ok (.if_icmp .eq 849, 3) := by decide +kernel
theorem dL_law_486 : decode cL_law 486 = .ok (.iconst 0, 1) := by decide +kernel
theorem dL_law_487 : decode cL_law 487 = .ok (.ireturn, 1) := by decide +kernel
theorem dL_law_488 : decode cL_law 488 = .ok (.aload_n 1, 1) := by decide +kernel
theorem dL_law_489 : decode cL_law 489 = .ok (.aload_n 0, 1) := by decide +kernel
theorem dL_law_490 : decode cL_law 490 = .ok (.iload_n 3, 1) := by decide +kernel
theorem dL_law_491 : decode cL_law 491 = .ok (.iconst 1, 1) := by decide +kernel
theorem dL_law_492 : decode cL_law 492 = .ok (.iadd, 1) := by decide +kernel
theorem dL_law_493 : decode cL_law 493 = .ok (.iaload, 1) := by decide +kernel
theorem dL_law_494 : decode cL_law 494 = .ok (.aload_n 0, 1) := by decide +kernel
theorem dL_law_495 : decode cL_law 495 = .ok (.iload_n 3, 1) := by decide +kernel
theorem dL_law_496 : decode cL_law 496 = .ok (.iconst 2, 1) := by decide +kernel
theorem dL_law_497 : decode cL_law 497 = .ok (.iadd, 1) := by decide +kernel
theorem dL_law_498 : decode cL_law 498 = .ok (.iaload, 1) := by decide +kernel
theorem dL_law_499 : decode cL_law 499 = .ok (.aload_n 0, 1) := by decide +kernel
theorem dL_law_500 : decode cL_law 500 = .ok (.iload_n 3, 1) := by decide +kernel
theorem dL_law_501 : decode cL_law 501 = .ok (.iconst 3, 1) := by decide +kernel
theorem dL_law_502 : decode cL_law 502 = .ok (.iadd, 1) := by decide +kernel
theorem dL_law_503 : decode cL_law 503 = .ok (.iaload, 1) := by decide +kernel
theorem dL_law_504 : decode cL_law 504 = .ok (.aload_n 0, 1) := by decide +kernel
theorem dL_law_505 : decode cL_law 505 = .ok (.iload_n 3, 1) := by decide +kernel
theorem dL_law_506 : decode cL_law 506 = .ok (.iconst 4, 1) := by decide +kernel
theorem dL_law_507 : decode cL_law 507 = .ok (.iadd, 1) := by decide +kernel
theorem dL_law_508 : decode cL_law 508 = .ok (.iaload, 1) := by decide +kernel
theorem dL_law_509 : decode cL_law 509 = .ok (.aload_n 0, 1) := by decide +kernel
theorem dL_law_510 : decode cL_law 510 = .ok (.iload_n 3, 1) := by decide +kernel
theorem dL_law_511 : decode cL_law 511 = .ok (.iconst 5, 1) := by decide +kernel
theorem dL_law_512 : decode cL_law 512 = .ok (.iadd, 1) := by decide +kernel
theorem dL_law_513 : decode cL_law 513 = .ok (.iaload, 1) := by decide +kernel
theorem dL_law_514 : decode cL_law 514 = .ok (.invokevirtual 52, 3) := by decide +kernel
theorem dL_law_517 : decode cL_law 517 = .ok (.aload_n 2, 1) := by decide +kernel
theorem dL_law_518 : decode cL_law 518 = .ok (.aload_n 0, 1) := by decide +kernel
theorem dL_law_519 : decode cL_law 519 = .ok (.iload_n 3, 1) := by decide +kernel
theorem dL_law_520 : decode cL_law 520 = .ok (.iconst 1, 1) := by decide +kernel
theorem dL_law_521 : decode cL_law 521 = .ok (.iadd, 1) := by decide +kernel
theorem dL_law_522 : decode cL_law 522 = .ok (.iaload, 1) := by decide +kernel
theorem dL_law_523 : decode cL_law 523 = .ok (.aload_n 0, 1) := by decide +kernel
theorem dL_law_524 : decode cL_law 524 = .ok (.iload_n 3, 1) := by decide +kernel
theorem dL_law_525 : decode cL_law 525 = .ok (.iconst 2, 1) := by decide +kernel
theorem dL_law_526 : decode cL_law 526 = .ok (.iadd, 1) := by decide +kernel
theorem dL_law_527 : decode cL_law 527 = .ok (.iaload, 1) := by decide +kernel
theorem dL_law_528 : decode cL_law 528 = .ok (.aload_n 0, 1) := by decide +kernel
theorem dL_law_529 : decode cL_law 529 = .ok (.iload_n 3, 1) := by decide +kernel
theorem dL_law_530 : decode cL_law 530 = .ok (.iconst 3, 1) := by decide +kernel
theorem dL_law_531 : decode cL_law 531 = .ok (.iadd, 1) := by decide +kernel
theorem dL_law_532 : decode cL_law 532 = .ok (.iaload, 1) := by decide +kernel
theorem dL_law_533 : decode cL_law 533 = .ok (.aload_n 0, 1) := by decide +kernel
theorem dL_law_534 : decode cL_law 534 = .ok (.iload_n 3, 1) := by decide +kernel
theorem dL_law_535 : decode cL_law 535 = .ok (.iconst 4, 1) := by decide +kernel
theorem dL_law_536 : decode cL_law 536 = .ok (.iadd, 1) := by decide +kernel
theorem dL_law_537 : decode cL_law 537 = .ok (.iaload, 1) := by decide +kernel
theorem dL_law_538 : decode cL_law 538 = .ok (.aload_n 0, 1) := by decide +kernel
theorem dL_law_539 : decode cL_law 539 = .ok (.iload_n 3, 1) := by decide +kernel
theorem dL_law_540 : decode cL_law 540 = .ok (.iconst 5, 1) := by decide +kernel
theorem dL_law_541 : decode cL_law 541 = .ok (.iadd, 1) := by decide +kernel
theorem dL_law_542 : decode cL_law 542 = .ok (.iaload, 1) := by decide +kernel
theorem dL_law_543 : decode cL_law 543 = .ok (.invokevirtual 56, 3) := by decide +kernel
theorem dL_law_546 : decode cL_law 546 = .ok (.if_icmp .eq 786, 3) := by decide +kernel
theorem dL_law_549 : decode cL_law 549 = .ok (.iconst 0, 1) := by decide +kernel
theorem dL_law_550 : decode cL_law 550 = .ok (.ireturn, 1) := by decide +kernel
theorem dL_law_551 : decode cL_law 551 = .ok (.aload_n 1, 1) := by decide +kernel
theorem dL_law_552 : decode cL_law 552 = .ok (.aload_n 0, 1) := by decide +kernel
theorem dL_law_553 : decode cL_law 553 = .ok (.iload_n 3, 1) := by decide +kernel
theorem dL_law_554 : decode cL_law 554 = .ok (.iconst 1, 1) := by decide +kernel
theorem dL_law_555 : decode cL_law 555 = .ok (.iadd, 1) := by decide +kernel
theorem dL_law_556 : decode cL_law 556 = .ok (.iaload, 1) := by decide +kernel
theorem dL_law_557 : decode cL_law 557 = .ok (.aload_n 0, 1) := by decide +kernel
theorem dL_law_558 : decode cL_law 558 = .ok (.iload_n 3, 1) := by decide +kernel
theorem dL_law_559 : decode cL_law 559 = .ok (.iconst 2, 1) := by decide +kernel
theorem dL_law_560 : decode cL_law 560 = .ok (.iadd, 1) := by decide +kernel
theorem dL_law_561 : decode cL_law 561 = .ok (.iaload, 1) := by decide +kernel
theorem dL_law_562 : decode cL_law 562 = .ok (.aload_n 0, 1) := by decide +kernel
theorem dL_law_563 : decode cL_law 563 = .ok (.iload_n 3, 1) := by decide +kernel
theorem dL_law_564 : decode cL_law 564 = .ok (.iconst 3, 1) := by decide +kernel
theorem dL_law_565 : decode cL_law 565 = .ok (.iadd, 1) := by decide +kernel
theorem dL_law_566 : decode cL_law 566 = .ok (.iaload, 1) := by decide +kernel
theorem dL_law_567 : decode cL_law 567 = .ok (.invokevirtual 57, 3) := by decide +kernel
theorem dL_law_570 : decode cL_law 570 = .ok (.aload_n 2, 1) := by decide +kernel
theorem dL_law_571 : decode cL_law 571 = .ok (.aload_n 0, 1) := by decide +kernel
theorem dL_law_572 : decode cL_law 572 = .ok (.iload_n 3, 1) := by decide +kernel
theorem dL_law_573 : decode cL_law 573 = .ok (.iconst 1, 1) := by decide +kernel
theorem dL_law_574 : decode cL_law 574 = .ok (.iadd, 1) := by decide +kernel
theorem dL_law_575 : decode cL_law 575 = .ok (.iaload, 1) := by decide +kernel
theorem dL_law_576 : decode cL_law 576 = .ok (.aload_n 0, 1) := by decide +kernel
theorem dL_law_577 : decode cL_law 577 = .ok (.iload_n 3, 1) := by decide +kernel
theorem dL_law_578 : decode cL_law 578 = .ok (.iconst 2, 1) := by decide +kernel
theorem dL_law_579 : decode cL_law 579 = .ok (.iadd, 1) := by decide +kernel
theorem dL_law_580 : decode cL_law 580 = .ok (.iaload, 1) := by decide +kernel
theorem dL_law_581 : decode cL_law 581 = .ok (.aload_n 0, 1) := by decide +kernel
theorem dL_law_582 : decode cL_law 582 = .ok (.iload_n 3, 1) := by decide +kernel
theorem dL_law_583 : decode cL_law 583 = .ok (.iconst 3, 1) := by decide +kernel
theorem dL_law_584 : decode cL_law 584 = .ok (.iadd, 1) := by decide +kernel
theorem dL_law_585 : decode cL_law 585 = .ok (.iaload, 1) := by decide +kernel
theorem dL_law_586 : decode cL_law 586 = .ok (.invokevirtual 60, 3) := by decide +kernel
theorem dL_law_589 : decode cL_law 589 = .ok (.if_icmp .eq 743, 3) := by decide +kernel
theorem dL_law_592 : decode cL_law 592 = .ok (.iconst 0, 1) := by decide +kernel
theorem dL_law_593 : decode cL_law 593 = .ok (.ireturn, 1) := by decide +kernel
theorem dL_law_594 : decode cL_law 594 = .ok (.aload_n 1, 1) := by decide +kernel
theorem dL_law_595 : decode cL_law 595 = .ok (.aload_n 0, 1) := by decide +kernel
theorem dL_law_596 : decode cL_law 596 = .ok (.iload_n 3, 1) := by decide +kernel
theorem dL_law_597 : decode cL_law 597 = .ok (.iconst 1, 1) := by decide +kernel
theorem dL_law_598 : decode cL_law 598 = .ok (.iadd, 1) := by decide +kernel
theorem dL_law_599 : decode cL_law 599 = .ok (.iaload, 1) := by decide +kernel
theorem dL_law_600 : decode cL_law 600 = .ok (.invokevirtual 61, 3) := by decide +kernel
theorem dL_law_603 : decode cL_law 603 = .ok (.aload_n 2, 1) := by decide +kernel
theorem dL_law_604 : decode cL_law 604 = .ok (.aload_n 0, 1) := by decide +kernel
theorem dL_law_605 : decode cL_law 605 = .ok (.iload_n 3, 1) := by decide +kernel
theorem dL_law_606 : decode cL_law 606 = .ok (.iconst 1, 1) := by decide +kernel
theorem dL_law_607 : decode cL_law 607 = .ok (.iadd, 1) := by decide +kernel
theorem dL_law_608 : decode cL_law 608 = .ok (.iaload, 1) := by decide +kernel
theorem dL_law_609 : decode cL_law 609 = .ok (.invokevirtual 65, 3) := by decide +kernel
theorem dL_law_612 : decode cL_law 612 = .ok (.if_icmp .eq 720, 3) := by decide +kernel
theorem dL_law_615 : decode cL_law 615 = .ok (.iconst 0, 1) := by decide +kernel
theorem dL_law_616 : decode cL_law 616 = .ok (.ireturn, 1) := by decide +kernel
theorem dL_law_617 : decode cL_law 617 = .ok (.aload_n 1, 1) := by decide +kernel
theorem dL_law_618 : decode cL_law 618 = .ok (.aload_n 0, 1) := by decide +kernel
theorem dL_law_619 : decode cL_law 619 = .ok (.iload_n 3, 1) := by decide +kernel
theorem dL_law_620 : decode cL_law 620 = .ok (.iconst 1, 1) := by decide +kernel
theorem dL_law_621 : decode cL_law 621 = .ok (.iadd, 1) := by decide +kernel
theorem dL_law_622 : decode cL_law 622 = .ok (.iaload, 1) := by decide +kernel
theorem dL_law_623 : decode cL_law 623 = .ok (.invokevirtual 66, 3) := by decide +kernel
theorem dL_law_626 : decode cL_law 626 = .ok (.aload_n 2, 1) := by decide +kernel
theorem dL_law_627 : decode cL_law 627 = .ok (.aload_n 0, 1) := by decide +kernel
theorem dL_law_628 : decode cL_law 628 = .ok (.iload_n 3, 1) := by decide +kernel
theorem dL_law_629 : decode cL_law 629 = .ok (.iconst 1, 1) := by decide +kernel
theorem dL_law_630 : decode cL_law 630 = .ok (.iadd, 1) := by decide +kernel
theorem dL_law_631 : decode cL_law 631 = .ok (.iaload, 1) := by decide +kernel
theorem dL_law_632 : decode cL_law 632 = .ok (.invokevirtual 69, 3) := by decide +kernel
theorem dL_law_635 : decode cL_law 635 = .ok (.if_icmp .eq 697, 3) := by decide +kernel
theorem dL_law_638 : decode cL_law 638 = .ok (.iconst 0, 1) := by decide +kernel
theorem dL_law_639 : decode cL_law 639 = .ok (.ireturn, 1) := by decide +kernel
theorem dL_law_640 : decode cL_law 640 = .ok (.aload_n 1, 1) := by decide +kernel
theorem dL_law_641 : decode cL_law 641 = .ok (.invokevirtual 70, 3) := by decide +kernel
theorem dL_law_644 : decode cL_law 644 = .ok (.aload_n 2, 1) := by decide +kernel
theorem dL_law_645 : decode cL_law 645 = .ok (.invokevirtual 74, 3) := by decide +kernel
theorem dL_law_648 : decode cL_law 648 = .ok (.lcmp, 1) := by decide +kernel
theorem dL_law_649 : decode cL_law 649 = .ok (.ifCond .eq 683, 3) := by decide +kernel
theorem dL_law_652 : decode cL_law 652 = .ok (.iconst 0, 1) := by decide +kernel
theorem dL_law_653 : decode cL_law 653 = .ok (.ireturn, 1) := by decide +kernel
theorem dL_law_654 : decode cL_law 654 = .ok (.aload_n 1, 1) := by decide +kernel
theorem dL_law_655 : decode cL_law 655 = .ok (.aload_n 0, 1) := by decide +kernel
theorem dL_law_656 : decode cL_law 656 = .ok (.iload_n 3, 1) := by decide +kernel
theorem dL_law_657 : decode cL_law 657 = .ok (.iconst 1, 1) := by decide +kernel
theorem dL_law_658 : decode cL_law 658 = .ok (.iadd, 1) := by decide +kernel
theorem dL_law_659 : decode cL_law 659 = .ok (.iaload, 1) := by decide +kernel
theorem dL_law_660 : decode cL_law 660 = .ok (.aload_n 0, 1) := by decide +kernel
theorem dL_law_661 : decode cL_law 661 = .ok (.iload_n 3, 1) := by decide +kernel
theorem dL_law_662 : decode cL_law 662 = .ok (.iconst 2, 1) := by decide +kernel
theorem dL_law_663 : decode cL_law 663 = .ok (.iadd, 1) := by decide +kernel
theorem dL_law_664 : decode cL_law 664 = .ok (.iaload, 1) := by decide +kernel
theorem dL_law_665 : decode cL_law 665 = .ok (.invokevirtual 75, 3) := by decide +kernel
theorem dL_law_668 : decode cL_law 668 = .ok (.aload_n 2, 1) := by decide +kernel
theorem dL_law_669 : decode cL_law 669 = .ok (.aload_n 0, 1) := by decide +kernel
theorem dL_law_670 : decode cL_law 670 = .ok (.iload_n 3, 1) := by decide +kernel
theorem dL_law_671 : decode cL_law 671 = .ok (.iconst 1, 1) := by decide +kernel
theorem dL_law_672 : decode cL_law 672 = .ok (.iadd, 1) := by decide +kernel
theorem dL_law_673 : decode cL_law 673 = .ok (.iaload, 1) := by decide +kernel
theorem dL_law_674 : decode cL_law 674 = .ok (.aload_n 0, 1) := by decide +kernel
theorem dL_law_675 : decode cL_law 675 = .ok (.iload_n 3, 1) := by decide +kernel
theorem dL_law_676 : decode cL_law 676 = .ok (.iconst 2, 1) := by decide +kernel
theorem dL_law_677 : decode cL_law 677 = .ok (.iadd, 1) := by decide +kernel
theorem dL_law_678 : decode cL_law 678 = .ok (.iaload, 1) := by decide +kernel
theorem dL_law_679 : decode cL_law 679 = .ok (.invokevirtual 78, 3) := by decide +kernel
theorem dL_law_682 : decode cL_law 682 = .ok (.if_icmp .eq 650, 3) := by decide +kernel
theorem dL_law_685 : decode cL_law 685 = .ok (.iconst 0, 1) := by decide +kernel
theorem dL_law_686 : decode cL_law 686 = .ok (.ireturn, 1) := by decide +kernel
theorem dL_law_687 : decode cL_law 687 = .ok (.aload_n 1, 1) := by decide +kernel
theorem dL_law_688 : decode cL_law 688 = .ok (.aload_n 0, 1) := by decide +kernel
theorem dL_law_689 : decode cL_law 689 = .ok (.iload_n 3, 1) := by decide +kernel
theorem dL_law_690 : decode cL_law 690 = .ok (.iconst 1, 1) := by decide +kernel
theorem dL_law_691 : decode cL_law 691 = .ok (.iadd, 1) := by decide +kernel
theorem dL_law_692 : decode cL_law 692 = .ok (.iaload, 1) := by decide +kernel
theorem dL_law_693 : decode cL_law 693 = .ok (.aload_n 0, 1) := by decide +kernel
theorem dL_law_694 : decode cL_law 694 = .ok (.iload_n 3, 1) := by decide +kernel
theorem dL_law_695 : decode cL_law 695 = .ok (.iconst 2, 1) := by decide +kernel
theorem dL_law_696 : decode cL_law 696 = .ok (.iadd, 1) := by decide +kernel
theorem dL_law_697 : decode cL_law 697 = .ok (.iaload, 1) := by decide +kernel
theorem dL_law_698 : decode cL_law 698 = .ok (.aload_n 0, 1) := by decide +kernel
theorem dL_law_699 : decode cL_law 699 = .ok (.iload_n 3, 1) := by decide +kernel
theorem dL_law_700 : decode cL_law 700 = .ok (.iconst 3, 1) := by decide +kernel
theorem dL_law_701 : decode cL_law 701 = .ok (.iadd, 1) := by decide +kernel
theorem dL_law_702 : decode cL_law 702 = .ok (.iaload, 1) := by decide +kernel
theorem dL_law_703 : decode cL_law 703 = .ok (.aload_n 0, 1) := by decide +kernel
theorem dL_law_704 : decode cL_law 704 = .ok (.iload_n 3, 1) := by decide +kernel
theorem dL_law_705 : decode cL_law 705 = .ok (.iconst 4, 1) := by decide +kernel
theorem dL_law_706 : decode cL_law 706 = .ok (.iadd, 1) := by decide +kernel
theorem dL_law_707 : decode cL_law 707 = .ok (.iaload, 1) := by decide +kernel
theorem dL_law_708 : decode cL_law 708 = .ok (.invokevirtual 79, 3) := by decide +kernel
theorem dL_law_711 : decode cL_law 711 = .ok (.aload_n 2, 1) := by decide +kernel
theorem dL_law_712 : decode cL_law 712 = .ok (.aload_n 0, 1) := by decide +kernel
theorem dL_law_713 : decode cL_law 713 = .ok (.iload_n 3, 1) := by decide +kernel
theorem dL_law_714 : decode cL_law 714 = .ok (.iconst 1, 1) := by decide +kernel
theorem dL_law_715 : decode cL_law 715 = .ok (.iadd, 1) := by decide +kernel
theorem dL_law_716 : decode cL_law 716 = .ok (.iaload, 1) := by decide +kernel
theorem dL_law_717 : decode cL_law 717 = .ok (.aload_n 0, 1) := by decide +kernel
theorem dL_law_718 : decode cL_law 718 = .ok (.iload_n 3, 1) := by decide +kernel
theorem dL_law_719 : decode cL_law 719 = .ok (.iconst 2, 1) := by decide +kernel
theorem dL_law_720 : decode cL_law 720 = .ok (.iadd, 1) := by decide +kernel
theorem dL_law_721 : decode cL_law 721 = .ok (.iaload, 1) := by decide +kernel
theorem dL_law_722 : decode cL_law 722 = .ok (.aload_n 0, 1) := by decide +kernel
theorem dL_law_723 : decode cL_law 723 = .ok (.iload_n 3, 1) := by decide +kernel
theorem dL_law_724 : decode cL_law 724 = .ok (.iconst 3, 1) := by decide +kernel
theorem dL_law_725 : decode cL_law 725 = .ok (.iadd, 1) := by decide +kernel
theorem dL_law_726 : decode cL_law 726 = .ok (.iaload, 1) := by decide +kernel
theorem dL_law_727 : decode cL_law 727 = .ok (.aload_n 0, 1) := by decide +kernel
theorem dL_law_728 : decode cL_law 728 = .ok (.iload_n 3, 1) := by decide +kernel
theorem dL_law_729 : decode cL_law 729 = .ok (.iconst 4, 1) := by decide +kernel
theorem dL_law_730 : decode cL_law 730 = .ok (.iadd, 1) := by decide +kernel
theorem dL_law_731 : decode cL_law 731 = .ok (.iaload, 1) := by decide +kernel
theorem dL_law_732 : decode cL_law 732 = .ok (.invokevirtual 83, 3) := by decide +kernel
theorem dL_law_735 : decode cL_law 735 = .ok (.if_icmp .eq 597, 3) := by decide +kernel
theorem dL_law_738 : decode cL_law 738 = .ok (.iconst 0, 1) := by decide +kernel
theorem dL_law_739 : decode cL_law 739 = .ok (.ireturn, 1) := by decide +kernel
theorem dL_law_740 : decode cL_law 740 = .ok (.aload_n 1, 1) := by decide +kernel
theorem dL_law_741 : decode cL_law 741 = .ok (.aload_n 0, 1) := by decide +kernel
theorem dL_law_742 : decode cL_law 742 = .ok (.iload_n 3, 1) := by decide +kernel
theorem dL_law_743 : decode cL_law 743 = .ok (.iconst 1, 1) := by decide +kernel
theorem dL_law_744 : decode cL_law 744 = .ok (.iadd, 1) := by decide +kernel
theorem dL_law_745 : decode cL_law 745 = .ok (.iaload, 1) := by decide +kernel
theorem dL_law_746 : decode cL_law 746 = .ok (.invokevirtual 84, 3) := by decide +kernel
theorem dL_law_749 : decode cL_law 749 = .ok (.aload_n 2, 1) := by decide +kernel
theorem dL_law_750 : decode cL_law 750 = .ok (.aload_n 0, 1) := by decide +kernel
theorem dL_law_751 : decode cL_law 751 = .ok (.iload_n 3, 1) := by decide +kernel
theorem dL_law_752 : decode cL_law 752 = .ok (.iconst 1, 1) := by decide +kernel
theorem dL_law_753 : decode cL_law 753 = .ok (.iadd, 1) := by decide +kernel
theorem dL_law_754 : decode cL_law 754 = .ok (.iaload, 1) := by decide +kernel
theorem dL_law_755 : decode cL_law 755 = .ok (.invokevirtual 87, 3) := by decide +kernel
theorem dL_law_758 : decode cL_law 758 = .ok (.if_icmp .eq 574, 3) := by decide +kernel
theorem dL_law_761 : decode cL_law 761 = .ok (.iconst 0, 1) := by decide +kernel
theorem dL_law_762 : decode cL_law 762 = .ok (.ireturn, 1) := by decide +kernel
theorem dL_law_763 : decode cL_law 763 = .ok (.aload_n 1, 1) := by decide +kernel
theorem dL_law_764 : decode cL_law 764 = .ok (.invokevirtual 88, 3) := by decide +kernel
theorem dL_law_767 : decode cL_law 767 = .ok (.aload_n 2, 1) := by decide +kernel
theorem dL_law_768 : decode cL_law 768 = .ok (.invokevirtual 91, 3) := by decide +kernel
theorem dL_law_771 : decode cL_law 771 = .ok (.if_icmp .eq 561, 3) := by decide +kernel
theorem dL_law_774 : decode cL_law 774 = .ok (.iconst 0, 1) := by decide +kernel
theorem dL_law_775 : decode cL_law 775 = .ok (.ireturn, 1) := by decide +kernel
theorem dL_law_776 : decode cL_law 776 = .ok (.aload_n 1, 1) := by decide +kernel
theorem dL_law_777 : decode cL_law 777 = .ok (.aload_n 0, 1) := by decide +kernel
theorem dL_law_778 : decode cL_law 778 = .ok (.iload_n 3, 1) := by decide +kernel
theorem dL_law_779 : decode cL_law 779 = .ok (.iconst 1, 1) := by decide +kernel
theorem dL_law_780 : decode cL_law 780 = .ok (.iadd, 1) := by decide +kernel
theorem dL_law_781 : decode cL_law 781 = .ok (.iaload, 1) := by decide +kernel
theorem dL_law_782 : decode cL_law 782 = .ok (.invokevirtual 92, 3) := by decide +kernel
theorem dL_law_785 : decode cL_law 785 = .ok (.aload_n 2, 1) := by decide +kernel
theorem dL_law_786 : decode cL_law 786 = .ok (.aload_n 0, 1) := by decide +kernel
theorem dL_law_787 : decode cL_law 787 = .ok (.iload_n 3, 1) := by decide +kernel
theorem dL_law_788 : decode cL_law 788 = .ok (.iconst 1, 1) := by decide +kernel
theorem dL_law_789 : decode cL_law 789 = .ok (.iadd, 1) := by decide +kernel
theorem dL_law_790 : decode cL_law 790 = .ok (.iaload, 1) := by decide +kernel
theorem dL_law_791 : decode cL_law 791 = .ok (.invokevirtual 95, 3) := by decide +kernel
theorem dL_law_794 : decode cL_law 794 = .ok (.if_icmp .eq 538, 3) := by decide +kernel
theorem dL_law_797 : decode cL_law 797 = .ok (.iconst 0, 1) := by decide +kernel
theorem dL_law_798 : decode cL_law 798 = .ok (.ireturn, 1) := by decide +kernel
theorem dL_law_799 : decode cL_law 799 = .ok (.aload_n 1, 1) := by decide +kernel
theorem dL_law_800 : decode cL_law 800 = .ok (.invokevirtual 96, 3) := by decide +kernel
theorem dL_law_803 : decode cL_law 803 = .ok (.aload_n 2, 1) := by decide +kernel
theorem dL_law_804 : decode cL_law 804 = .ok (.invokevirtual 99, 3) := by decide +kernel
theorem dL_law_807 : decode cL_law 807 = .ok (.if_icmp .eq 525, 3) := by decide +kernel
theorem dL_law_810 : decode cL_law 810 = .ok (.iconst 0, 1) := by decide +kernel
theorem dL_law_811 : decode cL_law 811 = .ok (.ireturn, 1) := by decide +kernel
theorem dL_law_812 : decode cL_law 812 = .ok (.aload_n 1, 1) := by decide +kernel
theorem dL_law_813 : decode cL_law 813 = .ok (.aload_n 0, 1) := by decide +kernel
theorem dL_law_814 : decode cL_law 814 = .ok (.iload_n 3, 1) := by decide +kernel
theorem dL_law_815 : decode cL_law 815 = .ok (.iconst 1, 1) := by decide +kernel
theorem dL_law_816 : decode cL_law 816 = .ok (.iadd, 1) := by decide +kernel
theorem dL_law_817 : decode cL_law 817 = .ok (.iaload, 1) := by decide +kernel
theorem dL_law_818 : decode cL_law 818 = .ok (.invokevirtual 100, 3) := by decide +kernel
theorem dL_law_821 : decode cL_law 821 = .ok (.aload_n 2, 1) := by decide +kernel
theorem dL_law_822 : decode cL_law 822 = .ok (.aload_n 0, 1) := by decide +kernel
theorem dL_law_823 : decode cL_law 823 = .ok (.iload_n 3, 1) := by decide +kernel
theorem dL_law_824 : decode cL_law 824 = .ok (.iconst 1, 1) := by decide +kernel
theorem dL_law_825 : decode cL_law 825 = .ok (.iadd, 1) := by decide +kernel
theorem dL_law_826 : decode cL_law 826 = .ok (.iaload, 1) := by decide +kernel
theorem dL_law_827 : decode cL_law 827 = .ok (.invokevirtual 103, 3) := by decide +kernel
theorem dL_law_830 : decode cL_law 830 = .ok (.if_icmp .eq 502, 3) := by decide +kernel
theorem dL_law_833 : decode cL_law 833 = .ok (.iconst 0, 1) := by decide +kernel
theorem dL_law_834 : decode cL_law 834 = .ok (.ireturn, 1) := by decide +kernel
theorem dL_law_835 : decode cL_law 835 = .ok (.aload_n 1, 1) := by decide +kernel
theorem dL_law_836 : decode cL_law 836 = .ok (.aload_n 0, 1) := by decide +kernel
theorem dL_law_837 : decode cL_law 837 = .ok (.iload_n 3, 1) := by decide +kernel
theorem dL_law_838 : decode cL_law 838 = .ok (.iconst 1, 1) := by decide +kernel
theorem dL_law_839 : decode cL_law 839 = .ok (.iadd, 1) := by decide +kernel
theorem dL_law_840 : decode cL_law 840 = .ok (.iaload, 1) := by decide +kernel
theorem dL_law_841 : decode cL_law 841 = .ok (.invokevirtual 104, 3) := by decide +kernel
theorem dL_law_844 : decode cL_law 844 = .ok (.aload_n 2, 1) := by decide +kernel
theorem dL_law_845 : decode cL_law 845 = .ok (.aload_n 0, 1) := by decide +kernel
theorem dL_law_846 : decode cL_law 846 = .ok (.iload_n 3, 1) := by decide +kernel
theorem dL_law_847 : decode cL_law 847 = .ok (.iconst 1, 1) := by decide +kernel
theorem dL_law_848 : decode cL_law 848 = .ok (.iadd, 1) := by decide +kernel
theorem dL_law_849 : decode cL_law 849 = .ok (.iaload, 1) := by decide +kernel
theorem dL_law_850 : decode cL_law 850 = .ok (.invokevirtual 107, 3) := by decide +kernel
theorem dL_law_853 : decode cL_law 853 = .ok (.if_icmp .eq 479, 3) := by decide +kernel
theorem dL_law_856 : decode cL_law 856 = .ok (.iconst 0, 1) := by decide +kernel
theorem dL_law_857 : decode cL_law 857 = .ok (.ireturn, 1) := by decide +kernel
theorem dL_law_858 : decode cL_law 858 = .ok (.aload_n 1, 1) := by decide +kernel
theorem dL_law_859 : decode cL_law 859 = .ok (.aload_n 0, 1) := by decide +kernel
theorem dL_law_860 : decode cL_law 860 = .ok (.iload_n 3, 1) := by decide +kernel
theorem dL_law_861 : decode cL_law 861 = .ok (.iconst 1, 1) := by decide +kernel
theorem dL_law_862 : decode cL_law 862 = .ok (.iadd, 1) := by decide +kernel
theorem dL_law_863 : decode cL_law 863 = .ok (.iaload, 1) := by decide +kernel
theorem dL_law_864 : decode cL_law 864 = .ok (.invokevirtual 108, 3) := by decide +kernel
theorem dL_law_867 : decode cL_law 867 = .ok (.aload_n 2, 1) := by decide +kernel
theorem dL_law_868 : decode cL_law 868 = .ok (.aload_n 0, 1) := by decide +kernel
theorem dL_law_869 : decode cL_law 869 = .ok (.iload_n 3, 1) := by decide +kernel
theorem dL_law_870 : decode cL_law 870 = .ok (.iconst 1, 1) := by decide +kernel
theorem dL_law_871 : decode cL_law 871 = .ok (.iadd, 1) := by decide +kernel
theorem dL_law_872 : decode cL_law 872 = .ok (.iaload, 1) := by decide +kernel
theorem dL_law_873 : decode cL_law 873 = .ok (.invokevirtual 111, 3) := by decide +kernel
theorem dL_law_876 : decode cL_law 876 = .ok (.if_icmp .eq 456, 3) := by decide +kernel
theorem dL_law_879 : decode cL_law 879 = .ok (.iconst 0, 1) := by decide +kernel
theorem dL_law_880 : decode cL_law 880 = .ok (.ireturn, 1) := by decide +kernel
theorem dL_law_881 : decode cL_law 881 = .ok (.aload_n 1, 1) := by decide +kernel
theorem dL_law_882 : decode cL_law 882 = .ok (.aload_n 0, 1) := by decide +kernel
theorem dL_law_883 : decode cL_law 883 = .ok (.iload_n 3, 1) := by decide +kernel
theorem dL_law_884 : decode cL_law 884 = .ok (.iconst 1, 1) := by decide +kernel
theorem dL_law_885 : decode cL_law 885 = .ok (.iadd, 1) := by decide +kernel
theorem dL_law_886 : decode cL_law 886 = .ok (.iaload, 1) := by decide +kernel
theorem dL_law_887 : decode cL_law 887 = .ok (.aload_n 0, 1) := by decide +kernel
theorem dL_law_888 : decode cL_law 888 = .ok (.iload_n 3, 1) := by decide +kernel
theorem dL_law_889 : decode cL_law 889 = .ok (.iconst 2, 1) := by decide +kernel
theorem dL_law_890 : decode cL_law 890 = .ok (.iadd, 1) := by decide +kernel
theorem dL_law_891 : decode cL_law 891 = .ok (.iaload, 1) := by decide +kernel
theorem dL_law_892 : decode cL_law 892 = .ok (.aload_n 0, 1) := by decide +kernel
theorem dL_law_893 : decode cL_law 893 = .ok (.iload_n 3, 1) := by decide +kernel
theorem dL_law_894 : decode cL_law 894 = .ok (.iconst 3, 1) := by decide +kernel
theorem dL_law_895 : decode cL_law 895 = .ok (.iadd, 1) := by decide +kernel
theorem dL_law_896 : decode cL_law 896 = .ok (.iaload, 1) := by decide +kernel
theorem dL_law_897 : decode cL_law 897 = .ok (.invokevirtual 112, 3) := by decide +kernel
theorem dL_law_900 : decode cL_law 900 = .ok (.aload_n 2, 1) := by decide +kernel
theorem dL_law_901 : decode cL_law 901 = .ok (.aload_n 0, 1) := by decide +kernel
theorem dL_law_902 : decode cL_law 902 = .ok (.iload_n 3, 1) := by decide +kernel
theorem dL_law_903 : decode cL_law 903 = .ok (.iconst 1, 1) := by decide +kernel
theorem dL_law_904 : decode cL_law 904 = .ok (.iadd, 1) := by decide +kernel
theorem dL_law_905 : decode cL_law 905 = .ok (.iaload, 1) := by decide +kernel
theorem dL_law_906 : decode cL_law 906 = .ok (.aload_n 0, 1) := by decide +kernel
theorem dL_law_907 : decode cL_law 907 = .ok (.iload_n 3, 1) := by decide +kernel
theorem dL_law_908 : decode cL_law 908 = .ok (.iconst 2, 1) := by decide +kernel
theorem dL_law_909 : decode cL_law 909 = .ok (.iadd, 1) := by decide +kernel
theorem dL_law_910 : decode cL_law 910 = .ok (.iaload, 1) := by decide +kernel
theorem dL_law_911 : decode cL_law 911 = .ok (.aload_n 0, 1) := by decide +kernel
theorem dL_law_912 : decode cL_law 912 = .ok (.iload_n 3, 1) := by decide +kernel
theorem dL_law_913 : decode cL_law 913 = .ok (.iconst 3, 1) := by decide +kernel
theorem dL_law_914 : decode cL_law 914 = .ok (.iadd, 1) := by decide +kernel
theorem dL_law_915 : decode cL_law 915 = .ok (.iaload, 1) := by decide +kernel
theorem dL_law_916 : decode cL_law 916 = .ok (.invokevirtual 115, 3) := by decide +kernel
theorem dL_law_919 : decode cL_law 919 = .ok (.if_icmp .eq 413, 3) := by decide +kernel
theorem dL_law_922 : decode cL_law 922 = .ok (.iconst 0, 1) := by decide +kernel
theorem dL_law_923 : decode cL_law 923 = .ok (.ireturn, 1) := by decide +kernel
theorem dL_law_924 : decode cL_law 924 = .ok (.aload_n 1, 1) := by decide +kernel
theorem dL_law_925 : decode cL_law 925 = .ok (.aload_n 0, 1) := by decide +kernel
theorem dL_law_926 : decode cL_law 926 = .ok (.iload_n 3, 1) := by decide +kernel
theorem dL_law_927 : decode cL_law 927 = .ok (.iconst 1, 1) := by decide +kernel
theorem dL_law_928 : decode cL_law 928 = .ok (.iadd, 1) := by decide +kernel
theorem dL_law_929 : decode cL_law 929 = .ok (.iaload, 1) := by decide +kernel
theorem dL_law_930 : decode cL_law 930 = .ok (.aload_n 0, 1) := by decide +kernel
theorem dL_law_931 : decode cL_law 931 = .ok (.iload_n 3, 1) := by decide +kernel
theorem dL_law_932 : decode cL_law 932 = .ok (.iconst 2, 1) := by decide +kernel
theorem dL_law_933 : decode cL_law 933 = .ok (.iadd, 1) := by decide +kernel
theorem dL_law_934 : decode cL_law 934 = .ok (.iaload, 1) := by decide +kernel
theorem dL_law_935 : decode cL_law 935 = .ok (.aload_n 0, 1) := by decide +kernel
theorem dL_law_936 : decode cL_law 936 = .ok (.iload_n 3, 1) := by decide +kernel
theorem dL_law_937 : decode cL_law 937 = .ok (.iconst 3, 1) := by decide +kernel
theorem dL_law_938 : decode cL_law 938 = .ok (.iadd, 1) := by decide +kernel
theorem dL_law_939 : decode cL_law 939 = .ok (.iaload, 1) := by decide +kernel
theorem dL_law_940 : decode cL_law 940 = .ok (.aload_n 0, 1) := by decide +kernel
theorem dL_law_941 : decode cL_law 941 = .ok (.iload_n 3, 1) := by decide +kernel
theorem dL_law_942 : decode cL_law 942 = .ok (.iconst 4, 1) := by decide +kernel
theorem dL_law_943 : decode cL_law 943 = .ok (.iadd, 1) := by decide +kernel
theorem dL_law_944 : decode cL_law 944 = .ok (.iaload, 1) := by decide +kernel
theorem dL_law_945 : decode cL_law 945 = .ok (.aload_n 0, 1) := by decide +kernel
theorem dL_law_946 : decode cL_law 946 = .ok (.iload_n 3, 1) := by decide +kernel
theorem dL_law_947 : decode cL_law 947 = .ok (.iconst 5, 1) := by decide +kernel
theorem dL_law_948 : decode cL_law 948 = .ok (.iadd, 1) := by decide +kernel
theorem dL_law_949 : decode cL_law 949 = .ok (.iaload, 1) := by decide +kernel
theorem dL_law_950 : decode cL_law 950 = .ok (.invokevirtual 116, 3) := by decide +kernel
theorem dL_law_953 : decode cL_law 953 = .ok (.aload_n 2, 1) := by decide +kernel
theorem dL_law_954 : decode cL_law 954 = .ok (.aload_n 0, 1) := by decide +kernel
theorem dL_law_955 : decode cL_law 955 = .ok (.iload_n 3, 1) := by decide +kernel
theorem dL_law_956 : decode cL_law 956 = .ok (.iconst 1, 1) := by decide +kernel
theorem dL_law_957 : decode cL_law 957 = .ok (.iadd, 1) := by decide +kernel
theorem dL_law_958 : decode cL_law 958 = .ok (.iaload, 1) := by decide +kernel
theorem dL_law_959 : decode cL_law 959 = .ok (.aload_n 0, 1) := by decide +kernel
theorem dL_law_960 : decode cL_law 960 = .ok (.iload_n 3, 1) := by decide +kernel
theorem dL_law_961 : decode cL_law 961 = .ok (.iconst 2, 1) := by decide +kernel
theorem dL_law_962 : decode cL_law 962 = .ok (.iadd, 1) := by decide +kernel
theorem dL_law_963 : decode cL_law 963 = .ok (.iaload, 1) := by decide +kernel
theorem dL_law_964 : decode cL_law 964 = .ok (.aload_n 0, 1) := by decide +kernel
theorem dL_law_965 : decode cL_law 965 = .ok (.iload_n 3, 1) := by decide +kernel
theorem dL_law_966 : decode cL_law 966 = .ok (.iconst 3, 1) := by decide +kernel
theorem dL_law_967 : decode cL_law 967 = .ok (.iadd, 1) := by decide +kernel
theorem dL_law_968 : decode cL_law 968 = .ok (.iaload, 1) := by decide +kernel
theorem dL_law_969 : decode cL_law 969 = .ok (.aload_n 0, 1) := by decide +kernel
theorem dL_law_970 : decode cL_law 970 = .ok (.iload_n 3, 1) := by decide +kernel
theorem dL_law_971 : decode cL_law 971 = .ok (.iconst 4, 1) := by decide +kernel
theorem dL_law_972 : decode cL_law 972 = .ok (.iadd, 1) := by decide +kernel
theorem dL_law_973 : decode cL_law 973 = .ok (.iaload, 1) := by decide +kernel
theorem dL_law_974 : decode cL_law 974 = .ok (.aload_n 0, 1) := by decide +kernel
theorem dL_law_975 : decode cL_law 975 = .ok (.iload_n 3, 1) := by decide +kernel
theorem dL_law_976 : decode cL_law 976 = .ok (.iconst 5, 1) := by decide +kernel
theorem dL_law_977 : decode cL_law 977 = .ok (.iadd, 1) := by decide +kernel
theorem dL_law_978 : decode cL_law 978 = .ok (.iaload, 1) := by decide +kernel
theorem dL_law_979 : decode cL_law 979 = .ok (.invokevirtual 119, 3) := by decide +kernel
theorem dL_law_982 : decode cL_law 982 = .ok (.if_icmp .eq 350, 3) := by decide +kernel
theorem dL_law_985 : decode cL_law 985 = .ok (.iconst 0, 1) := by decide +kernel
theorem dL_law_986 : decode cL_law 986 = .ok (.ireturn, 1) := by decide +kernel
theorem dL_law_987 : decode cL_law 987 = .ok (.aload_n 1, 1) := by decide +kernel
theorem dL_law_988 : decode cL_law 988 = .ok (.aload_n 0, 1) := by decide +kernel
theorem dL_law_989 : decode cL_law 989 = .ok (.iload_n 3, 1) := by decide +kernel
theorem dL_law_990 : decode cL_law 990 = .ok (.iconst 1, 1) := by decide +kernel
theorem dL_law_991 : decode cL_law 991 = .ok (.iadd, 1) := by decide +kernel
theorem dL_law_992 : decode cL_law 992 = .ok (.iaload, 1) := by decide +kernel
theorem dL_law_993 : decode cL_law 993 = .ok (.aload_n 0, 1) := by decide +kernel
theorem dL_law_994 : decode cL_law 994 = .ok (.iload_n 3, 1) := by decide +kernel
theorem dL_law_995 : decode cL_law 995 = .ok (.iconst 2, 1) := by decide +kernel
theorem dL_law_996 : decode cL_law 996 = .ok (.iadd, 1) := by decide +kernel
theorem dL_law_997 : decode cL_law 997 = .ok (.iaload, 1) := by decide +kernel
theorem dL_law_998 : decode cL_law 998 = .ok (.aload_n 0, 1) := by decide +kernel
theorem dL_law_999 : decode cL_law 999 = .ok (.iload_n 3, 1) := by decide +kernel
theorem dL_law_1000 : decode cL_law 1000 = .ok (.iconst 3, 1) := by decide +kernel
theorem dL_law_1001 : decode cL_law 1001 = .ok (.iadd, 1) := by decide +kernel
theorem dL_law_1002 : decode cL_law 1002 = .ok (.iaload, 1) := by decide +kernel
theorem dL_law_1003 : decode cL_law 1003 = .ok (.invokevirtual 120, 3) := by decide +kernel
theorem dL_law_1006 : decode cL_law 1006 = .ok (.aload_n 2, 1) := by decide +kernel
theorem dL_law_1007 : decode cL_law 1007 = .ok (.aload_n 0, 1) := by decide +kernel
theorem dL_law_1008 : decode cL_law 1008 = .ok (.iload_n 3, 1) := by decide +kernel
theorem dL_law_1009 : decode cL_law 1009 = .ok (.iconst 1, 1) := by decide +kernel
theorem dL_law_1010 : decode cL_law 1010 = .ok (.iadd, 1) := by decide +kernel
theorem dL_law_1011 : decode cL_law 1011 = .ok (.iaload, 1) := by decide +kernel
theorem dL_law_1012 : decode cL_law 1012 = .ok (.aload_n 0, 1) := by decide +kernel
theorem dL_law_1013 : decode cL_law 1013 = .ok (.iload_n 3, 1) := by decide +kernel
theorem dL_law_1014 : decode cL_law 1014 = .ok (.iconst 2, 1) := by decide +kernel
theorem dL_law_1015 : decode cL_law 1015 = .ok (.iadd, 1) := by decide +kernel
theorem dL_law_1016 : decode cL_law 1016 = .ok (.iaload, 1) := by decide +kernel
theorem dL_law_1017 : decode cL_law 1017 = .ok (.aload_n 0, 1) := by decide +kernel
theorem dL_law_1018 : decode cL_law 1018 = .ok (.iload_n 3, 1) := by decide +kernel
theorem dL_law_1019 : decode cL_law 1019 = .ok (.iconst 3, 1) := by decide +kernel
theorem dL_law_1020 : decode cL_law 1020 = .ok (.iadd, 1) := by decide +kernel
theorem dL_law_1021 : decode cL_law 1021 = .ok (.iaload, 1) := by decide +kernel
theorem dL_law_1022 : decode cL_law 1022 = .ok (.invokevirtual 123, 3) := by decide +kernel
theorem dL_law_1025 : decode cL_law 1025 = .ok (.if_icmp .eq 307, 3) := by decide +kernel
theorem dL_law_1028 : decode cL_law 1028 = .ok (.iconst 0, 1) := by decide +kernel
theorem dL_law_1029 : decode cL_law 1029 = .ok (.ireturn, 1) := by decide +kernel
theorem dL_law_1030 : decode cL_law 1030 = .ok (.aload_n 1, 1) := by decide +kernel
theorem dL_law_1031 : decode cL_law 1031 = .ok (.aload_n 0, 1) := by decide +kernel
theorem dL_law_1032 : decode cL_law 1032 = .ok (.iload_n 3, 1) := by decide +kernel
theorem dL_law_1033 : decode cL_law 1033 = .ok (.iconst 1, 1) := by decide +kernel
theorem dL_law_1034 : decode cL_law 1034 = .ok (.iadd, 1) := by decide +kernel
theorem dL_law_1035 : decode cL_law 1035 = .ok (.iaload, 1) := by decide +kernel
theorem dL_law_1036 : decode cL_law 1036 = .ok (.aload_n 0, 1) := by decide +kernel
theorem dL_law_1037 : decode cL_law 1037 = .ok (.iload_n 3, 1) := by decide +kernel
theorem dL_law_1038 : decode cL_law 1038 = .ok (.iconst 2, 1) := by decide +kernel
theorem dL_law_1039 : decode cL_law 1039 = .ok (.iadd, 1) := by decide +kernel
theorem dL_law_1040 : decode cL_law 1040 = .ok (.iaload, 1) := by decide +kernel
theorem dL_law_1041 : decode cL_law 1041 = .ok (.aload_n 0, 1) := by decide +kernel
theorem dL_law_1042 : decode cL_law 1042 = .ok (.iload_n 3, 1) := by decide +kernel
theorem dL_law_1043 : decode cL_law 1043 = .ok (.iconst 3, 1) := by decide +kernel
theorem dL_law_1044 : decode cL_law 1044 = .ok (.iadd, 1) := by decide +kernel
theorem dL_law_1045 : decode cL_law 1045 = .ok (.iaload, 1) := by decide +kernel
theorem dL_law_1046 : decode cL_law 1046 = .ok (.invokevirtual 124, 3) := by decide +kernel
theorem dL_law_1049 : decode cL_law 1049 = .ok (.aload_n 2, 1) := by decide +kernel
theorem dL_law_1050 : decode cL_law 1050 = .ok (.aload_n 0, 1) := by decide +kernel
theorem dL_law_1051 : decode cL_law 1051 = .ok (.iload_n 3, 1) := by decide +kernel
theorem dL_law_1052 : decode cL_law 1052 = .ok (.iconst 1, 1) := by decide +kernel
theorem dL_law_1053 : decode cL_law 1053 = .ok (.iadd, 1) := by decide +kernel
theorem dL_law_1054 : decode cL_law 1054 = .ok (.iaload, 1) := by decide +kernel
theorem dL_law_1055 : decode cL_law 1055 = .ok (.aload_n 0, 1) := by decide +kernel
theorem dL_law_1056 : decode cL_law 1056 = .ok (.iload_n 3, 1) := by decide +kernel
theorem dL_law_1057 : decode cL_law 1057 = .ok (.iconst 2, 1) := by decide +kernel
theorem dL_law_1058 : decode cL_law 1058 = .ok (.iadd, 1) := by decide +kernel
theorem dL_law_1059 : decode cL_law 1059 = .ok (.iaload, 1) := by decide +kernel
theorem dL_law_1060 : decode cL_law 1060 = .ok (.aload_n 0, 1) := by decide +kernel
theorem dL_law_1061 : decode cL_law 1061 = .ok (.iload_n 3, 1) := by decide +kernel
theorem dL_law_1062 : decode cL_law 1062 = .ok (.iconst 3, 1) := by decide +kernel
theorem dL_law_1063 : decode cL_law 1063 = .ok (.iadd, 1) := by decide +kernel
theorem dL_law_1064 : decode cL_law 1064 = .ok (.iaload, 1) := by decide +kernel
theorem dL_law_1065 : decode cL_law 1065 = .ok (.invokevirtual 127, 3) := by decide +kernel
theorem dL_law_1068 : decode cL_law 1068 = .ok (.if_icmp .eq 264, 3) := by decide +kernel
theorem dL_law_1071 : decode cL_law 1071 = .ok (.iconst 0, 1) := by decide +kernel
theorem dL_law_1072 : decode cL_law 1072 = .ok (.ireturn, 1) := by decide +kernel
theorem dL_law_1073 : decode cL_law 1073 = .ok (.aload_n 1, 1) := by decide +kernel
theorem dL_law_1074 : decode cL_law 1074 = .ok (.aload_n 0, 1) := by decide +kernel
theorem dL_law_1075 : decode cL_law 1075 = .ok (.iload_n 3, 1) := by decide +kernel
theorem dL_law_1076 : decode cL_law 1076 = .ok (.iconst 1, 1) := by decide +kernel
theorem dL_law_1077 : decode cL_law 1077 = .ok (.iadd, 1) := by decide +kernel
theorem dL_law_1078 : decode cL_law 1078 = .ok (.iaload, 1) := by decide +kernel
theorem dL_law_1079 : decode cL_law 1079 = .ok (.invokevirtual 128, 3) := by decide +kernel
theorem dL_law_1082 : decode cL_law 1082 = .ok (.aload_n 2, 1) := by decide +kernel
theorem dL_law_1083 : decode cL_law 1083 = .ok (.aload_n 0, 1) := by decide +kernel
theorem dL_law_1084 : decode cL_law 1084 = .ok (.iload_n 3, 1) := by decide +kernel
theorem dL_law_1085 : decode cL_law 1085 = .ok (.iconst 1, 1) := by decide +kernel
theorem dL_law_1086 : decode cL_law 1086 = .ok (.iadd, 1) := by decide +kernel
theorem dL_law_1087 : decode cL_law 1087 = .ok (.iaload, 1) := by decide +kernel
theorem dL_law_1088 : decode cL_law 1088 = .ok (.invokevirtual 131, 3) := by decide +kernel
theorem dL_law_1091 : decode cL_law 1091 = .ok (.if_icmp .eq 241, 3) := by decide +kernel
theorem dL_law_1094 : decode cL_law 1094 = .ok (.iconst 0, 1) := by decide +kernel
theorem dL_law_1095 : decode cL_law 1095 = .ok (.ireturn, 1) := by decide +kernel
theorem dL_law_1096 : decode cL_law 1096 = .ok (.aload_n 1, 1) := by decide +kernel
theorem dL_law_1097 : decode cL_law 1097 = .ok (.aload_n 0, 1) := by decide +kernel
theorem dL_law_1098 : decode cL_law 1098 = .ok (.iload_n 3, 1) := by decide +kernel
theorem dL_law_1099 : decode cL_law 1099 = .ok (.iconst 1, 1) := by decide +kernel
theorem dL_law_1100 : decode cL_law 1100 = .ok (.iadd, 1) := by decide +kernel
theorem dL_law_1101 : decode cL_law 1101 = .ok (.iaload, 1) := by decide +kernel
theorem dL_law_1102 : decode cL_law 1102 = .ok (.invokevirtual 132, 3) := by decide +kernel
theorem dL_law_1105 : decode cL_law 1105 = .ok (.aload_n 2, 1) := by decide +kernel
theorem dL_law_1106 : decode cL_law 1106 = .ok (.aload_n 0, 1) := by decide +kernel
theorem dL_law_1107 : decode cL_law 1107 = .ok (.iload_n 3, 1) := by decide +kernel
theorem dL_law_1108 : decode cL_law 1108 = .ok (.iconst 1, 1) := by decide +kernel
theorem dL_law_1109 : decode cL_law 1109 = .ok (.iadd, 1) := by decide +kernel
theorem dL_law_1110 : decode cL_law 1110 = .ok (.iaload, 1) := by decide +kernel
theorem dL_law_1111 : decode cL_law 1111 = .ok (.invokevirtual 135, 3) := by decide +kernel
theorem dL_law_1114 : decode cL_law 1114 = .ok (.if_icmp .eq 218, 3) := by decide +kernel
theorem dL_law_1117 : decode cL_law 1117 = .ok (.iconst 0, 1) := by decide +kernel
theorem dL_law_1118 : decode cL_law 1118 = .ok (.ireturn, 1) := by decide +kernel
theorem dL_law_1119 : decode cL_law 1119 = .ok (.aload_n 1, 1) := by decide +kernel
theorem dL_law_1120 : decode cL_law 1120 = .ok (.aload_n 0, 1) := by decide +kernel
theorem dL_law_1121 : decode cL_law 1121 = .ok (.iload_n 3, 1) := by decide +kernel
theorem dL_law_1122 : decode cL_law 1122 = .ok (.iconst 1, 1) := by decide +kernel
theorem dL_law_1123 : decode cL_law 1123 = .ok (.iadd, 1) := by decide +kernel
theorem dL_law_1124 : decode cL_law 1124 = .ok (.iaload, 1) := by decide +kernel
theorem dL_law_1125 : decode cL_law 1125 = .ok (.invokevirtual 136, 3) := by decide +kernel
theorem dL_law_1128 : decode cL_law 1128 = .ok (.aload_n 2, 1) := by decide +kernel
theorem dL_law_1129 : decode cL_law 1129 = .ok (.aload_n 0, 1) := by decide +kernel
theorem dL_law_1130 : decode cL_law 1130 = .ok (.iload_n 3, 1) := by decide +kernel
theorem dL_law_1131 : decode cL_law 1131 = .ok (.iconst 1, 1) := by decide +kernel
theorem dL_law_1132 : decode cL_law 1132 = .ok (.iadd, 1) := by decide +kernel
theorem dL_law_1133 : decode cL_law 1133 = .ok (.iaload, 1) := by decide +kernel
theorem dL_law_1134 : decode cL_law 1134 = .ok (.invokevirtual 139, 3) := by decide +kernel
theorem dL_law_1137 : decode cL_law 1137 = .ok (.if_icmp .eq 195, 3) := by decide +kernel
theorem dL_law_1140 : decode cL_law 1140 = .ok (.iconst 0, 1) := by decide +kernel
theorem dL_law_1141 : decode cL_law 1141 = .ok (.ireturn, 1) := by decide +kernel
theorem dL_law_1142 : decode cL_law 1142 = .ok (.aload_n 1, 1) := by decide +kernel
theorem dL_law_1143 : decode cL_law 1143 = .ok (.aload_n 0, 1) := by decide +kernel
theorem dL_law_1144 : decode cL_law 1144 = .ok (.iload_n 3, 1) := by decide +kernel
theorem dL_law_1145 : decode cL_law 1145 = .ok (.iconst 1, 1) := by decide +kernel
theorem dL_law_1146 : decode cL_law 1146 = .ok (.iadd, 1) := by decide +kernel
theorem dL_law_1147 : decode cL_law 1147 = .ok (.iaload, 1) := by decide +kernel
theorem dL_law_1148 : decode cL_law 1148 = .ok (.aload_n 0, 1) := by decide +kernel
theorem dL_law_1149 : decode cL_law 1149 = .ok (.iload_n 3, 1) := by decide +kernel
theorem dL_law_1150 : decode cL_law 1150 = .ok (.iconst 2, 1) := by decide +kernel
theorem dL_law_1151 : decode cL_law 1151 = .ok (.iadd, 1) := by decide +kernel
theorem dL_law_1152 : decode cL_law 1152 = .ok (.iaload, 1) := by decide +kernel
theorem dL_law_1153 : decode cL_law 1153 = .ok (.invokevirtual 140, 3) := by decide +kernel
theorem dL_law_1156 : decode cL_law 1156 = .ok (.aload_n 2, 1) := by decide +kernel
theorem dL_law_1157 : decode cL_law 1157 = .ok (.aload_n 0, 1) := by decide +kernel
theorem dL_law_1158 : decode cL_law 1158 = .ok (.iload_n 3, 1) := by decide +kernel
theorem dL_law_1159 : decode cL_law 1159 = .ok (.iconst 1, 1) := by decide +kernel
theorem dL_law_1160 : decode cL_law 1160 = .ok (.iadd, 1) := by decide +kernel
theorem dL_law_1161 : decode cL_law 1161 = .ok (.iaload, 1) := by decide +kernel
theorem dL_law_1162 : decode cL_law 1162 = .ok (.aload_n 0, 1) := by decide +kernel
theorem dL_law_1163 : decode cL_law 1163 = .ok (.iload_n 3, 1) := by decide +kernel
theorem dL_law_1164 : decode cL_law 1164 = .ok (.iconst 2, 1) := by decide +kernel
theorem dL_law_1165 : decode cL_law 1165 = .ok (.iadd, 1) := by decide +kernel
theorem dL_law_1166 : decode cL_law 1166 = .ok (.iaload, 1) := by decide +kernel
theorem dL_law_1167 : decode cL_law 1167 = .ok (.invokevirtual 143, 3) := by decide +kernel
theorem dL_law_1170 : decode cL_law 1170 = .ok (.if_icmp .eq 162, 3) := by decide +kernel
theorem dL_law_1173 : decode cL_law 1173 = .ok (.iconst 0, 1) := by decide +kernel
theorem dL_law_1174 : decode cL_law 1174 = .ok (.ireturn, 1) := by decide +kernel
theorem dL_law_1175 : decode cL_law 1175 = .ok (.aload_n 1, 1) := by decide +kernel
theorem dL_law_1176 : decode cL_law 1176 = .ok (.aload_n 0, 1) := by decide +kernel
theorem dL_law_1177 : decode cL_law 1177 = .ok (.iload_n 3, 1) := by decide +kernel
theorem dL_law_1178 : decode cL_law 1178 = .ok (.iconst 1, 1) := by decide +kernel
theorem dL_law_1179 : decode cL_law 1179 = .ok (.iadd, 1) := by decide +kernel
theorem dL_law_1180 : decode cL_law 1180 = .ok (.iaload, 1) := by decide +kernel
theorem dL_law_1181 : decode cL_law 1181 = .ok (.aload_n 0, 1) := by decide +kernel
theorem dL_law_1182 : decode cL_law 1182 = .ok (.iload_n 3, 1) := by decide +kernel
theorem dL_law_1183 : decode cL_law 1183 = .ok (.iconst 2, 1) := by decide +kernel
theorem dL_law_1184 : decode cL_law 1184 = .ok (.iadd, 1) := by decide +kernel
theorem dL_law_1185 : decode cL_law 1185 = .ok (.iaload, 1) := by decide +kernel
theorem dL_law_1186 : decode cL_law 1186 = .ok (.invokevirtual 144, 3) := by decide +kernel
theorem dL_law_1189 : decode cL_law 1189 = .ok (.aload_n 2, 1) := by decide +kernel
theorem dL_law_1190 : decode cL_law 1190 = .ok (.aload_n 0, 1) := by decide +kernel
theorem dL_law_1191 : decode cL_law 1191 = .ok (.iload_n 3, 1) := by decide +kernel
theorem dL_law_1192 : decode cL_law 1192 = .ok (.iconst 1, 1) := by decide +kernel
theorem dL_law_1193 : decode cL_law 1193 = .ok (.iadd, 1) := by decide +kernel
theorem dL_law_1194 : decode cL_law 1194 = .ok (.iaload, 1) := by decide +kernel
theorem dL_law_1195 : decode cL_law 1195 = .ok (.aload_n 0, 1) := by decide +kernel
theorem dL_law_1196 : decode cL_law 1196 = .ok (.iload_n 3, 1) := by decide +kernel
theorem dL_law_1197 : decode cL_law 1197 = .ok (.iconst 2, 1) := by decide +kernel
theorem dL_law_1198 : decode cL_law 1198 = .ok (.iadd, 1) := by decide +kernel
theorem dL_law_1199 : decode cL_law 1199 = .ok (.iaload, 1) := by decide +kernel
theorem dL_law_1200 : decode cL_law 1200 = .ok (.invokevirtual 147, 3) := by decide +kernel
theorem dL_law_1203 : decode cL_law 1203 = .ok (.if_icmp .eq 129, 3) := by decide +kernel
theorem dL_law_1206 : decode cL_law 1206 = .ok (.iconst 0, 1) := by decide +kernel
theorem dL_law_1207 : decode cL_law 1207 = .ok (.ireturn, 1) := by decide +kernel
theorem dL_law_1208 : decode cL_law 1208 = .ok (.aload_n 1, 1) := by decide +kernel
theorem dL_law_1209 : decode cL_law 1209 = .ok (.aload_n 0, 1) := by decide +kernel
theorem dL_law_1210 : decode cL_law 1210 = .ok (.iload_n 3, 1) := by decide +kernel
theorem dL_law_1211 : decode cL_law 1211 = .ok (.iconst 1, 1) := by decide +kernel
theorem dL_law_1212 : decode cL_law 1212 = .ok (.iadd, 1) := by decide +kernel
theorem dL_law_1213 : decode cL_law 1213 = .ok (.iaload, 1) := by decide +kernel
theorem dL_law_1214 : decode cL_law 1214 = .ok (.aload_n 0, 1) := by decide +kernel
theorem dL_law_1215 : decode cL_law 1215 = .ok (.iload_n 3, 1) := by decide +kernel
theorem dL_law_1216 : decode cL_law 1216 = .ok (.iconst 2, 1) := by decide +kernel
theorem dL_law_1217 : decode cL_law 1217 = .ok (.iadd, 1) := by decide +kernel
theorem dL_law_1218 : decode cL_law 1218 = .ok (.iaload, 1) := by decide +kernel
theorem dL_law_1219 : decode cL_law 1219 = .ok (.aload_n 0, 1) := by decide +kernel
theorem dL_law_1220 : decode cL_law 1220 = .ok (.iload_n 3, 1) := by decide +kernel
theorem dL_law_1221 : decode cL_law 1221 = .ok (.iconst 3, 1) := by decide +kernel
theorem dL_law_1222 : decode cL_law 1222 = .ok (.iadd, 1) := by decide +kernel
theorem dL_law_1223 : decode cL_law 1223 = .ok (.iaload, 1) := by decide +kernel
theorem dL_law_1224 : decode cL_law 1224 = .ok (.aload_n 0, 1) := by decide +kernel
theorem dL_law_1225 : decode cL_law 1225 = .ok (.iload_n 3, 1) := by decide +kernel
theorem dL_law_1226 : decode cL_law 1226 = .ok (.iconst 4, 1) := by decide +kernel
theorem dL_law_1227 : decode cL_law 1227 = .ok (.iadd, 1) := by decide +kernel
theorem dL_law_1228 : decode cL_law 1228 = .ok (.iaload, 1) := by decide +kernel
theorem dL_law_1229 : decode cL_law 1229 = .ok (.aload_n 0, 1) := by decide +kernel
theorem dL_law_1230 : decode cL_law 1230 = .ok (.iload_n 3, 1) := by decide +kernel
theorem dL_law_1231 : decode cL_law 1231 = .ok (.iconst 5, 1) := by decide +kernel
theorem dL_law_1232 : decode cL_law 1232 = .ok (.iadd, 1) := by decide +kernel
theorem dL_law_1233 : decode cL_law 1233 = .ok (.iaload, 1) := by decide +kernel
theorem dL_law_1234 : decode cL_law 1234 = .ok (.aload_n 0, 1) := by decide +kernel
theorem dL_law_1235 : decode cL_law 1235 = .ok (.iload_n 3, 1) := by decide +kernel
theorem dL_law_1236 : decode cL_law 1236 = .ok (.bipush 6, 2) := by decide +kernel
theorem dL_law_1238 : decode cL_law 1238 = .ok (.iadd, 1) := by decide +kernel
theorem dL_law_1239 : decode cL_law 1239 = .ok (.iaload, 1) := by decide +kernel
theorem dL_law_1240 : decode cL_law 1240 = .ok (.invokevirtual 148, 3) := by decide +kernel
theorem dL_law_1243 : decode cL_law 1243 = .ok (.aload_n 2, 1) := by decide +kernel
theorem dL_law_1244 : decode cL_law 1244 = .ok (.aload_n 0, 1) := by decide +kernel
theorem dL_law_1245 : decode cL_law 1245 = .ok (.iload_n 3, 1) := by decide +kernel
theorem dL_law_1246 : decode cL_law 1246 = .ok (.iconst 1, 1) := by decide +kernel
theorem dL_law_1247 : decode cL_law 1247 = .ok (.iadd, 1) := by decide +kernel
theorem dL_law_1248 : decode cL_law 1248 = .ok (.iaload, 1) := by decide +kernel
theorem dL_law_1249 : decode cL_law 1249 = .ok (.aload_n 0, 1) := by decide +kernel
theorem dL_law_1250 : decode cL_law 1250 = .ok (.iload_n 3, 1) := by decide +kernel
theorem dL_law_1251 : decode cL_law 1251 = .ok (.iconst 2, 1) := by decide +kernel
theorem dL_law_1252 : decode cL_law 1252 = .ok (.iadd, 1) := by decide +kernel
theorem dL_law_1253 : decode cL_law 1253 = .ok (.iaload, 1) := by decide +kernel
theorem dL_law_1254 : decode cL_law 1254 = .ok (.aload_n 0, 1) := by decide +kernel
theorem dL_law_1255 : decode cL_law 1255 = .ok (.iload_n 3, 1) := by decide +kernel
theorem dL_law_1256 : decode cL_law 1256 = .ok (.iconst 3, 1) := by decide +kernel
theorem dL_law_1257 : decode cL_law 1257 = .ok (.iadd, 1) := by decide +kernel
theorem dL_law_1258 : decode cL_law 1258 = .ok (.iaload, 1) := by decide +kernel
theorem dL_law_1259 : decode cL_law 1259 = .ok (.aload_n 0, 1) := by decide +kernel
theorem dL_law_1260 : decode cL_law 1260 = .ok (.iload_n 3, 1) := by decide +kernel
theorem dL_law_1261 : decode cL_law 1261 = .ok (.iconst 4, 1) := by decide +kernel
theorem dL_law_1262 : decode cL_law 1262 = .ok (.iadd, 1) := by decide +kernel
theorem dL_law_1263 : decode cL_law 1263 = .ok (.iaload, 1) := by decide +kernel
theorem dL_law_1264 : decode cL_law 1264 = .ok (.aload_n 0, 1) := by decide +kernel
theorem dL_law_1265 : decode cL_law 1265 = .ok (.iload_n 3, 1) := by decide +kernel
theorem dL_law_1266 : decode cL_law 1266 = .ok (.iconst 5, 1) := by decide +kernel
theorem dL_law_1267 : decode cL_law 1267 = .ok (.iadd, 1) := by decide +kernel
theorem dL_law_1268 : decode cL_law 1268 = .ok (.iaload, 1) := by decide +kernel
theorem dL_law_1269 : decode cL_law 1269 = .ok (.aload_n 0, 1) := by decide +kernel
theorem dL_law_1270 : decode cL_law 1270 = .ok (.iload_n 3, 1) := by decide +kernel
theorem dL_law_1271 : decode cL_law 1271 = .ok (.bipush 6, 2) := by decide +kernel
theorem dL_law_1273 : decode cL_law 1273 = .ok (.iadd, 1) := by decide +kernel
theorem dL_law_1274 : decode cL_law 1274 = .ok (.iaload, 1) := by decide +kernel
theorem dL_law_1275 : decode cL_law 1275 = .ok (.invokevirtual 152, 3) := by decide +kernel
theorem dL_law_1278 : decode cL_law 1278 = .ok (.if_icmp .eq 54, 3) := by decide +kernel
theorem dL_law_1281 : decode cL_law 1281 = .ok (.iconst 0, 1) := by decide +kernel
theorem dL_law_1282 : decode cL_law 1282 = .ok (.ireturn, 1) := by decide +kernel
theorem dL_law_1283 : decode cL_law 1283 = .ok (.aload_n 1, 1) := by decide +kernel
theorem dL_law_1284 : decode cL_law 1284 = .ok (.invokevirtual 153, 3) := by decide +kernel
theorem dL_law_1287 : decode cL_law 1287 = .ok (.aload_n 2, 1) := by decide +kernel
theorem dL_law_1288 : decode cL_law 1288 = .ok (.invokevirtual 156, 3) := by decide +kernel
theorem dL_law_1291 : decode cL_law 1291 = .ok (.if_icmp .eq 41, 3) := by decide +kernel
theorem dL_law_1294 : decode cL_law 1294 = .ok (.iconst 0, 1) := by decide +kernel
theorem dL_law_1295 : decode cL_law 1295 = .ok (.ireturn, 1) := by decide +kernel
theorem dL_law_1296 : decode cL_law 1296 = .ok (.aload_n 1, 1) := by decide +kernel
theorem dL_law_1297 : decode cL_law 1297 = .ok (.invokevirtual 157, 3) := by decide +kernel
theorem dL_law_1300 : decode cL_law 1300 = .ok (.aload_n 2, 1) := by decide +kernel
theorem dL_law_1301 : decode cL_law 1301 = .ok (.invokevirtual 160, 3) := by decide +kernel
theorem dL_law_1304 : decode cL_law 1304 = .ok (.if_icmp .eq 28, 3) := by decide +kernel
theorem dL_law_1307 : decode cL_law 1307 = .ok (.iconst 0, 1) := by decide +kernel
theorem dL_law_1308 : decode cL_law 1308 = .ok (.ireturn, 1) := by decide +kernel
theorem dL_law_1309 : decode cL_law 1309 = .ok (.aload_n 1, 1) := by decide +kernel
theorem dL_law_1310 : decode cL_law 1310 = .ok (.aload_n 0, 1) := by decide +kernel
theorem dL_law_1311 : decode cL_law 1311 = .ok (.iload_n 3, 1) := by decide +kernel
theorem dL_law_1312 : decode cL_law 1312 = .ok (.iconst 1, 1) := by decide +kernel
theorem dL_law_1313 : decode cL_law 1313 = .ok (.iadd, 1) := by decide +kernel
theorem dL_law_1314 : decode cL_law 1314 = .ok (.iaload, 1) := by decide +kernel
theorem dL_law_1315 : decode cL_law 1315 = .ok (.invokevirtual 161, 3) := by decide +kernel
theorem dL_law_1318 : decode cL_law 1318 = .ok (.aload_n 2, 1) := by decide +kernel
theorem dL_law_1319 : decode cL_law 1319 = .ok (.aload_n 0, 1) := by decide +kernel
theorem dL_law_1320 : decode cL_law 1320 = .ok (.iload_n 3, 1) := by decide +kernel
theorem dL_law_1321 : decode cL_law 1321 = .ok (.iconst 1, 1) := by decide +kernel
theorem dL_law_1322 : decode cL_law 1322 = .ok (.iadd, 1) := by decide +kernel
theorem dL_law_1323 : decode cL_law 1323 = .ok (.iaload, 1) := by decide +kernel
theorem dL_law_1324 : decode cL_law 1324 = .ok (.invokevirtual 164, 3) := by decide +kernel
theorem dL_law_1327 : decode cL_law 1327 = .ok (.if_icmp .eq 5, 3) := by decide +kernel
theorem dL_law_1330 : decode cL_law 1330 = .ok (.iconst 0, 1) := by decide +kernel
theorem dL_law_1331 : decode cL_law 1331 = .ok (.ireturn, 1) := by decide +kernel
theorem dL_law_1332 : decode cL_law 1332 = .ok (.iinc 3 7, 3) := by decide +kernel
theorem dL_law_1335 : decode cL_law 1335 = .ok (.goto (-1317), 3) := by decide +kernel
theorem dL_law_1338 : decode cL_law 1338 = .ok (.iconst 1, 1) := by decide +kernel
theorem dL_law_1339 : decode cL_law 1339 = .ok (.ireturn, 1) := by decide +kernel
