/-! ===== the law: words and decode rows ===== -/
def m_law : xM := (R_law, code, 4, ret)
theorem dL_0 : decode code 0 = .ok (.new 7, 3) := by decide +kernel
theorem dL_3 : decode code 3 = .ok (.dup, 1) := by decide +kernel
theorem dL_4 : decode code 4 = .ok (.invokespecial 9, 3) := by decide +kernel
theorem dL_7 : decode code 7 = .ok (.astore_n 1, 1) := by decide +kernel
theorem dL_8 : decode code 8 = .ok (.new 10, 3) := by decide +kernel
theorem dL_11 : decode code 11 = .ok (.dup, 1) := by decide +kernel
theorem dL_12 : decode code 12 = .ok (.invokespecial 12, 3) := by decide +kernel
theorem dL_15 : decode code 15 = .ok (.astore_n 2, 1) := by decide +kernel
theorem dL_16 : decode code 16 = .ok (.iconst 0, 1) := by decide +kernel
theorem dL_17 : decode code 17 = .ok (.istore_n 3, 1) := by decide +kernel
theorem dL_18 : decode code 18 = .ok (.iload_n 3, 1) := by decide +kernel
theorem dL_19 : decode code 19 = .ok (.aload_n 0, 1) := by decide +kernel
theorem dL_20 : decode code 20 = .ok (.arraylength, 1) := by decide +kernel
theorem dL_21 : decode code 21 = .ok (.iconst 4, 1) := by decide +kernel
theorem dL_22 : decode code 22 = .ok (.isub, 1) := by decide +kernel
theorem dL_23 : decode code 23 = .ok (.if_icmp .gt 736, 3) := by decide +kernel
theorem dL_26 : decode code 26 = .ok (.aload_n 0, 1) := by decide +kernel
theorem dL_27 : decode code 27 = .ok (.iload_n 3, 1) := by decide +kernel
theorem dL_28 : decode code 28 = .ok (.iaload, 1) := by decide +kernel
theorem dL_29 : decode code 29 = .ok (.bipush 31, 2) := by decide +kernel
theorem dL_31 : decode code 31 = .ok (.iand, 1) := by decide +kernel
theorem dL_32 : decode code 32 = .ok (.tableswitch 721 0 23 #[112, 135, 148, 171, 184, 197, 220, 243, 276, 309, 342, 375, 408, 431, 454, 497, 520, 569, 602, 615, 628, 641, 684, 707], 112) := by decide +kernel
theorem dL_144 : decode code 144 = .ok (.aload_n 1, 1) := by decide +kernel
theorem dL_145 : decode code 145 = .ok (.aload_n 0, 1) := by decide +kernel
theorem dL_146 : decode code 146 = .ok (.iload_n 3, 1) := by decide +kernel
theorem dL_147 : decode code 147 = .ok (.iconst 1, 1) := by decide +kernel
theorem dL_148 : decode code 148 = .ok (.iadd, 1) := by decide +kernel
theorem dL_149 : decode code 149 = .ok (.iaload, 1) := by decide +kernel
theorem dL_150 : decode code 150 = .ok (.invokevirtual 13, 3) := by decide +kernel
theorem dL_153 : decode code 153 = .ok (.aload_n 2, 1) := by decide +kernel
theorem dL_154 : decode code 154 = .ok (.aload_n 0, 1) := by decide +kernel
theorem dL_155 : decode code 155 = .ok (.iload_n 3, 1) := by decide +kernel
theorem dL_156 : decode code 156 = .ok (.iconst 1, 1) := by decide +kernel
theorem dL_157 : decode code 157 = .ok (.iadd, 1) := by decide +kernel
theorem dL_158 : decode code 158 = .ok (.iaload, 1) := by decide +kernel
theorem dL_159 : decode code 159 = .ok (.invokevirtual 17, 3) := by decide +kernel
theorem dL_162 : decode code 162 = .ok (.if_icmp .eq 591, 3) := by decide +kernel
theorem dL_165 : decode code 165 = .ok (.iconst 0, 1) := by decide +kernel
theorem dL_166 : decode code 166 = .ok (.ireturn, 1) := by decide +kernel
theorem dL_167 : decode code 167 = .ok (.aload_n 1, 1) := by decide +kernel
theorem dL_168 : decode code 168 = .ok (.invokevirtual 18, 3) := by decide +kernel
theorem dL_171 : decode code 171 = .ok (.aload_n 2, 1) := by decide +kernel
theorem dL_172 : decode code 172 = .ok (.invokevirtual 22, 3) := by decide +kernel
theorem dL_175 : decode code 175 = .ok (.if_icmp .eq 578, 3) := by decide +kernel
theorem dL_178 : decode code 178 = .ok (.iconst 0, 1) := by decide +kernel
theorem dL_179 : decode code 179 = .ok (.ireturn, 1) := by decide +kernel
theorem dL_180 : decode code 180 = .ok (.aload_n 1, 1) := by decide +kernel
theorem dL_181 : decode code 181 = .ok (.aload_n 0, 1) := by decide +kernel
theorem dL_182 : decode code 182 = .ok (.iload_n 3, 1) := by decide +kernel
theorem dL_183 : decode code 183 = .ok (.iconst 1, 1) := by decide +kernel
theorem dL_184 : decode code 184 = .ok (.iadd, 1) := by decide +kernel
theorem dL_185 : decode code 185 = .ok (.iaload, 1) := by decide +kernel
theorem dL_186 : decode code 186 = .ok (.invokevirtual 23, 3) := by decide +kernel
theorem dL_189 : decode code 189 = .ok (.aload_n 2, 1) := by decide +kernel
theorem dL_190 : decode code 190 = .ok (.aload_n 0, 1) := by decide +kernel
theorem dL_191 : decode code 191 = .ok (.iload_n 3, 1) := by decide +kernel
theorem dL_192 : decode code 192 = .ok (.iconst 1, 1) := by decide +kernel
theorem dL_193 : decode code 193 = .ok (.iadd, 1) := by decide +kernel
theorem dL_194 : decode code 194 = .ok (.iaload, 1) := by decide +kernel
theorem dL_195 : decode code 195 = .ok (.invokevirtual 26, 3) := by decide +kernel
theorem dL_198 : decode code 198 = .ok (.if_icmp .eq 555, 3) := by decide +kernel
theorem dL_201 : decode code 201 = .ok (.iconst 0, 1) := by decide +kernel
theorem dL_202 : decode code 202 = .ok (.ireturn, 1) := by decide +kernel
theorem dL_203 : decode code 203 = .ok (.aload_n 1, 1) := by decide +kernel
theorem dL_204 : decode code 204 = .ok (.invokevirtual 27, 3) := by decide +kernel
theorem dL_207 : decode code 207 = .ok (.aload_n 2, 1) := by decide +kernel
theorem dL_208 : decode code 208 = .ok (.invokevirtual 30, 3) := by decide +kernel
theorem dL_211 : decode code 211 = .ok (.if_icmp .eq 542, 3) := by decide +kernel
theorem dL_214 : decode code 214 = .ok (.iconst 0, 1) := by decide +kernel
theorem dL_215 : decode code 215 = .ok (.ireturn, 1) := by decide +kernel
theorem dL_216 : decode code 216 = .ok (.aload_n 1, 1) := by decide +kernel
theorem dL_217 : decode code 217 = .ok (.invokevirtual 31, 3) := by decide +kernel
theorem dL_220 : decode code 220 = .ok (.aload_n 2, 1) := by decide +kernel
theorem dL_221 : decode code 221 = .ok (.invokevirtual 34, 3) := by decide +kernel
theorem dL_224 : decode code 224 = .ok (.if_icmp .eq 529, 3) := by decide +kernel
theorem dL_227 : decode code 227 = .ok (.iconst 0, 1) := by decide +kernel
theorem dL_228 : decode code 228 = .ok (.ireturn, 1) := by decide +kernel
theorem dL_229 : decode code 229 = .ok (.aload_n 1, 1) := by decide +kernel
theorem dL_230 : decode code 230 = .ok (.aload_n 0, 1) := by decide +kernel
theorem dL_231 : decode code 231 = .ok (.iload_n 3, 1) := by decide +kernel
theorem dL_232 : decode code 232 = .ok (.iconst 1, 1) := by decide +kernel
theorem dL_233 : decode code 233 = .ok (.iadd, 1) := by decide +kernel
theorem dL_234 : decode code 234 = .ok (.iaload, 1) := by decide +kernel
theorem dL_235 : decode code 235 = .ok (.invokevirtual 35, 3) := by decide +kernel
theorem dL_238 : decode code 238 = .ok (.aload_n 2, 1) := by decide +kernel
theorem dL_239 : decode code 239 = .ok (.aload_n 0, 1) := by decide +kernel
theorem dL_240 : decode code 240 = .ok (.iload_n 3, 1) := by decide +kernel
theorem dL_241 : decode code 241 = .ok (.iconst 1, 1) := by decide +kernel
theorem dL_242 : decode code 242 = .ok (.iadd, 1) := by decide +kernel
theorem dL_243 : decode code 243 = .ok (.iaload, 1) := by decide +kernel
theorem dL_244 : decode code 244 = .ok (.invokevirtual 38, 3) := by decide +kernel
theorem dL_247 : decode code 247 = .ok (.if_icmp .eq 506, 3) := by decide +kernel
theorem dL_250 : decode code 250 = .ok (.iconst 0, 1) := by decide +kernel
theorem dL_251 : decode code 251 = .ok (.ireturn, 1) := by decide +kernel
theorem dL_252 : decode code 252 = .ok (.aload_n 1, 1) := by decide +kernel
theorem dL_253 : decode code 253 = .ok (.aload_n 0, 1) := by decide +kernel
theorem dL_254 : decode code 254 = .ok (.iload_n 3, 1) := by decide +kernel
theorem dL_255 : decode code 255 = .ok (.iconst 1, 1) := by decide +kernel
theorem dL_256 : decode code 256 = .ok (.iadd, 1) := by decide +kernel
theorem dL_257 : decode code 257 = .ok (.iaload, 1) := by decide +kernel
theorem dL_258 : decode code 258 = .ok (.invokevirtual 39, 3) := by decide +kernel
theorem dL_261 : decode code 261 = .ok (.aload_n 2, 1) := by decide +kernel
theorem dL_262 : decode code 262 = .ok (.aload_n 0, 1) := by decide +kernel
theorem dL_263 : decode code 263 = .ok (.iload_n 3, 1) := by decide +kernel
theorem dL_264 : decode code 264 = .ok (.iconst 1, 1) := by decide +kernel
theorem dL_265 : decode code 265 = .ok (.iadd, 1) := by decide +kernel
theorem dL_266 : decode code 266 = .ok (.iaload, 1) := by decide +kernel
theorem dL_267 : decode code 267 = .ok (.invokevirtual 42, 3) := by decide +kernel
theorem dL_270 : decode code 270 = .ok (.if_icmp .eq 483, 3) := by decide +kernel
theorem dL_273 : decode code 273 = .ok (.iconst 0, 1) := by decide +kernel
theorem dL_274 : decode code 274 = .ok (.ireturn, 1) := by decide +kernel
theorem dL_275 : decode code 275 = .ok (.aload_n 1, 1) := by decide +kernel
theorem dL_276 : decode code 276 = .ok (.aload_n 0, 1) := by decide +kernel
theorem dL_277 : decode code 277 = .ok (.iload_n 3, 1) := by decide +kernel
theorem dL_278 : decode code 278 = .ok (.iconst 1, 1) := by decide +kernel
theorem dL_279 : decode code 279 = .ok (.iadd, 1) := by decide +kernel
theorem dL_280 : decode code 280 = .ok (.iaload, 1) := by decide +kernel
theorem dL_281 : decode code 281 = .ok (.aload_n 0, 1) := by decide +kernel
theorem dL_282 : decode code 282 = .ok (.iload_n 3, 1) := by decide +kernel
theorem dL_283 : decode code 283 = .ok (.iconst 2, 1) := by decide +kernel
theorem dL_284 : decode code 284 = .ok (.iadd, 1) := by decide +kernel
theorem dL_285 : decode code 285 = .ok (.iaload, 1) := by decide +kernel
theorem dL_286 : decode code 286 = .ok (.invokevirtual 43, 3) := by decide +kernel
theorem dL_289 : decode code 289 = .ok (.aload_n 2, 1) := by decide +kernel
theorem dL_290 : decode code 290 = .ok (.aload_n 0, 1) := by decide +kernel
theorem dL_291 : decode code 291 = .ok (.iload_n 3, 1) := by decide +kernel
theorem dL_292 : decode code 292 = .ok (.iconst 1, 1) := by decide +kernel
theorem dL_293 : decode code 293 = .ok (.iadd, 1) := by decide +kernel
theorem dL_294 : decode code 294 = .ok (.iaload, 1) := by decide +kernel
theorem dL_295 : decode code 295 = .ok (.aload_n 0, 1) := by decide +kernel
theorem dL_296 : decode code 296 = .ok (.iload_n 3, 1) := by decide +kernel
theorem dL_297 : decode code 297 = .ok (.iconst 2, 1) := by decide +kernel
theorem dL_298 : decode code 298 = .ok (.iadd, 1) := by decide +kernel
theorem dL_299 : decode code 299 = .ok (.iaload, 1) := by decide +kernel
theorem dL_300 : decode code 300 = .ok (.invokevirtual 47, 3) := by decide +kernel
theorem dL_303 : decode code 303 = .ok (.if_icmp .eq 450, 3) := by decide +kernel
theorem dL_306 : decode code 306 = .ok (.iconst 0, 1) := by decide +kernel
theorem dL_307 : decode code 307 = .ok (.ireturn, 1) := by decide +kernel
theorem dL_308 : decode code 308 = .ok (.aload_n 1, 1) := by decide +kernel
theorem dL_309 : decode code 309 = .ok (.aload_n 0, 1) := by decide +kernel
theorem dL_310 : decode code 310 = .ok (.iload_n 3, 1) := by decide +kernel
theorem dL_311 : decode code 311 = .ok (.iconst 1, 1) := by decide +kernel
theorem dL_312 : decode code 312 = .ok (.iadd, 1) := by decide +kernel
theorem dL_313 : decode code 313 = .ok (.iaload, 1) := by decide +kernel
theorem dL_314 : decode code 314 = .ok (.aload_n 0, 1) := by decide +kernel
theorem dL_315 : decode code 315 = .ok (.iload_n 3, 1) := by decide +kernel
theorem dL_316 : decode code 316 = .ok (.iconst 2, 1) := by decide +kernel
theorem dL_317 : decode code 317 = .ok (.iadd, 1) := by decide +kernel
theorem dL_318 : decode code 318 = .ok (.iaload, 1) := by decide +kernel
theorem dL_319 : decode code 319 = .ok (.invokevirtual 48, 3) := by decide +kernel
theorem dL_322 : decode code 322 = .ok (.aload_n 2, 1) := by decide +kernel
theorem dL_323 : decode code 323 = .ok (.aload_n 0, 1) := by decide +kernel
theorem dL_324 : decode code 324 = .ok (.iload_n 3, 1) := by decide +kernel
theorem dL_325 : decode code 325 = .ok (.iconst 1, 1) := by decide +kernel
theorem dL_326 : decode code 326 = .ok (.iadd, 1) := by decide +kernel
theorem dL_327 : decode code 327 = .ok (.iaload, 1) := by decide +kernel
theorem dL_328 : decode code 328 = .ok (.aload_n 0, 1) := by decide +kernel
theorem dL_329 : decode code 329 = .ok (.iload_n 3, 1) := by decide +kernel
theorem dL_330 : decode code 330 = .ok (.iconst 2, 1) := by decide +kernel
theorem dL_331 : decode code 331 = .ok (.iadd, 1) := by decide +kernel
theorem dL_332 : decode code 332 = .ok (.iaload, 1) := by decide +kernel
theorem dL_333 : decode code 333 = .ok (.invokevirtual 51, 3) := by decide +kernel
theorem dL_336 : decode code 336 = .ok (.if_icmp .eq 417, 3) := by decide +kernel
theorem dL_339 : decode code 339 = .ok (.iconst 0, 1) := by decide +kernel
theorem dL_340 : decode code 340 = .ok (.ireturn, 1) := by decide +kernel
theorem dL_341 : decode code 341 = .ok (.aload_n 1, 1) := by decide +kernel
theorem dL_342 : decode code 342 = .ok (.aload_n 0, 1) := by decide +kernel
theorem dL_343 : decode code 343 = .ok (.iload_n 3, 1) := by decide +kernel
theorem dL_344 : decode code 344 = .ok (.iconst 1, 1) := by decide +kernel
theorem dL_345 : decode code 345 = .ok (.iadd, 1) := by decide +kernel
theorem dL_346 : decode code 346 = .ok (.iaload, 1) := by decide +kernel
theorem dL_347 : decode code 347 = .ok (.aload_n 0, 1) := by decide +kernel
theorem dL_348 : decode code 348 = .ok (.iload_n 3, 1) := by decide +kernel
theorem dL_349 : decode code 349 = .ok (.iconst 2, 1) := by decide +kernel
theorem dL_350 : decode code 350 = .ok (.iadd, 1) := by decide +kernel
theorem dL_351 : decode code 351 = .ok (.iaload, 1) := by decide +kernel
theorem dL_352 : decode code 352 = .ok (.invokevirtual 52, 3) := by decide +kernel
theorem dL_355 : decode code 355 = .ok (.aload_n 2, 1) := by decide +kernel
theorem dL_356 : decode code 356 = .ok (.aload_n 0, 1) := by decide +kernel
theorem dL_357 : decode code 357 = .ok (.iload_n 3, 1) := by decide +kernel
theorem dL_358 : decode code 358 = .ok (.iconst 1, 1) := by decide +kernel
theorem dL_359 : decode code 359 = .ok (.iadd, 1) := by decide +kernel
theorem dL_360 : decode code 360 = .ok (.iaload, 1) := by decide +kernel
theorem dL_361 : decode code 361 = .ok (.aload_n 0, 1) := by decide +kernel
theorem dL_362 : decode code 362 = .ok (.iload_n 3, 1) := by decide +kernel
theorem dL_363 : decode code 363 = .ok (.iconst 2, 1) := by decide +kernel
theorem dL_364 : decode code 364 = .ok (.iadd, 1) := by decide +kernel
theorem dL_365 : decode code 365 = .ok (.iaload, 1) := by decide +kernel
theorem dL_366 : decode code 366 = .ok (.invokevirtual 55, 3) := by decide +kernel
theorem dL_369 : decode code 369 = .ok (.if_icmp .eq 384, 3) := by decide +kernel
theorem dL_372 : decode code 372 = .ok (.iconst 0, 1) := by decide +kernel
theorem dL_373 : decode code 373 = .ok (.ireturn, 1) := by decide +kernel
theorem dL_374 : decode code 374 = .ok (.aload_n 1, 1) := by decide +kernel
theorem dL_375 : decode code 375 = .ok (.aload_n 0, 1) := by decide +kernel
theorem dL_376 : decode code 376 = .ok (.iload_n 3, 1) := by decide +kernel
theorem dL_377 : decode code 377 = .ok (.iconst 1, 1) := by decide +kernel
theorem dL_378 : decode code 378 = .ok (.iadd, 1) := by decide +kernel
theorem dL_379 : decode code 379 = .ok (.iaload, 1) := by decide +kernel
theorem dL_380 : decode code 380 = .ok (.aload_n 0, 1) := by decide +kernel
theorem dL_381 : decode code 381 = .ok (.iload_n 3, 1) := by decide +kernel
theorem dL_382 : decode code 382 = .ok (.iconst 2, 1) := by decide +kernel
theorem dL_383 : decode code 383 = .ok (.iadd, 1) := by decide +kernel
theorem dL_384 : decode code 384 = .ok (.iaload, 1) := by decide +kernel
theorem dL_385 : decode code 385 = .ok (.invokevirtual 56, 3) := by decide +kernel
theorem dL_388 : decode code 388 = .ok (.aload_n 2, 1) := by decide +kernel
theorem dL_389 : decode code 389 = .ok (.aload_n 0, 1) := by decide +kernel
theorem dL_390 : decode code 390 = .ok (.iload_n 3, 1) := by decide +kernel
theorem dL_391 : decode code 391 = .ok (.iconst 1, 1) := by decide +kernel
theorem dL_392 : decode code 392 = .ok (.iadd, 1) := by decide +kernel
theorem dL_393 : decode code 393 = .ok (.iaload, 1) := by decide +kernel
theorem dL_394 : decode code 394 = .ok (.aload_n 0, 1) := by decide +kernel
theorem dL_395 : decode code 395 = .ok (.iload_n 3, 1) := by decide +kernel
theorem dL_396 : decode code 396 = .ok (.iconst 2, 1) := by decide +kernel
theorem dL_397 : decode code 397 = .ok (.iadd, 1) := by decide +kernel
theorem dL_398 : decode code 398 = .ok (.iaload, 1) := by decide +kernel
theorem dL_399 : decode code 399 = .ok (.invokevirtual 59, 3) := by decide +kernel
theorem dL_402 : decode code 402 = .ok (.if_icmp .eq 351, 3) := by decide +kernel
theorem dL_405 : decode code 405 = .ok (.iconst 0, 1) := by decide +kernel
theorem dL_406 : decode code 406 = .ok (.ireturn, 1) := by decide +kernel
theorem dL_407 : decode code 407 = .ok (.aload_n 1, 1) := by decide +kernel
theorem dL_408 : decode code 408 = .ok (.aload_n 0, 1) := by decide +kernel
theorem dL_409 : decode code 409 = .ok (.iload_n 3, 1) := by decide +kernel
theorem dL_410 : decode code 410 = .ok (.iconst 1, 1) := by decide +kernel
theorem dL_411 : decode code 411 = .ok (.iadd, 1) := by decide +kernel
theorem dL_412 : decode code 412 = .ok (.iaload, 1) := by decide +kernel
theorem dL_413 : decode code 413 = .ok (.aload_n 0, 1) := by decide +kernel
theorem dL_414 : decode code 414 = .ok (.iload_n 3, 1) := by decide +kernel
theorem dL_415 : decode code 415 = .ok (.iconst 2, 1) := by decide +kernel
theorem dL_416 : decode code 416 = .ok (.iadd, 1) := by decide +kernel
theorem dL_417 : decode code 417 = .ok (.iaload, 1) := by decide +kernel
theorem dL_418 : decode code 418 = .ok (.invokevirtual 60, 3) := by decide +kernel
theorem dL_421 : decode code 421 = .ok (.aload_n 2, 1) := by decide +kernel
theorem dL_422 : decode code 422 = .ok (.aload_n 0, 1) := by decide +kernel
theorem dL_423 : decode code 423 = .ok (.iload_n 3, 1) := by decide +kernel
theorem dL_424 : decode code 424 = .ok (.iconst 1, 1) := by decide +kernel
theorem dL_425 : decode code 425 = .ok (.iadd, 1) := by decide +kernel
theorem dL_426 : decode code 426 = .ok (.iaload, 1) := by decide +kernel
theorem dL_427 : decode code 427 = .ok (.aload_n 0, 1) := by decide +kernel
theorem dL_428 : decode code 428 = .ok (.iload_n 3, 1) := by decide +kernel
theorem dL_429 : decode code 429 = .ok (.iconst 2, 1) := by decide +kernel
theorem dL_430 : decode code 430 = .ok (.iadd, 1) := by decide +kernel
theorem dL_431 : decode code 431 = .ok (.iaload, 1) := by decide +kernel
theorem dL_432 : decode code 432 = .ok (.invokevirtual 63, 3) := by decide +kernel
theorem dL_435 : decode code 435 = .ok (.if_icmp .eq 318, 3) := by decide +kernel
theorem dL_438 : decode code 438 = .ok (.iconst 0, 1) := by decide +kernel
theorem dL_439 : decode code 439 = .ok (.ireturn, 1) := by decide +kernel
theorem dL_440 : decode code 440 = .ok (.aload_n 1, 1) := by decide +kernel
theorem dL_441 : decode code 441 = .ok (.aload_n 0, 1) := by decide +kernel
theorem dL_442 : decode code 442 = .ok (.iload_n 3, 1) := by decide +kernel
theorem dL_443 : decode code 443 = .ok (.iconst 1, 1) := by decide +kernel
theorem dL_444 : decode code 444 = .ok (.iadd, 1) := by decide +kernel
theorem dL_445 : decode code 445 = .ok (.iaload, 1) := by decide +kernel
theorem dL_446 : decode code 446 = .ok (.invokevirtual 64, 3) := by decide +kernel
theorem dL_449 : decode code 449 = .ok (.aload_n 2, 1) := by decide +kernel
theorem dL_450 : decode code 450 = .ok (.aload_n 0, 1) := by decide +kernel
theorem dL_451 : decode code 451 = .ok (.iload_n 3, 1) := by decide +kernel
theorem dL_452 : decode code 452 = .ok (.iconst 1, 1) := by decide +kernel
theorem dL_453 : decode code 453 = .ok (.iadd, 1) := by decide +kernel
theorem dL_454 : decode code 454 = .ok (.iaload, 1) := by decide +kernel
theorem dL_455 : decode code 455 = .ok (.invokevirtual 67, 3) := by decide +kernel
theorem dL_458 : decode code 458 = .ok (.if_icmp .eq 295, 3) := by decide +kernel
theorem dL_461 : decode code 461 = .ok (.iconst 0, 1) := by decide +kernel
theorem dL_462 : decode code 462 = .ok (.ireturn, 1) := by decide +kernel
theorem dL_463 : decode code 463 = .ok (.aload_n 1, 1) := by decide +kernel
theorem dL_464 : decode code 464 = .ok (.aload_n 0, 1) := by decide +kernel
theorem dL_465 : decode code 465 = .ok (.iload_n 3, 1) := by decide +kernel
theorem dL_466 : decode code 466 = .ok (.iconst 1, 1) := by decide +kernel
theorem dL_467 : decode code 467 = .ok (.iadd, 1) := by decide +kernel
theorem dL_468 : decode code 468 = .ok (.iaload, 1) := by decide +kernel
theorem dL_469 : decode code 469 = .ok (.invokevirtual 68, 3) := by decide +kernel
theorem dL_472 : decode code 472 = .ok (.aload_n 2, 1) := by decide +kernel
theorem dL_473 : decode code 473 = .ok (.aload_n 0, 1) := by decide +kernel
theorem dL_474 : decode code 474 = .ok (.iload_n 3, 1) := by decide +kernel
theorem dL_475 : decode code 475 = .ok (.iconst 1, 1) := by decide +kernel
theorem dL_476 : decode code 476 = .ok (.iadd, 1) := by decide +kernel
theorem dL_477 : decode code 477 = .ok (.iaload, 1) := by decide +kernel
theorem dL_478 : decode code 478 = .ok (.invokevirtual 71, 3) := by decide +kernel
theorem dL_481 : decode code 481 = .ok (.if_icmp .eq 272, 3) := by decide +kernel
theorem dL_484 : decode code 484 = .ok (.iconst 0, 1) := by decide +kernel
theorem dL_485 : decode code 485 = .ok (.ireturn, 1) := by decide +kernel
theorem dL_486 : decode code 486 = .ok (.aload_n 1, 1) := by decide +kernel
theorem dL_487 : decode code 487 = .ok (.aload_n 0, 1) := by decide +kernel
theorem dL_488 : decode code 488 = .ok (.iload_n 3, 1) := by decide +kernel
theorem dL_489 : decode code 489 = .ok (.iconst 1, 1) := by decide +kernel
theorem dL_490 : decode code 490 = .ok (.iadd, 1) := by decide +kernel
theorem dL_491 : decode code 491 = .ok (.iaload, 1) := by decide +kernel
theorem dL_492 : decode code 492 = .ok (.aload_n 0, 1) := by decide +kernel
theorem dL_493 : decode code 493 = .ok (.iload_n 3, 1) := by decide +kernel
theorem dL_494 : decode code 494 = .ok (.iconst 2, 1) := by decide +kernel
theorem dL_495 : decode code 495 = .ok (.iadd, 1) := by decide +kernel
theorem dL_496 : decode code 496 = .ok (.iaload, 1) := by decide +kernel
theorem dL_497 : decode code 497 = .ok (.aload_n 0, 1) := by decide +kernel
theorem dL_498 : decode code 498 = .ok (.iload_n 3, 1) := by decide +kernel
theorem dL_499 : decode code 499 = .ok (.iconst 3, 1) := by decide +kernel
theorem dL_500 : decode code 500 = .ok (.iadd, 1) := by decide +kernel
theorem dL_501 : decode code 501 = .ok (.iaload, 1) := by decide +kernel
theorem dL_502 : decode code 502 = .ok (.invokevirtual 72, 3) := by decide +kernel
theorem dL_505 : decode code 505 = .ok (.aload_n 2, 1) := by decide +kernel
theorem dL_506 : decode code 506 = .ok (.aload_n 0, 1) := by decide +kernel
theorem dL_507 : decode code 507 = .ok (.iload_n 3, 1) := by decide +kernel
theorem dL_508 : decode code 508 = .ok (.iconst 1, 1) := by decide +kernel
theorem dL_509 : decode code 509 = .ok (.iadd, 1) := by decide +kernel
theorem dL_510 : decode code 510 = .ok (.iaload, 1) := by decide +kernel
theorem dL_511 : decode code 511 = .ok (.aload_n 0, 1) := by decide +kernel
theorem dL_512 : decode code 512 = .ok (.iload_n 3, 1) := by decide +kernel
theorem dL_513 : decode code 513 = .ok (.iconst 2, 1) := by decide +kernel
theorem dL_514 : decode code 514 = .ok (.iadd, 1) := by decide +kernel
theorem dL_515 : decode code 515 = .ok (.iaload, 1) := by decide +kernel
theorem dL_516 : decode code 516 = .ok (.aload_n 0, 1) := by decide +kernel
theorem dL_517 : decode code 517 = .ok (.iload_n 3, 1) := by decide +kernel
theorem dL_518 : decode code 518 = .ok (.iconst 3, 1) := by decide +kernel
theorem dL_519 : decode code 519 = .ok (.iadd, 1) := by decide +kernel
theorem dL_520 : decode code 520 = .ok (.iaload, 1) := by decide +kernel
theorem dL_521 : decode code 521 = .ok (.invokevirtual 76, 3) := by decide +kernel
theorem dL_524 : decode code 524 = .ok (.if_icmp .eq 229, 3) := by decide +kernel
theorem dL_527 : decode code 527 = .ok (.iconst 0, 1) := by decide +kernel
theorem dL_528 : decode code 528 = .ok (.ireturn, 1) := by decide +kernel
theorem dL_529 : decode code 529 = .ok (.aload_n 1, 1) := by decide +kernel
theorem dL_530 : decode code 530 = .ok (.aload_n 0, 1) := by decide +kernel
theorem dL_531 : decode code 531 = .ok (.iload_n 3, 1) := by decide +kernel
theorem dL_532 : decode code 532 = .ok (.iconst 1, 1) := by decide +kernel
theorem dL_533 : decode code 533 = .ok (.iadd, 1) := by decide +kernel
theorem dL_534 : decode code 534 = .ok (.iaload, 1) := by decide +kernel
theorem dL_535 : decode code 535 = .ok (.invokevirtual 77, 3) := by decide +kernel
theorem dL_538 : decode code 538 = .ok (.aload_n 2, 1) := by decide +kernel
theorem dL_539 : decode code 539 = .ok (.aload_n 0, 1) := by decide +kernel
theorem dL_540 : decode code 540 = .ok (.iload_n 3, 1) := by decide +kernel
theorem dL_541 : decode code 541 = .ok (.iconst 1, 1) := by decide +kernel
theorem dL_542 : decode code 542 = .ok (.iadd, 1) := by decide +kernel
theorem dL_543 : decode code 543 = .ok (.iaload, 1) := by decide +kernel
theorem dL_544 : decode code 544 = .ok (.invokevirtual 80, 3) := by decide +kernel
theorem dL_547 : decode code 547 = .ok (.if_icmp .eq 206, 3) := by decide +kernel
theorem dL_550 : decode code 550 = .ok (.iconst 0, 1) := by decide +kernel
theorem dL_551 : decode code 551 = .ok (.ireturn, 1) := by decide +kernel
theorem dL_552 : decode code 552 = .ok (.aload_n 1, 1) := by decide +kernel
theorem dL_553 : decode code 553 = .ok (.aload_n 0, 1) := by decide +kernel
theorem dL_554 : decode code 554 = .ok (.iload_n 3, 1) := by decide +kernel
theorem dL_555 : decode code 555 = .ok (.iconst 1, 1) := by decide +kernel
theorem dL_556 : decode code 556 = .ok (.iadd, 1) := by decide +kernel
theorem dL_557 : decode code 557 = .ok (.iaload, 1) := by decide +kernel
theorem dL_558 : decode code 558 = .ok (.aload_n 0, 1) := by decide +kernel
theorem dL_559 : decode code 559 = .ok (.iload_n 3, 1) := by decide +kernel
theorem dL_560 : decode code 560 = .ok (.iconst 2, 1) := by decide +kernel
theorem dL_561 : decode code 561 = .ok (.iadd, 1) := by decide +kernel
theorem dL_562 : decode code 562 = .ok (.iaload, 1) := by decide +kernel
theorem dL_563 : decode code 563 = .ok (.ifCond .eq 7, 3) := by decide +kernel
theorem dL_566 : decode code 566 = .ok (.iconst 1, 1) := by decide +kernel
theorem dL_567 : decode code 567 = .ok (.goto (4), 3) := by decide +kernel
theorem dL_570 : decode code 570 = .ok (.iconst 0, 1) := by decide +kernel
theorem dL_571 : decode code 571 = .ok (.invokevirtual 81, 3) := by decide +kernel
theorem dL_574 : decode code 574 = .ok (.aload_n 2, 1) := by decide +kernel
theorem dL_575 : decode code 575 = .ok (.aload_n 0, 1) := by decide +kernel
theorem dL_576 : decode code 576 = .ok (.iload_n 3, 1) := by decide +kernel
theorem dL_577 : decode code 577 = .ok (.iconst 1, 1) := by decide +kernel
theorem dL_578 : decode code 578 = .ok (.iadd, 1) := by decide +kernel
theorem dL_579 : decode code 579 = .ok (.iaload, 1) := by decide +kernel
theorem dL_580 : decode code 580 = .ok (.aload_n 0, 1) := by decide +kernel
theorem dL_581 : decode code 581 = .ok (.iload_n 3, 1) := by decide +kernel
theorem dL_582 : decode code 582 = .ok (.iconst 2, 1) := by decide +kernel
theorem dL_583 : decode code 583 = .ok (.iadd, 1) := by decide +kernel
theorem dL_584 : decode code 584 = .ok (.iaload, 1) := by decide +kernel
theorem dL_585 : decode code 585 = .ok (.ifCond .eq 7, 3) := by decide +kernel
theorem dL_588 : decode code 588 = .ok (.iconst 1, 1) := by decide +kernel
theorem dL_589 : decode code 589 = .ok (.goto (4), 3) := by decide +kernel
theorem dL_592 : decode code 592 = .ok (.iconst 0, 1) := by decide +kernel
theorem dL_593 : decode code 593 = .ok (.invokevirtual 85, 3) := by decide +kernel
theorem dL_596 : decode code 596 = .ok (.if_icmp .eq 157, 3) := by decide +kernel
theorem dL_599 : decode code 599 = .ok (.iconst 0, 1) := by decide +kernel
theorem dL_600 : decode code 600 = .ok (.ireturn, 1) := by decide +kernel
theorem dL_601 : decode code 601 = .ok (.aload_n 1, 1) := by decide +kernel
theorem dL_602 : decode code 602 = .ok (.aload_n 0, 1) := by decide +kernel
theorem dL_603 : decode code 603 = .ok (.iload_n 3, 1) := by decide +kernel
theorem dL_604 : decode code 604 = .ok (.iconst 1, 1) := by decide +kernel
theorem dL_605 : decode code 605 = .ok (.iadd, 1) := by decide +kernel
theorem dL_606 : decode code 606 = .ok (.iaload, 1) := by decide +kernel
theorem dL_607 : decode code 607 = .ok (.aload_n 0, 1) := by decide +kernel
theorem dL_608 : decode code 608 = .ok (.iload_n 3, 1) := by decide +kernel
theorem dL_609 : decode code 609 = .ok (.iconst 2, 1) := by decide +kernel
theorem dL_610 : decode code 610 = .ok (.iadd, 1) := by decide +kernel
theorem dL_611 : decode code 611 = .ok (.iaload, 1) := by decide +kernel
theorem dL_612 : decode code 612 = .ok (.invokevirtual 86, 3) := by decide +kernel
theorem dL_615 : decode code 615 = .ok (.aload_n 2, 1) := by decide +kernel
theorem dL_616 : decode code 616 = .ok (.aload_n 0, 1) := by decide +kernel
theorem dL_617 : decode code 617 = .ok (.iload_n 3, 1) := by decide +kernel
theorem dL_618 : decode code 618 = .ok (.iconst 1, 1) := by decide +kernel
theorem dL_619 : decode code 619 = .ok (.iadd, 1) := by decide +kernel
theorem dL_620 : decode code 620 = .ok (.iaload, 1) := by decide +kernel
theorem dL_621 : decode code 621 = .ok (.aload_n 0, 1) := by decide +kernel
theorem dL_622 : decode code 622 = .ok (.iload_n 3, 1) := by decide +kernel
theorem dL_623 : decode code 623 = .ok (.iconst 2, 1) := by decide +kernel
theorem dL_624 : decode code 624 = .ok (.iadd, 1) := by decide +kernel
theorem dL_625 : decode code 625 = .ok (.iaload, 1) := by decide +kernel
theorem dL_626 : decode code 626 = .ok (.invokevirtual 89, 3) := by decide +kernel
theorem dL_629 : decode code 629 = .ok (.if_icmp .eq 124, 3) := by decide +kernel
theorem dL_632 : decode code 632 = .ok (.iconst 0, 1) := by decide +kernel
theorem dL_633 : decode code 633 = .ok (.ireturn, 1) := by decide +kernel
theorem dL_634 : decode code 634 = .ok (.aload_n 1, 1) := by decide +kernel
theorem dL_635 : decode code 635 = .ok (.invokevirtual 90, 3) := by decide +kernel
theorem dL_638 : decode code 638 = .ok (.aload_n 2, 1) := by decide +kernel
theorem dL_639 : decode code 639 = .ok (.invokevirtual 93, 3) := by decide +kernel
theorem dL_642 : decode code 642 = .ok (.if_icmp .eq 111, 3) := by decide +kernel
theorem dL_645 : decode code 645 = .ok (.iconst 0, 1) := by decide +kernel
theorem dL_646 : decode code 646 = .ok (.ireturn, 1) := by decide +kernel
theorem dL_647 : decode code 647 = .ok (.aload_n 1, 1) := by decide +kernel
theorem dL_648 : decode code 648 = .ok (.invokevirtual 94, 3) := by decide +kernel
theorem dL_651 : decode code 651 = .ok (.aload_n 2, 1) := by decide +kernel
theorem dL_652 : decode code 652 = .ok (.invokevirtual 97, 3) := by decide +kernel
theorem dL_655 : decode code 655 = .ok (.if_icmp .eq 98, 3) := by decide +kernel
theorem dL_658 : decode code 658 = .ok (.iconst 0, 1) := by decide +kernel
theorem dL_659 : decode code 659 = .ok (.ireturn, 1) := by decide +kernel
theorem dL_660 : decode code 660 = .ok (.aload_n 1, 1) := by decide +kernel
theorem dL_661 : decode code 661 = .ok (.invokevirtual 98, 3) := by decide +kernel
theorem dL_664 : decode code 664 = .ok (.aload_n 2, 1) := by decide +kernel
theorem dL_665 : decode code 665 = .ok (.invokevirtual 101, 3) := by decide +kernel
theorem dL_668 : decode code 668 = .ok (.if_icmp .eq 85, 3) := by decide +kernel
theorem dL_671 : decode code 671 = .ok (.iconst 0, 1) := by decide +kernel
theorem dL_672 : decode code 672 = .ok (.ireturn, 1) := by decide +kernel
theorem dL_673 : decode code 673 = .ok (.aload_n 1, 1) := by decide +kernel
theorem dL_674 : decode code 674 = .ok (.aload_n 0, 1) := by decide +kernel
theorem dL_675 : decode code 675 = .ok (.iload_n 3, 1) := by decide +kernel
theorem dL_676 : decode code 676 = .ok (.iconst 1, 1) := by decide +kernel
theorem dL_677 : decode code 677 = .ok (.iadd, 1) := by decide +kernel
theorem dL_678 : decode code 678 = .ok (.iaload, 1) := by decide +kernel
theorem dL_679 : decode code 679 = .ok (.aload_n 0, 1) := by decide +kernel
theorem dL_680 : decode code 680 = .ok (.iload_n 3, 1) := by decide +kernel
theorem dL_681 : decode code 681 = .ok (.iconst 2, 1) := by decide +kernel
theorem dL_682 : decode code 682 = .ok (.iadd, 1) := by decide +kernel
theorem dL_683 : decode code 683 = .ok (.iaload, 1) := by decide +kernel
theorem dL_684 : decode code 684 = .ok (.aload_n 0, 1) := by decide +kernel
theorem dL_685 : decode code 685 = .ok (.iload_n 3, 1) := by decide +kernel
theorem dL_686 : decode code 686 = .ok (.iconst 3, 1) := by decide +kernel
theorem dL_687 : decode code 687 = .ok (.iadd, 1) := by decide +kernel
theorem dL_688 : decode code 688 = .ok (.iaload, 1) := by decide +kernel
theorem dL_689 : decode code 689 = .ok (.invokevirtual 102, 3) := by decide +kernel
theorem dL_692 : decode code 692 = .ok (.aload_n 2, 1) := by decide +kernel
theorem dL_693 : decode code 693 = .ok (.aload_n 0, 1) := by decide +kernel
theorem dL_694 : decode code 694 = .ok (.iload_n 3, 1) := by decide +kernel
theorem dL_695 : decode code 695 = .ok (.iconst 1, 1) := by decide +kernel
theorem dL_696 : decode code 696 = .ok (.iadd, 1) := by decide +kernel
theorem dL_697 : decode code 697 = .ok (.iaload, 1) := by decide +kernel
theorem dL_698 : decode code 698 = .ok (.aload_n 0, 1) := by decide +kernel
theorem dL_699 : decode code 699 = .ok (.iload_n 3, 1) := by decide +kernel
theorem dL_700 : decode code 700 = .ok (.iconst 2, 1) := by decide +kernel
theorem dL_701 : decode code 701 = .ok (.iadd, 1) := by decide +kernel
theorem dL_702 : decode code 702 = .ok (.iaload, 1) := by decide +kernel
theorem dL_703 : decode code 703 = .ok (.aload_n 0, 1) := by decide +kernel
theorem dL_704 : decode code 704 = .ok (.iload_n 3, 1) := by decide +kernel
theorem dL_705 : decode code 705 = .ok (.iconst 3, 1) := by decide +kernel
theorem dL_706 : decode code 706 = .ok (.iadd, 1) := by decide +kernel
theorem dL_707 : decode code 707 = .ok (.iaload, 1) := by decide +kernel
theorem dL_708 : decode code 708 = .ok (.invokevirtual 105, 3) := by decide +kernel
theorem dL_711 : decode code 711 = .ok (.if_icmp .eq 42, 3) := by decide +kernel
theorem dL_714 : decode code 714 = .ok (.iconst 0, 1) := by decide +kernel
theorem dL_715 : decode code 715 = .ok (.ireturn, 1) := by decide +kernel
theorem dL_716 : decode code 716 = .ok (.aload_n 1, 1) := by decide +kernel
theorem dL_717 : decode code 717 = .ok (.aload_n 0, 1) := by decide +kernel
theorem dL_718 : decode code 718 = .ok (.iload_n 3, 1) := by decide +kernel
theorem dL_719 : decode code 719 = .ok (.iconst 1, 1) := by decide +kernel
theorem dL_720 : decode code 720 = .ok (.iadd, 1) := by decide +kernel
theorem dL_721 : decode code 721 = .ok (.iaload, 1) := by decide +kernel
theorem dL_722 : decode code 722 = .ok (.invokevirtual 106, 3) := by decide +kernel
theorem dL_725 : decode code 725 = .ok (.aload_n 2, 1) := by decide +kernel
theorem dL_726 : decode code 726 = .ok (.aload_n 0, 1) := by decide +kernel
theorem dL_727 : decode code 727 = .ok (.iload_n 3, 1) := by decide +kernel
theorem dL_728 : decode code 728 = .ok (.iconst 1, 1) := by decide +kernel
theorem dL_729 : decode code 729 = .ok (.iadd, 1) := by decide +kernel
theorem dL_730 : decode code 730 = .ok (.iaload, 1) := by decide +kernel
theorem dL_731 : decode code 731 = .ok (.invokevirtual 109, 3) := by decide +kernel
theorem dL_734 : decode code 734 = .ok (.if_icmp .eq 19, 3) := by decide +kernel
theorem dL_737 : decode code 737 = .ok (.iconst 0, 1) := by decide +kernel
theorem dL_738 : decode code 738 = .ok (.ireturn, 1) := by decide +kernel
theorem dL_739 : decode code 739 = .ok (.aload_n 1, 1) := by decide +kernel
theorem dL_740 : decode code 740 = .ok (.invokevirtual 110, 3) := by decide +kernel
theorem dL_743 : decode code 743 = .ok (.aload_n 2, 1) := by decide +kernel
theorem dL_744 : decode code 744 = .ok (.invokevirtual 114, 3) := by decide +kernel
theorem dL_747 : decode code 747 = .ok (.lcmp, 1) := by decide +kernel
theorem dL_748 : decode code 748 = .ok (.ifCond .eq 5, 3) := by decide +kernel
theorem dL_751 : decode code 751 = .ok (.iconst 0, 1) := by decide +kernel
theorem dL_752 : decode code 752 = .ok (.ireturn, 1) := by decide +kernel
theorem dL_753 : decode code 753 = .ok (.iinc 3 4, 3) := by decide +kernel
theorem dL_756 : decode code 756 = .ok (.goto (-738), 3) := by decide +kernel
theorem dL_759 : decode code 759 = .ok (.iconst 1, 1) := by decide +kernel
theorem dL_760 : decode code 760 = .ok (.ireturn, 1) := by decide +kernel
theorem lc_law_13 : x_VL R_law 13 yX6_letter m_X6_letter 1 := ⟨⟨(xT_of 280 (by decide +kernel) (by decide +kernel)), (xT_of 281 (by decide +kernel) (by decide +kernel)), (xT_of 282 (by decide +kernel) (by decide +kernel)), (xT_of 90 (by decide +kernel) (by decide +kernel)), (xT_of 283 (by decide +kernel) (by decide +kernel))⟩, ⟨by decide +kernel, by decide +kernel, by decide +kernel⟩, by decide⟩
theorem lc_law_17 : x_VL R_law 17 yX7_letter m_X7_letter 1 := ⟨⟨(xT_of 828 (by decide +kernel) (by decide +kernel)), (xT_of 829 (by decide +kernel) (by decide +kernel)), (xT_of 830 (by decide +kernel) (by decide +kernel)), (xT_of 97 (by decide +kernel) (by decide +kernel)), (xT_of 831 (by decide +kernel) (by decide +kernel))⟩, ⟨by decide +kernel, by decide +kernel, by decide +kernel⟩, by decide⟩
theorem lc_law_18 : x_VL R_law 18 yX6_blank m_X6_blank 0 := ⟨⟨(xT_of 288 (by decide +kernel) (by decide +kernel)), (xT_of 289 (by decide +kernel) (by decide +kernel)), (xT_of 290 (by decide +kernel) (by decide +kernel)), (xT_of 90 (by decide +kernel) (by decide +kernel)), (xT_of 291 (by decide +kernel) (by decide +kernel))⟩, ⟨by decide +kernel, by decide +kernel, by decide +kernel⟩, by decide⟩
theorem lc_law_22 : x_VL R_law 22 yX7_blank m_X7_blank 0 := ⟨⟨(xT_of 835 (by decide +kernel) (by decide +kernel)), (xT_of 836 (by decide +kernel) (by decide +kernel)), (xT_of 837 (by decide +kernel) (by decide +kernel)), (xT_of 97 (by decide +kernel) (by decide +kernel)), (xT_of 838 (by decide +kernel) (by decide +kernel))⟩, ⟨by decide +kernel, by decide +kernel, by decide +kernel⟩, by decide⟩
theorem lc_law_23 : x_VL R_law 23 yX6_fault m_X6_fault 1 := ⟨⟨(xT_of 292 (by decide +kernel) (by decide +kernel)), (xT_of 293 (by decide +kernel) (by decide +kernel)), (xT_of 294 (by decide +kernel) (by decide +kernel)), (xT_of 90 (by decide +kernel) (by decide +kernel)), (xT_of 295 (by decide +kernel) (by decide +kernel))⟩, ⟨by decide +kernel, by decide +kernel, by decide +kernel⟩, by decide⟩
theorem lc_law_26 : x_VL R_law 26 yX7_fault m_X7_fault 1 := ⟨⟨(xT_of 839 (by decide +kernel) (by decide +kernel)), (xT_of 840 (by decide +kernel) (by decide +kernel)), (xT_of 841 (by decide +kernel) (by decide +kernel)), (xT_of 97 (by decide +kernel) (by decide +kernel)), (xT_of 842 (by decide +kernel) (by decide +kernel))⟩, ⟨by decide +kernel, by decide +kernel, by decide +kernel⟩, by decide⟩
theorem lc_law_27 : x_VL R_law 27 yX6_channel m_X6_channel 0 := ⟨⟨(xT_of 385 (by decide +kernel) (by decide +kernel)), (xT_of 386 (by decide +kernel) (by decide +kernel)), (xT_of 387 (by decide +kernel) (by decide +kernel)), (xT_of 90 (by decide +kernel) (by decide +kernel)), (xT_of 388 (by decide +kernel) (by decide +kernel))⟩, ⟨by decide +kernel, by decide +kernel, by decide +kernel⟩, by decide⟩
theorem lc_law_30 : x_VL R_law 30 yX7_channel m_X7_channel 0 := ⟨⟨(xT_of 868 (by decide +kernel) (by decide +kernel)), (xT_of 869 (by decide +kernel) (by decide +kernel)), (xT_of 870 (by decide +kernel) (by decide +kernel)), (xT_of 97 (by decide +kernel) (by decide +kernel)), (xT_of 871 (by decide +kernel) (by decide +kernel))⟩, ⟨by decide +kernel, by decide +kernel, by decide +kernel⟩, by decide⟩
theorem lc_law_31 : x_VL R_law 31 yX6_say m_X6_say 0 := ⟨⟨(xT_of 503 (by decide +kernel) (by decide +kernel)), (xT_of 504 (by decide +kernel) (by decide +kernel)), (xT_of 505 (by decide +kernel) (by decide +kernel)), (xT_of 90 (by decide +kernel) (by decide +kernel)), (xT_of 506 (by decide +kernel) (by decide +kernel))⟩, ⟨by decide +kernel, by decide +kernel, by decide +kernel⟩, by decide⟩
theorem lc_law_34 : x_VL R_law 34 yX7_say m_X7_say 0 := ⟨⟨(xT_of 941 (by decide +kernel) (by decide +kernel)), (xT_of 942 (by decide +kernel) (by decide +kernel)), (xT_of 943 (by decide +kernel) (by decide +kernel)), (xT_of 97 (by decide +kernel) (by decide +kernel)), (xT_of 944 (by decide +kernel) (by decide +kernel))⟩, ⟨by decide +kernel, by decide +kernel, by decide +kernel⟩, by decide⟩
theorem lc_law_35 : x_VL R_law 35 yX6_ink m_X6_ink 1 := ⟨⟨(xT_of 598 (by decide +kernel) (by decide +kernel)), (xT_of 599 (by decide +kernel) (by decide +kernel)), (xT_of 600 (by decide +kernel) (by decide +kernel)), (xT_of 90 (by decide +kernel) (by decide +kernel)), (xT_of 601 (by decide +kernel) (by decide +kernel))⟩, ⟨by decide +kernel, by decide +kernel, by decide +kernel⟩, by decide⟩
theorem lc_law_38 : x_VL R_law 38 yX7_ink m_X7_ink 1 := ⟨⟨(xT_of 1017 (by decide +kernel) (by decide +kernel)), (xT_of 1018 (by decide +kernel) (by decide +kernel)), (xT_of 1019 (by decide +kernel) (by decide +kernel)), (xT_of 97 (by decide +kernel) (by decide +kernel)), (xT_of 1020 (by decide +kernel) (by decide +kernel))⟩, ⟨by decide +kernel, by decide +kernel, by decide +kernel⟩, by decide⟩
theorem lc_law_39 : x_VL R_law 39 yX6_about m_X6_about 1 := ⟨⟨(xT_of 612 (by decide +kernel) (by decide +kernel)), (xT_of 613 (by decide +kernel) (by decide +kernel)), (xT_of 614 (by decide +kernel) (by decide +kernel)), (xT_of 90 (by decide +kernel) (by decide +kernel)), (xT_of 615 (by decide +kernel) (by decide +kernel))⟩, ⟨by decide +kernel, by decide +kernel, by decide +kernel⟩, by decide⟩
theorem lc_law_42 : x_VL R_law 42 yX7_about m_X7_about 1 := ⟨⟨(xT_of 1036 (by decide +kernel) (by decide +kernel)), (xT_of 1037 (by decide +kernel) (by decide +kernel)), (xT_of 1038 (by decide +kernel) (by decide +kernel)), (xT_of 97 (by decide +kernel) (by decide +kernel)), (xT_of 1039 (by decide +kernel) (by decide +kernel))⟩, ⟨by decide +kernel, by decide +kernel, by decide +kernel⟩, by decide⟩
theorem lc_law_43 : x_VL R_law 43 yX6_pin m_X6_pin 2 := ⟨⟨(xT_of 651 (by decide +kernel) (by decide +kernel)), (xT_of 652 (by decide +kernel) (by decide +kernel)), (xT_of 653 (by decide +kernel) (by decide +kernel)), (xT_of 90 (by decide +kernel) (by decide +kernel)), (xT_of 654 (by decide +kernel) (by decide +kernel))⟩, ⟨by decide +kernel, by decide +kernel, by decide +kernel⟩, by decide⟩
theorem lc_law_47 : x_VL R_law 47 yX7_pin m_X7_pin 2 := ⟨⟨(xT_of 1092 (by decide +kernel) (by decide +kernel)), (xT_of 1093 (by decide +kernel) (by decide +kernel)), (xT_of 1094 (by decide +kernel) (by decide +kernel)), (xT_of 97 (by decide +kernel) (by decide +kernel)), (xT_of 1095 (by decide +kernel) (by decide +kernel))⟩, ⟨by decide +kernel, by decide +kernel, by decide +kernel⟩, by decide⟩
theorem lc_law_48 : x_VL R_law 48 yX6_net m_X6_net 2 := ⟨⟨(xT_of 658 (by decide +kernel) (by decide +kernel)), (xT_of 659 (by decide +kernel) (by decide +kernel)), (xT_of 660 (by decide +kernel) (by decide +kernel)), (xT_of 90 (by decide +kernel) (by decide +kernel)), (xT_of 661 (by decide +kernel) (by decide +kernel))⟩, ⟨by decide +kernel, by decide +kernel, by decide +kernel⟩, by decide⟩
theorem lc_law_51 : x_VL R_law 51 yX7_net m_X7_net 2 := ⟨⟨(xT_of 1096 (by decide +kernel) (by decide +kernel)), (xT_of 1097 (by decide +kernel) (by decide +kernel)), (xT_of 1098 (by decide +kernel) (by decide +kernel)), (xT_of 97 (by decide +kernel) (by decide +kernel)), (xT_of 1099 (by decide +kernel) (by decide +kernel))⟩, ⟨by decide +kernel, by decide +kernel, by decide +kernel⟩, by decide⟩
theorem lc_law_52 : x_VL R_law 52 yX6_segment m_X6_segment 2 := ⟨⟨(xT_of 672 (by decide +kernel) (by decide +kernel)), (xT_of 673 (by decide +kernel) (by decide +kernel)), (xT_of 674 (by decide +kernel) (by decide +kernel)), (xT_of 90 (by decide +kernel) (by decide +kernel)), (xT_of 675 (by decide +kernel) (by decide +kernel))⟩, ⟨by decide +kernel, by decide +kernel, by decide +kernel⟩, by decide⟩
theorem lc_law_55 : x_VL R_law 55 yX7_segment m_X7_segment 2 := ⟨⟨(xT_of 1124 (by decide +kernel) (by decide +kernel)), (xT_of 1125 (by decide +kernel) (by decide +kernel)), (xT_of 1126 (by decide +kernel) (by decide +kernel)), (xT_of 97 (by decide +kernel) (by decide +kernel)), (xT_of 1127 (by decide +kernel) (by decide +kernel))⟩, ⟨by decide +kernel, by decide +kernel, by decide +kernel⟩, by decide⟩
theorem lc_law_56 : x_VL R_law 56 yX6_above m_X6_above 2 := ⟨⟨(xT_of 680 (by decide +kernel) (by decide +kernel)), (xT_of 681 (by decide +kernel) (by decide +kernel)), (xT_of 682 (by decide +kernel) (by decide +kernel)), (xT_of 90 (by decide +kernel) (by decide +kernel)), (xT_of 683 (by decide +kernel) (by decide +kernel))⟩, ⟨by decide +kernel, by decide +kernel, by decide +kernel⟩, by decide⟩
theorem lc_law_59 : x_VL R_law 59 yX7_above m_X7_above 2 := ⟨⟨(xT_of 1140 (by decide +kernel) (by decide +kernel)), (xT_of 1141 (by decide +kernel) (by decide +kernel)), (xT_of 1142 (by decide +kernel) (by decide +kernel)), (xT_of 97 (by decide +kernel) (by decide +kernel)), (xT_of 1143 (by decide +kernel) (by decide +kernel))⟩, ⟨by decide +kernel, by decide +kernel, by decide +kernel⟩, by decide⟩
theorem lc_law_60 : x_VL R_law 60 yX6_may m_X6_may 2 := ⟨⟨(xT_of 685 (by decide +kernel) (by decide +kernel)), (xT_of 686 (by decide +kernel) (by decide +kernel)), (xT_of 687 (by decide +kernel) (by decide +kernel)), (xT_of 90 (by decide +kernel) (by decide +kernel)), (xT_of 688 (by decide +kernel) (by decide +kernel))⟩, ⟨by decide +kernel, by decide +kernel, by decide +kernel⟩, by decide⟩
theorem lc_law_63 : x_VL R_law 63 yX7_may m_X7_may 2 := ⟨⟨(xT_of 1144 (by decide +kernel) (by decide +kernel)), (xT_of 1145 (by decide +kernel) (by decide +kernel)), (xT_of 1146 (by decide +kernel) (by decide +kernel)), (xT_of 97 (by decide +kernel) (by decide +kernel)), (xT_of 1147 (by decide +kernel) (by decide +kernel))⟩, ⟨by decide +kernel, by decide +kernel, by decide +kernel⟩, by decide⟩
theorem lc_law_64 : x_VL R_law 64 yX6_ring m_X6_ring 1 := ⟨⟨(xT_of 691 (by decide +kernel) (by decide +kernel)), (xT_of 692 (by decide +kernel) (by decide +kernel)), (xT_of 693 (by decide +kernel) (by decide +kernel)), (xT_of 90 (by decide +kernel) (by decide +kernel)), (xT_of 694 (by decide +kernel) (by decide +kernel))⟩, ⟨by decide +kernel, by decide +kernel, by decide +kernel⟩, by decide⟩
theorem lc_law_67 : x_VL R_law 67 yX7_ring m_X7_ring 1 := ⟨⟨(xT_of 1152 (by decide +kernel) (by decide +kernel)), (xT_of 1153 (by decide +kernel) (by decide +kernel)), (xT_of 1154 (by decide +kernel) (by decide +kernel)), (xT_of 97 (by decide +kernel) (by decide +kernel)), (xT_of 1155 (by decide +kernel) (by decide +kernel))⟩, ⟨by decide +kernel, by decide +kernel, by decide +kernel⟩, by decide⟩
theorem lc_law_68 : x_VL R_law 68 yX6_zone m_X6_zone 1 := ⟨⟨(xT_of 695 (by decide +kernel) (by decide +kernel)), (xT_of 696 (by decide +kernel) (by decide +kernel)), (xT_of 697 (by decide +kernel) (by decide +kernel)), (xT_of 90 (by decide +kernel) (by decide +kernel)), (xT_of 698 (by decide +kernel) (by decide +kernel))⟩, ⟨by decide +kernel, by decide +kernel, by decide +kernel⟩, by decide⟩
theorem lc_law_71 : x_VL R_law 71 yX7_zone m_X7_zone 1 := ⟨⟨(xT_of 1156 (by decide +kernel) (by decide +kernel)), (xT_of 1157 (by decide +kernel) (by decide +kernel)), (xT_of 1158 (by decide +kernel) (by decide +kernel)), (xT_of 97 (by decide +kernel) (by decide +kernel)), (xT_of 1159 (by decide +kernel) (by decide +kernel))⟩, ⟨by decide +kernel, by decide +kernel, by decide +kernel⟩, by decide⟩
theorem lc_law_72 : x_VL R_law 72 yX6_put m_X6_put 3 := ⟨⟨(xT_of 699 (by decide +kernel) (by decide +kernel)), (xT_of 700 (by decide +kernel) (by decide +kernel)), (xT_of 701 (by decide +kernel) (by decide +kernel)), (xT_of 90 (by decide +kernel) (by decide +kernel)), (xT_of 702 (by decide +kernel) (by decide +kernel))⟩, ⟨by decide +kernel, by decide +kernel, by decide +kernel⟩, by decide⟩
theorem lc_law_76 : x_VL R_law 76 yX7_put m_X7_put 3 := ⟨⟨(xT_of 1160 (by decide +kernel) (by decide +kernel)), (xT_of 1161 (by decide +kernel) (by decide +kernel)), (xT_of 1162 (by decide +kernel) (by decide +kernel)), (xT_of 97 (by decide +kernel) (by decide +kernel)), (xT_of 1163 (by decide +kernel) (by decide +kernel))⟩, ⟨by decide +kernel, by decide +kernel, by decide +kernel⟩, by decide⟩
theorem lc_law_77 : x_VL R_law 77 yX6_turn m_X6_turn 1 := ⟨⟨(xT_of 703 (by decide +kernel) (by decide +kernel)), (xT_of 587 (by decide +kernel) (by decide +kernel)), (xT_of 588 (by decide +kernel) (by decide +kernel)), (xT_of 90 (by decide +kernel) (by decide +kernel)), (xT_of 589 (by decide +kernel) (by decide +kernel))⟩, ⟨by decide +kernel, by decide +kernel, by decide +kernel⟩, by decide⟩
theorem lc_law_80 : x_VL R_law 80 yX7_turn m_X7_turn 1 := ⟨⟨(xT_of 1164 (by decide +kernel) (by decide +kernel)), (xT_of 1010 (by decide +kernel) (by decide +kernel)), (xT_of 1011 (by decide +kernel) (by decide +kernel)), (xT_of 97 (by decide +kernel) (by decide +kernel)), (xT_of 1012 (by decide +kernel) (by decide +kernel))⟩, ⟨by decide +kernel, by decide +kernel, by decide +kernel⟩, by decide⟩
theorem lc_law_81 : x_VL R_law 81 yX6_cut m_X6_cut 2 := ⟨⟨(xT_of 704 (by decide +kernel) (by decide +kernel)), (xT_of 576 (by decide +kernel) (by decide +kernel)), (xT_of 577 (by decide +kernel) (by decide +kernel)), (xT_of 90 (by decide +kernel) (by decide +kernel)), (xT_of 578 (by decide +kernel) (by decide +kernel))⟩, ⟨by decide +kernel, by decide +kernel, by decide +kernel⟩, by decide⟩
theorem lc_law_85 : x_VL R_law 85 yX7_cut m_X7_cut 2 := ⟨⟨(xT_of 1165 (by decide +kernel) (by decide +kernel)), (xT_of 1006 (by decide +kernel) (by decide +kernel)), (xT_of 1007 (by decide +kernel) (by decide +kernel)), (xT_of 97 (by decide +kernel) (by decide +kernel)), (xT_of 1008 (by decide +kernel) (by decide +kernel))⟩, ⟨by decide +kernel, by decide +kernel, by decide +kernel⟩, by decide⟩
theorem lc_law_86 : x_VL R_law 86 yX6_set m_X6_set 2 := ⟨⟨(xT_of 705 (by decide +kernel) (by decide +kernel)), (xT_of 706 (by decide +kernel) (by decide +kernel)), (xT_of 707 (by decide +kernel) (by decide +kernel)), (xT_of 90 (by decide +kernel) (by decide +kernel)), (xT_of 708 (by decide +kernel) (by decide +kernel))⟩, ⟨by decide +kernel, by decide +kernel, by decide +kernel⟩, by decide⟩
theorem lc_law_89 : x_VL R_law 89 yX7_set m_X7_set 2 := ⟨⟨(xT_of 1166 (by decide +kernel) (by decide +kernel)), (xT_of 1167 (by decide +kernel) (by decide +kernel)), (xT_of 1168 (by decide +kernel) (by decide +kernel)), (xT_of 97 (by decide +kernel) (by decide +kernel)), (xT_of 1169 (by decide +kernel) (by decide +kernel))⟩, ⟨by decide +kernel, by decide +kernel, by decide +kernel⟩, by decide⟩
theorem lc_law_90 : x_VL R_law 90 yX6_clear m_X6_clear 0 := ⟨⟨(xT_of 709 (by decide +kernel) (by decide +kernel)), (xT_of 568 (by decide +kernel) (by decide +kernel)), (xT_of 569 (by decide +kernel) (by decide +kernel)), (xT_of 90 (by decide +kernel) (by decide +kernel)), (xT_of 570 (by decide +kernel) (by decide +kernel))⟩, ⟨by decide +kernel, by decide +kernel, by decide +kernel⟩, by decide⟩
theorem lc_law_93 : x_VL R_law 93 yX7_clear m_X7_clear 0 := ⟨⟨(xT_of 1170 (by decide +kernel) (by decide +kernel)), (xT_of 1002 (by decide +kernel) (by decide +kernel)), (xT_of 1003 (by decide +kernel) (by decide +kernel)), (xT_of 97 (by decide +kernel) (by decide +kernel)), (xT_of 1004 (by decide +kernel) (by decide +kernel))⟩, ⟨by decide +kernel, by decide +kernel, by decide +kernel⟩, by decide⟩
theorem lc_law_94 : x_VL R_law 94 yX6_pack m_X6_pack 0 := ⟨⟨(xT_of 710 (by decide +kernel) (by decide +kernel)), (xT_of 516 (by decide +kernel) (by decide +kernel)), (xT_of 517 (by decide +kernel) (by decide +kernel)), (xT_of 90 (by decide +kernel) (by decide +kernel)), (xT_of 518 (by decide +kernel) (by decide +kernel))⟩, ⟨by decide +kernel, by decide +kernel, by decide +kernel⟩, by decide⟩
theorem lc_law_97 : x_VL R_law 97 yX7_pack m_X7_pack 0 := ⟨⟨(xT_of 1171 (by decide +kernel) (by decide +kernel)), (xT_of 954 (by decide +kernel) (by decide +kernel)), (xT_of 955 (by decide +kernel) (by decide +kernel)), (xT_of 97 (by decide +kernel) (by decide +kernel)), (xT_of 956 (by decide +kernel) (by decide +kernel))⟩, ⟨by decide +kernel, by decide +kernel, by decide +kernel⟩, by decide⟩
theorem lc_law_98 : x_VL R_law 98 yX6_best m_X6_best 0 := ⟨⟨(xT_of 711 (by decide +kernel) (by decide +kernel)), (xT_of 551 (by decide +kernel) (by decide +kernel)), (xT_of 552 (by decide +kernel) (by decide +kernel)), (xT_of 90 (by decide +kernel) (by decide +kernel)), (xT_of 553 (by decide +kernel) (by decide +kernel))⟩, ⟨by decide +kernel, by decide +kernel, by decide +kernel⟩, by decide⟩
theorem lc_law_101 : x_VL R_law 101 yX7_best m_X7_best 0 := ⟨⟨(xT_of 1172 (by decide +kernel) (by decide +kernel)), (xT_of 986 (by decide +kernel) (by decide +kernel)), (xT_of 987 (by decide +kernel) (by decide +kernel)), (xT_of 97 (by decide +kernel) (by decide +kernel)), (xT_of 988 (by decide +kernel) (by decide +kernel))⟩, ⟨by decide +kernel, by decide +kernel, by decide +kernel⟩, by decide⟩
theorem lc_law_102 : x_VL R_law 102 yX6_cell m_X6_cell 3 := ⟨⟨(xT_of 712 (by decide +kernel) (by decide +kernel)), (xT_of 713 (by decide +kernel) (by decide +kernel)), (xT_of 714 (by decide +kernel) (by decide +kernel)), (xT_of 90 (by decide +kernel) (by decide +kernel)), (xT_of 715 (by decide +kernel) (by decide +kernel))⟩, ⟨by decide +kernel, by decide +kernel, by decide +kernel⟩, by decide⟩
theorem lc_law_105 : x_VL R_law 105 yX7_cell m_X7_cell 3 := ⟨⟨(xT_of 1173 (by decide +kernel) (by decide +kernel)), (xT_of 1174 (by decide +kernel) (by decide +kernel)), (xT_of 1175 (by decide +kernel) (by decide +kernel)), (xT_of 97 (by decide +kernel) (by decide +kernel)), (xT_of 1176 (by decide +kernel) (by decide +kernel))⟩, ⟨by decide +kernel, by decide +kernel, by decide +kernel⟩, by decide⟩
theorem lc_law_106 : x_VL R_law 106 yX6_count m_X6_count 1 := ⟨⟨(xT_of 717 (by decide +kernel) (by decide +kernel)), (xT_of 718 (by decide +kernel) (by decide +kernel)), (xT_of 719 (by decide +kernel) (by decide +kernel)), (xT_of 90 (by decide +kernel) (by decide +kernel)), (xT_of 720 (by decide +kernel) (by decide +kernel))⟩, ⟨by decide +kernel, by decide +kernel, by decide +kernel⟩, by decide⟩
theorem lc_law_109 : x_VL R_law 109 yX7_count m_X7_count 1 := ⟨⟨(xT_of 1177 (by decide +kernel) (by decide +kernel)), (xT_of 1178 (by decide +kernel) (by decide +kernel)), (xT_of 1179 (by decide +kernel) (by decide +kernel)), (xT_of 97 (by decide +kernel) (by decide +kernel)), (xT_of 1180 (by decide +kernel) (by decide +kernel))⟩, ⟨by decide +kernel, by decide +kernel, by decide +kernel⟩, by decide⟩
theorem lc_law_110 : x_VL R_law 110 yX6_digest m_X6_digest 0 := ⟨⟨(xT_of 730 (by decide +kernel) (by decide +kernel)), (xT_of 731 (by decide +kernel) (by decide +kernel)), (xT_of 732 (by decide +kernel) (by decide +kernel)), (xT_of 90 (by decide +kernel) (by decide +kernel)), (xT_of 733 (by decide +kernel) (by decide +kernel))⟩, ⟨by decide +kernel, by decide +kernel, by decide +kernel⟩, by decide⟩
theorem lc_law_114 : x_VL R_law 114 yX7_digest m_X7_digest 0 := ⟨⟨(xT_of 1189 (by decide +kernel) (by decide +kernel)), (xT_of 1190 (by decide +kernel) (by decide +kernel)), (xT_of 1191 (by decide +kernel) (by decide +kernel)), (xT_of 97 (by decide +kernel) (by decide +kernel)), (xT_of 1192 (by decide +kernel) (by decide +kernel))⟩, ⟨by decide +kernel, by decide +kernel, by decide +kernel⟩, by decide⟩
theorem lc_law_9 : Cond.methodLink R_law 9 yX6_init ∈ xT := (xT_of 106 (by decide +kernel) (by decide +kernel))
theorem lc_law_12 : Cond.methodLink R_law 12 yX7_init ∈ xT := (xT_of 760 (by decide +kernel) (by decide +kernel))
