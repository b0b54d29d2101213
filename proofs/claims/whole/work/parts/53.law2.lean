/-! ===== the law's instructions ===== -/
theorem c_191_0 : zcode 191 0 = some (.new 7, 3, 7, 0, 1013) := by decide +kernel
theorem c_191_3 : zcode 191 3 = some (.dup, 1, 0, 0, 0) := by decide +kernel
theorem c_191_4 : zcode 191 4 = some (.invokespecial 9, 3, 65, 0, 1015) := by decide +kernel
theorem c_191_7 : zcode 191 7 = some (.astore_n 1, 1, 0, 0, 0) := by decide +kernel
theorem c_191_8 : zcode 191 8 = some (.new 10, 3, 8, 0, 3239) := by decide +kernel
theorem c_191_11 : zcode 191 11 = some (.dup, 1, 0, 0, 0) := by decide +kernel
theorem c_191_12 : zcode 191 12 = some (.invokespecial 12, 3, 116, 0, 4001) := by decide +kernel
theorem c_191_15 : zcode 191 15 = some (.astore_n 2, 1, 0, 0, 0) := by decide +kernel
theorem c_191_16 : zcode 191 16 = some (.iconst 0, 1, 0, 0, 0) := by decide +kernel
theorem c_191_17 : zcode 191 17 = some (.istore_n 3, 1, 0, 0, 0) := by decide +kernel
theorem c_191_18 : zcode 191 18 = some (.iload_n 3, 1, 0, 0, 0) := by decide +kernel
theorem c_191_19 : zcode 191 19 = some (.aload_n 0, 1, 0, 0, 0) := by decide +kernel
theorem c_191_20 : zcode 191 20 = some (.arraylength, 1, 0, 0, 0) := by decide +kernel
theorem c_191_21 : zcode 191 21 = some (.iconst 5, 1, 0, 0, 0) := by decide +kernel
theorem c_191_22 : zcode 191 22 = some (.isub, 1, 0, 0, 0) := by decide +kernel
theorem c_191_23 : zcode 191 23 = some (.if_icmp .gt 1059, 3, 1082, 0, 0) := by decide +kernel
theorem c_191_26 : zcode 191 26 = some (.aload_n 0, 1, 0, 0, 0) := by decide +kernel
theorem c_191_27 : zcode 191 27 = some (.iload_n 3, 1, 0, 0, 0) := by decide +kernel
theorem c_191_28 : zcode 191 28 = some (.iaload, 1, 0, 0, 0) := by decide +kernel
theorem c_191_29 : zcode 191 29 = some (.bipush 31, 2, 0, 0, 0) := by decide +kernel
theorem c_191_31 : zcode 191 31 = some (.iand, 1, 0, 0, 0) := by decide +kernel
theorem c_191_32 : zcode 191 32 = some (.tableswitch 1044 0 30 #[140, 163, 176, 189, 202, 225, 258, 291, 324, 347, 400, 433, 456, 469, 492, 505, 544, 583, 606, 629, 668, 701, 750, 803, 816, 829, 872, 921, 975, 998, 1021], 140, 0, 0, 0) := by decide +kernel
theorem c_191_172 : zcode 191 172 = some (.aload_n 1, 1, 0, 0, 0) := by decide +kernel
theorem c_191_173 : zcode 191 173 = some (.aload_n 0, 1, 0, 0, 0) := by decide +kernel
theorem c_191_174 : zcode 191 174 = some (.iload_n 3, 1, 0, 0, 0) := by decide +kernel
theorem c_191_175 : zcode 191 175 = some (.iconst 1, 1, 0, 0, 0) := by decide +kernel
theorem c_191_176 : zcode 191 176 = some (.iadd, 1, 0, 0, 0) := by decide +kernel
theorem c_191_177 : zcode 191 177 = some (.iaload, 1, 0, 0, 0) := by decide +kernel
theorem c_191_178 : zcode 191 178 = some (.invokevirtual 13, 3, 66, 0, 1230) := by decide +kernel
theorem c_191_181 : zcode 191 181 = some (.aload_n 2, 1, 0, 0, 0) := by decide +kernel
theorem c_191_182 : zcode 191 182 = some (.aload_n 0, 1, 0, 0, 0) := by decide +kernel
theorem c_191_183 : zcode 191 183 = some (.iload_n 3, 1, 0, 0, 0) := by decide +kernel
theorem c_191_184 : zcode 191 184 = some (.iconst 1, 1, 0, 0, 0) := by decide +kernel
theorem c_191_185 : zcode 191 185 = some (.iadd, 1, 0, 0, 0) := by decide +kernel
theorem c_191_186 : zcode 191 186 = some (.iaload, 1, 0, 0, 0) := by decide +kernel
theorem c_191_187 : zcode 191 187 = some (.invokevirtual 17, 3, 124, 0, 4130) := by decide +kernel
theorem c_191_190 : zcode 191 190 = some (.if_icmp .eq 886, 3, 1076, 0, 0) := by decide +kernel
theorem c_191_195 : zcode 191 195 = some (.aload_n 1, 1, 0, 0, 0) := by decide +kernel
theorem c_191_196 : zcode 191 196 = some (.invokevirtual 18, 3, 67, 0, 2010) := by decide +kernel
theorem c_191_199 : zcode 191 199 = some (.aload_n 2, 1, 0, 0, 0) := by decide +kernel
theorem c_191_200 : zcode 191 200 = some (.invokevirtual 22, 3, 125, 0, 4138) := by decide +kernel
theorem c_191_203 : zcode 191 203 = some (.if_icmp .eq 873, 3, 1076, 0, 0) := by decide +kernel
theorem c_191_208 : zcode 191 208 = some (.aload_n 1, 1, 0, 0, 0) := by decide +kernel
theorem c_191_209 : zcode 191 209 = some (.invokevirtual 23, 3, 68, 0, 2018) := by decide +kernel
theorem c_191_212 : zcode 191 212 = some (.aload_n 2, 1, 0, 0, 0) := by decide +kernel
theorem c_191_213 : zcode 191 213 = some (.invokevirtual 26, 3, 132, 0, 4142) := by decide +kernel
theorem c_191_216 : zcode 191 216 = some (.if_icmp .eq 860, 3, 1076, 0, 0) := by decide +kernel
theorem c_191_221 : zcode 191 221 = some (.aload_n 1, 1, 0, 0, 0) := by decide +kernel
theorem c_191_222 : zcode 191 222 = some (.invokevirtual 27, 3, 69, 0, 2043) := by decide +kernel
theorem c_191_225 : zcode 191 225 = some (.aload_n 2, 1, 0, 0, 0) := by decide +kernel
theorem c_191_226 : zcode 191 226 = some (.invokevirtual 30, 3, 134, 0, 4170) := by decide +kernel
theorem c_191_229 : zcode 191 229 = some (.if_icmp .eq 847, 3, 1076, 0, 0) := by decide +kernel
theorem c_191_234 : zcode 191 234 = some (.aload_n 1, 1, 0, 0, 0) := by decide +kernel
theorem c_191_235 : zcode 191 235 = some (.aload_n 0, 1, 0, 0, 0) := by decide +kernel
theorem c_191_236 : zcode 191 236 = some (.iload_n 3, 1, 0, 0, 0) := by decide +kernel
theorem c_191_237 : zcode 191 237 = some (.iconst 1, 1, 0, 0, 0) := by decide +kernel
theorem c_191_238 : zcode 191 238 = some (.iadd, 1, 0, 0, 0) := by decide +kernel
theorem c_191_239 : zcode 191 239 = some (.iaload, 1, 0, 0, 0) := by decide +kernel
theorem c_191_240 : zcode 191 240 = some (.invokevirtual 31, 3, 70, 0, 2068) := by decide +kernel
theorem c_191_243 : zcode 191 243 = some (.aload_n 2, 1, 0, 0, 0) := by decide +kernel
theorem c_191_244 : zcode 191 244 = some (.aload_n 0, 1, 0, 0, 0) := by decide +kernel
theorem c_191_245 : zcode 191 245 = some (.iload_n 3, 1, 0, 0, 0) := by decide +kernel
theorem c_191_246 : zcode 191 246 = some (.iconst 1, 1, 0, 0, 0) := by decide +kernel
theorem c_191_247 : zcode 191 247 = some (.iadd, 1, 0, 0, 0) := by decide +kernel
theorem c_191_248 : zcode 191 248 = some (.iaload, 1, 0, 0, 0) := by decide +kernel
theorem c_191_249 : zcode 191 249 = some (.invokevirtual 34, 3, 141, 0, 4177) := by decide +kernel
theorem c_191_252 : zcode 191 252 = some (.if_icmp .eq 824, 3, 1076, 0, 0) := by decide +kernel
theorem c_191_257 : zcode 191 257 = some (.aload_n 1, 1, 0, 0, 0) := by decide +kernel
theorem c_191_258 : zcode 191 258 = some (.aload_n 0, 1, 0, 0, 0) := by decide +kernel
theorem c_191_259 : zcode 191 259 = some (.iload_n 3, 1, 0, 0, 0) := by decide +kernel
theorem c_191_260 : zcode 191 260 = some (.iconst 1, 1, 0, 0, 0) := by decide +kernel
theorem c_191_261 : zcode 191 261 = some (.iadd, 1, 0, 0, 0) := by decide +kernel
theorem c_191_262 : zcode 191 262 = some (.iaload, 1, 0, 0, 0) := by decide +kernel
theorem c_191_263 : zcode 191 263 = some (.aload_n 0, 1, 0, 0, 0) := by decide +kernel
theorem c_191_264 : zcode 191 264 = some (.iload_n 3, 1, 0, 0, 0) := by decide +kernel
theorem c_191_265 : zcode 191 265 = some (.iconst 2, 1, 0, 0, 0) := by decide +kernel
theorem c_191_266 : zcode 191 266 = some (.iadd, 1, 0, 0, 0) := by decide +kernel
theorem c_191_267 : zcode 191 267 = some (.iaload, 1, 0, 0, 0) := by decide +kernel
theorem c_191_268 : zcode 191 268 = some (.invokevirtual 35, 3, 72, 0, 2114) := by decide +kernel
theorem c_191_271 : zcode 191 271 = some (.aload_n 2, 1, 0, 0, 0) := by decide +kernel
theorem c_191_272 : zcode 191 272 = some (.aload_n 0, 1, 0, 0, 0) := by decide +kernel
theorem c_191_273 : zcode 191 273 = some (.iload_n 3, 1, 0, 0, 0) := by decide +kernel
theorem c_191_274 : zcode 191 274 = some (.iconst 1, 1, 0, 0, 0) := by decide +kernel
theorem c_191_275 : zcode 191 275 = some (.iadd, 1, 0, 0, 0) := by decide +kernel
theorem c_191_276 : zcode 191 276 = some (.iaload, 1, 0, 0, 0) := by decide +kernel
theorem c_191_277 : zcode 191 277 = some (.aload_n 0, 1, 0, 0, 0) := by decide +kernel
theorem c_191_278 : zcode 191 278 = some (.iload_n 3, 1, 0, 0, 0) := by decide +kernel
theorem c_191_279 : zcode 191 279 = some (.iconst 2, 1, 0, 0, 0) := by decide +kernel
theorem c_191_280 : zcode 191 280 = some (.iadd, 1, 0, 0, 0) := by decide +kernel
theorem c_191_281 : zcode 191 281 = some (.iaload, 1, 0, 0, 0) := by decide +kernel
theorem c_191_282 : zcode 191 282 = some (.invokevirtual 39, 3, 142, 0, 4195) := by decide +kernel
theorem c_191_285 : zcode 191 285 = some (.if_icmp .eq 791, 3, 1076, 0, 0) := by decide +kernel
theorem c_191_290 : zcode 191 290 = some (.aload_n 1, 1, 0, 0, 0) := by decide +kernel
theorem c_191_291 : zcode 191 291 = some (.aload_n 0, 1, 0, 0, 0) := by decide +kernel
theorem c_191_292 : zcode 191 292 = some (.iload_n 3, 1, 0, 0, 0) := by decide +kernel
theorem c_191_293 : zcode 191 293 = some (.iconst 1, 1, 0, 0, 0) := by decide +kernel
theorem c_191_294 : zcode 191 294 = some (.iadd, 1, 0, 0, 0) := by decide +kernel
theorem c_191_295 : zcode 191 295 = some (.iaload, 1, 0, 0, 0) := by decide +kernel
theorem c_191_296 : zcode 191 296 = some (.aload_n 0, 1, 0, 0, 0) := by decide +kernel
theorem c_191_297 : zcode 191 297 = some (.iload_n 3, 1, 0, 0, 0) := by decide +kernel
theorem c_191_298 : zcode 191 298 = some (.iconst 2, 1, 0, 0, 0) := by decide +kernel
theorem c_191_299 : zcode 191 299 = some (.iadd, 1, 0, 0, 0) := by decide +kernel
theorem c_191_300 : zcode 191 300 = some (.iaload, 1, 0, 0, 0) := by decide +kernel
theorem c_191_301 : zcode 191 301 = some (.invokevirtual 40, 3, 73, 0, 2131) := by decide +kernel
theorem c_191_304 : zcode 191 304 = some (.aload_n 2, 1, 0, 0, 0) := by decide +kernel
theorem c_191_305 : zcode 191 305 = some (.aload_n 0, 1, 0, 0, 0) := by decide +kernel
theorem c_191_306 : zcode 191 306 = some (.iload_n 3, 1, 0, 0, 0) := by decide +kernel
theorem c_191_307 : zcode 191 307 = some (.iconst 1, 1, 0, 0, 0) := by decide +kernel
theorem c_191_308 : zcode 191 308 = some (.iadd, 1, 0, 0, 0) := by decide +kernel
theorem c_191_309 : zcode 191 309 = some (.iaload, 1, 0, 0, 0) := by decide +kernel
theorem c_191_310 : zcode 191 310 = some (.aload_n 0, 1, 0, 0, 0) := by decide +kernel
theorem c_191_311 : zcode 191 311 = some (.iload_n 3, 1, 0, 0, 0) := by decide +kernel
theorem c_191_312 : zcode 191 312 = some (.iconst 2, 1, 0, 0, 0) := by decide +kernel
theorem c_191_313 : zcode 191 313 = some (.iadd, 1, 0, 0, 0) := by decide +kernel
theorem c_191_314 : zcode 191 314 = some (.iaload, 1, 0, 0, 0) := by decide +kernel
theorem c_191_315 : zcode 191 315 = some (.invokevirtual 43, 3, 143, 0, 4207) := by decide +kernel
theorem c_191_318 : zcode 191 318 = some (.if_icmp .eq 758, 3, 1076, 0, 0) := by decide +kernel
theorem c_191_323 : zcode 191 323 = some (.aload_n 1, 1, 0, 0, 0) := by decide +kernel
theorem c_191_324 : zcode 191 324 = some (.aload_n 0, 1, 0, 0, 0) := by decide +kernel
theorem c_191_325 : zcode 191 325 = some (.iload_n 3, 1, 0, 0, 0) := by decide +kernel
theorem c_191_326 : zcode 191 326 = some (.iconst 1, 1, 0, 0, 0) := by decide +kernel
theorem c_191_327 : zcode 191 327 = some (.iadd, 1, 0, 0, 0) := by decide +kernel
theorem c_191_328 : zcode 191 328 = some (.iaload, 1, 0, 0, 0) := by decide +kernel
theorem c_191_329 : zcode 191 329 = some (.aload_n 0, 1, 0, 0, 0) := by decide +kernel
theorem c_191_330 : zcode 191 330 = some (.iload_n 3, 1, 0, 0, 0) := by decide +kernel
theorem c_191_331 : zcode 191 331 = some (.iconst 2, 1, 0, 0, 0) := by decide +kernel
theorem c_191_332 : zcode 191 332 = some (.iadd, 1, 0, 0, 0) := by decide +kernel
theorem c_191_333 : zcode 191 333 = some (.iaload, 1, 0, 0, 0) := by decide +kernel
theorem c_191_334 : zcode 191 334 = some (.invokevirtual 44, 3, 74, 0, 2139) := by decide +kernel
theorem c_191_337 : zcode 191 337 = some (.aload_n 2, 1, 0, 0, 0) := by decide +kernel
theorem c_191_338 : zcode 191 338 = some (.aload_n 0, 1, 0, 0, 0) := by decide +kernel
theorem c_191_339 : zcode 191 339 = some (.iload_n 3, 1, 0, 0, 0) := by decide +kernel
theorem c_191_340 : zcode 191 340 = some (.iconst 1, 1, 0, 0, 0) := by decide +kernel
theorem c_191_341 : zcode 191 341 = some (.iadd, 1, 0, 0, 0) := by decide +kernel
theorem c_191_342 : zcode 191 342 = some (.iaload, 1, 0, 0, 0) := by decide +kernel
theorem c_191_343 : zcode 191 343 = some (.aload_n 0, 1, 0, 0, 0) := by decide +kernel
theorem c_191_344 : zcode 191 344 = some (.iload_n 3, 1, 0, 0, 0) := by decide +kernel
theorem c_191_345 : zcode 191 345 = some (.iconst 2, 1, 0, 0, 0) := by decide +kernel
theorem c_191_346 : zcode 191 346 = some (.iadd, 1, 0, 0, 0) := by decide +kernel
theorem c_191_347 : zcode 191 347 = some (.iaload, 1, 0, 0, 0) := by decide +kernel
theorem c_191_348 : zcode 191 348 = some (.invokevirtual 47, 3, 145, 0, 4215) := by decide +kernel
theorem c_191_351 : zcode 191 351 = some (.if_icmp .eq 725, 3, 1076, 0, 0) := by decide +kernel
theorem c_191_356 : zcode 191 356 = some (.aload_n 1, 1, 0, 0, 0) := by decide +kernel
theorem c_191_357 : zcode 191 357 = some (.aload_n 0, 1, 0, 0, 0) := by decide +kernel
theorem c_191_358 : zcode 191 358 = some (.iload_n 3, 1, 0, 0, 0) := by decide +kernel
theorem c_191_359 : zcode 191 359 = some (.iconst 1, 1, 0, 0, 0) := by decide +kernel
theorem c_191_360 : zcode 191 360 = some (.iadd, 1, 0, 0, 0) := by decide +kernel
theorem c_191_361 : zcode 191 361 = some (.iaload, 1, 0, 0, 0) := by decide +kernel
theorem c_191_362 : zcode 191 362 = some (.invokevirtual 48, 3, 75, 0, 2169) := by decide +kernel
theorem c_191_365 : zcode 191 365 = some (.aload_n 2, 1, 0, 0, 0) := by decide +kernel
theorem c_191_366 : zcode 191 366 = some (.aload_n 0, 1, 0, 0, 0) := by decide +kernel
theorem c_191_367 : zcode 191 367 = some (.iload_n 3, 1, 0, 0, 0) := by decide +kernel
theorem c_191_368 : zcode 191 368 = some (.iconst 1, 1, 0, 0, 0) := by decide +kernel
theorem c_191_369 : zcode 191 369 = some (.iadd, 1, 0, 0, 0) := by decide +kernel
theorem c_191_370 : zcode 191 370 = some (.iaload, 1, 0, 0, 0) := by decide +kernel
theorem c_191_371 : zcode 191 371 = some (.invokevirtual 51, 3, 146, 0, 4236) := by decide +kernel
theorem c_191_374 : zcode 191 374 = some (.if_icmp .eq 702, 3, 1076, 0, 0) := by decide +kernel
theorem c_191_379 : zcode 191 379 = some (.aload_n 1, 1, 0, 0, 0) := by decide +kernel
theorem c_191_380 : zcode 191 380 = some (.aload_n 0, 1, 0, 0, 0) := by decide +kernel
theorem c_191_381 : zcode 191 381 = some (.iload_n 3, 1, 0, 0, 0) := by decide +kernel
theorem c_191_382 : zcode 191 382 = some (.iconst 1, 1, 0, 0, 0) := by decide +kernel
theorem c_191_383 : zcode 191 383 = some (.iadd, 1, 0, 0, 0) := by decide +kernel
theorem c_191_384 : zcode 191 384 = some (.iaload, 1, 0, 0, 0) := by decide +kernel
theorem c_191_385 : zcode 191 385 = some (.aload_n 0, 1, 0, 0, 0) := by decide +kernel
theorem c_191_386 : zcode 191 386 = some (.iload_n 3, 1, 0, 0, 0) := by decide +kernel
theorem c_191_387 : zcode 191 387 = some (.iconst 2, 1, 0, 0, 0) := by decide +kernel
theorem c_191_388 : zcode 191 388 = some (.iadd, 1, 0, 0, 0) := by decide +kernel
theorem c_191_389 : zcode 191 389 = some (.iaload, 1, 0, 0, 0) := by decide +kernel
theorem c_191_390 : zcode 191 390 = some (.aload_n 0, 1, 0, 0, 0) := by decide +kernel
theorem c_191_391 : zcode 191 391 = some (.iload_n 3, 1, 0, 0, 0) := by decide +kernel
theorem c_191_392 : zcode 191 392 = some (.iconst 3, 1, 0, 0, 0) := by decide +kernel
theorem c_191_393 : zcode 191 393 = some (.iadd, 1, 0, 0, 0) := by decide +kernel
theorem c_191_394 : zcode 191 394 = some (.iaload, 1, 0, 0, 0) := by decide +kernel
theorem c_191_395 : zcode 191 395 = some (.aload_n 0, 1, 0, 0, 0) := by decide +kernel
theorem c_191_396 : zcode 191 396 = some (.iload_n 3, 1, 0, 0, 0) := by decide +kernel
theorem c_191_397 : zcode 191 397 = some (.iconst 4, 1, 0, 0, 0) := by decide +kernel
theorem c_191_398 : zcode 191 398 = some (.iadd, 1, 0, 0, 0) := by decide +kernel
theorem c_191_399 : zcode 191 399 = some (.iaload, 1, 0, 0, 0) := by decide +kernel
theorem c_191_400 : zcode 191 400 = some (.invokevirtual 52, 3, 76, 0, 2174) := by decide +kernel
theorem c_191_403 : zcode 191 403 = some (.aload_n 2, 1, 0, 0, 0) := by decide +kernel
theorem c_191_404 : zcode 191 404 = some (.aload_n 0, 1, 0, 0, 0) := by decide +kernel
theorem c_191_405 : zcode 191 405 = some (.iload_n 3, 1, 0, 0, 0) := by decide +kernel
theorem c_191_406 : zcode 191 406 = some (.iconst 1, 1, 0, 0, 0) := by decide +kernel
theorem c_191_407 : zcode 191 407 = some (.iadd, 1, 0, 0, 0) := by decide +kernel
theorem c_191_408 : zcode 191 408 = some (.iaload, 1, 0, 0, 0) := by decide +kernel
theorem c_191_409 : zcode 191 409 = some (.aload_n 0, 1, 0, 0, 0) := by decide +kernel
theorem c_191_410 : zcode 191 410 = some (.iload_n 3, 1, 0, 0, 0) := by decide +kernel
theorem c_191_411 : zcode 191 411 = some (.iconst 2, 1, 0, 0, 0) := by decide +kernel
theorem c_191_412 : zcode 191 412 = some (.iadd, 1, 0, 0, 0) := by decide +kernel
theorem c_191_413 : zcode 191 413 = some (.iaload, 1, 0, 0, 0) := by decide +kernel
theorem c_191_414 : zcode 191 414 = some (.aload_n 0, 1, 0, 0, 0) := by decide +kernel
theorem c_191_415 : zcode 191 415 = some (.iload_n 3, 1, 0, 0, 0) := by decide +kernel
theorem c_191_416 : zcode 191 416 = some (.iconst 3, 1, 0, 0, 0) := by decide +kernel
theorem c_191_417 : zcode 191 417 = some (.iadd, 1, 0, 0, 0) := by decide +kernel
theorem c_191_418 : zcode 191 418 = some (.iaload, 1, 0, 0, 0) := by decide +kernel
theorem c_191_419 : zcode 191 419 = some (.aload_n 0, 1, 0, 0, 0) := by decide +kernel
theorem c_191_420 : zcode 191 420 = some (.iload_n 3, 1, 0, 0, 0) := by decide +kernel
theorem c_191_421 : zcode 191 421 = some (.iconst 4, 1, 0, 0, 0) := by decide +kernel
theorem c_191_422 : zcode 191 422 = some (.iadd, 1, 0, 0, 0) := by decide +kernel
theorem c_191_423 : zcode 191 423 = some (.iaload, 1, 0, 0, 0) := by decide +kernel
theorem c_191_424 : zcode 191 424 = some (.invokevirtual 56, 3, 147, 0, 5000) := by decide +kernel
theorem c_191_427 : zcode 191 427 = some (.if_icmp .eq 649, 3, 1076, 0, 0) := by decide +kernel
theorem c_191_432 : zcode 191 432 = some (.aload_n 1, 1, 0, 0, 0) := by decide +kernel
theorem c_191_433 : zcode 191 433 = some (.aload_n 0, 1, 0, 0, 0) := by decide +kernel
theorem c_191_434 : zcode 191 434 = some (.iload_n 3, 1, 0, 0, 0) := by decide +kernel
theorem c_191_435 : zcode 191 435 = some (.iconst 1, 1, 0, 0, 0) := by decide +kernel
theorem c_191_436 : zcode 191 436 = some (.iadd, 1, 0, 0, 0) := by decide +kernel
theorem c_191_437 : zcode 191 437 = some (.iaload, 1, 0, 0, 0) := by decide +kernel
theorem c_191_438 : zcode 191 438 = some (.aload_n 0, 1, 0, 0, 0) := by decide +kernel
theorem c_191_439 : zcode 191 439 = some (.iload_n 3, 1, 0, 0, 0) := by decide +kernel
theorem c_191_440 : zcode 191 440 = some (.iconst 2, 1, 0, 0, 0) := by decide +kernel
theorem c_191_441 : zcode 191 441 = some (.iadd, 1, 0, 0, 0) := by decide +kernel
theorem c_191_442 : zcode 191 442 = some (.iaload, 1, 0, 0, 0) := by decide +kernel
theorem c_191_443 : zcode 191 443 = some (.invokevirtual 57, 3, 77, 0, 2179) := by decide +kernel
theorem c_191_446 : zcode 191 446 = some (.aload_n 2, 1, 0, 0, 0) := by decide +kernel
theorem c_191_447 : zcode 191 447 = some (.aload_n 0, 1, 0, 0, 0) := by decide +kernel
theorem c_191_448 : zcode 191 448 = some (.iload_n 3, 1, 0, 0, 0) := by decide +kernel
theorem c_191_449 : zcode 191 449 = some (.iconst 1, 1, 0, 0, 0) := by decide +kernel
theorem c_191_450 : zcode 191 450 = some (.iadd, 1, 0, 0, 0) := by decide +kernel
theorem c_191_451 : zcode 191 451 = some (.iaload, 1, 0, 0, 0) := by decide +kernel
theorem c_191_452 : zcode 191 452 = some (.aload_n 0, 1, 0, 0, 0) := by decide +kernel
theorem c_191_453 : zcode 191 453 = some (.iload_n 3, 1, 0, 0, 0) := by decide +kernel
theorem c_191_454 : zcode 191 454 = some (.iconst 2, 1, 0, 0, 0) := by decide +kernel
theorem c_191_455 : zcode 191 455 = some (.iadd, 1, 0, 0, 0) := by decide +kernel
theorem c_191_456 : zcode 191 456 = some (.iaload, 1, 0, 0, 0) := by decide +kernel
theorem c_191_457 : zcode 191 457 = some (.invokevirtual 60, 3, 150, 0, 5005) := by decide +kernel
theorem c_191_460 : zcode 191 460 = some (.if_icmp .eq 616, 3, 1076, 0, 0) := by decide +kernel
theorem c_191_465 : zcode 191 465 = some (.aload_n 1, 1, 0, 0, 0) := by decide +kernel
theorem c_191_466 : zcode 191 466 = some (.aload_n 0, 1, 0, 0, 0) := by decide +kernel
theorem c_191_467 : zcode 191 467 = some (.iload_n 3, 1, 0, 0, 0) := by decide +kernel
theorem c_191_468 : zcode 191 468 = some (.iconst 1, 1, 0, 0, 0) := by decide +kernel
theorem c_191_469 : zcode 191 469 = some (.iadd, 1, 0, 0, 0) := by decide +kernel
theorem c_191_470 : zcode 191 470 = some (.iaload, 1, 0, 0, 0) := by decide +kernel
theorem c_191_471 : zcode 191 471 = some (.invokevirtual 61, 3, 78, 0, 2214) := by decide +kernel
theorem c_191_474 : zcode 191 474 = some (.aload_n 2, 1, 0, 0, 0) := by decide +kernel
theorem c_191_475 : zcode 191 475 = some (.aload_n 0, 1, 0, 0, 0) := by decide +kernel
theorem c_191_476 : zcode 191 476 = some (.iload_n 3, 1, 0, 0, 0) := by decide +kernel
theorem c_191_477 : zcode 191 477 = some (.iconst 1, 1, 0, 0, 0) := by decide +kernel
theorem c_191_478 : zcode 191 478 = some (.iadd, 1, 0, 0, 0) := by decide +kernel
theorem c_191_479 : zcode 191 479 = some (.iaload, 1, 0, 0, 0) := by decide +kernel
theorem c_191_480 : zcode 191 480 = some (.invokevirtual 64, 3, 153, 0, 5017) := by decide +kernel
theorem c_191_483 : zcode 191 483 = some (.if_icmp .eq 593, 3, 1076, 0, 0) := by decide +kernel
theorem c_191_488 : zcode 191 488 = some (.aload_n 1, 1, 0, 0, 0) := by decide +kernel
theorem c_191_489 : zcode 191 489 = some (.invokevirtual 65, 3, 79, 0, 2232) := by decide +kernel
theorem c_191_492 : zcode 191 492 = some (.aload_n 2, 1, 0, 0, 0) := by decide +kernel
theorem c_191_493 : zcode 191 493 = some (.invokevirtual 68, 3, 155, 0, 5029) := by decide +kernel
theorem c_191_496 : zcode 191 496 = some (.if_icmp .eq 580, 3, 1076, 0, 0) := by decide +kernel
theorem c_191_501 : zcode 191 501 = some (.aload_n 1, 1, 0, 0, 0) := by decide +kernel
theorem c_191_502 : zcode 191 502 = some (.aload_n 0, 1, 0, 0, 0) := by decide +kernel
theorem c_191_503 : zcode 191 503 = some (.iload_n 3, 1, 0, 0, 0) := by decide +kernel
theorem c_191_504 : zcode 191 504 = some (.iconst 1, 1, 0, 0, 0) := by decide +kernel
theorem c_191_505 : zcode 191 505 = some (.iadd, 1, 0, 0, 0) := by decide +kernel
theorem c_191_506 : zcode 191 506 = some (.iaload, 1, 0, 0, 0) := by decide +kernel
theorem c_191_507 : zcode 191 507 = some (.invokevirtual 69, 3, 80, 0, 3000) := by decide +kernel
theorem c_191_510 : zcode 191 510 = some (.aload_n 2, 1, 0, 0, 0) := by decide +kernel
theorem c_191_511 : zcode 191 511 = some (.aload_n 0, 1, 0, 0, 0) := by decide +kernel
theorem c_191_512 : zcode 191 512 = some (.iload_n 3, 1, 0, 0, 0) := by decide +kernel
theorem c_191_513 : zcode 191 513 = some (.iconst 1, 1, 0, 0, 0) := by decide +kernel
theorem c_191_514 : zcode 191 514 = some (.iadd, 1, 0, 0, 0) := by decide +kernel
theorem c_191_515 : zcode 191 515 = some (.iaload, 1, 0, 0, 0) := by decide +kernel
theorem c_191_516 : zcode 191 516 = some (.invokevirtual 72, 3, 158, 0, 5037) := by decide +kernel
theorem c_191_519 : zcode 191 519 = some (.if_icmp .eq 557, 3, 1076, 0, 0) := by decide +kernel
theorem c_191_524 : zcode 191 524 = some (.aload_n 1, 1, 0, 0, 0) := by decide +kernel
theorem c_191_525 : zcode 191 525 = some (.invokevirtual 73, 3, 82, 0, 3009) := by decide +kernel
theorem c_191_528 : zcode 191 528 = some (.aload_n 2, 1, 0, 0, 0) := by decide +kernel
theorem c_191_529 : zcode 191 529 = some (.invokevirtual 76, 3, 159, 0, 5048) := by decide +kernel
theorem c_191_532 : zcode 191 532 = some (.if_icmp .eq 544, 3, 1076, 0, 0) := by decide +kernel
theorem c_191_537 : zcode 191 537 = some (.aload_n 1, 1, 0, 0, 0) := by decide +kernel
theorem c_191_538 : zcode 191 538 = some (.aload_n 0, 1, 0, 0, 0) := by decide +kernel
theorem c_191_539 : zcode 191 539 = some (.iload_n 3, 1, 0, 0, 0) := by decide +kernel
theorem c_191_540 : zcode 191 540 = some (.iconst 1, 1, 0, 0, 0) := by decide +kernel
theorem c_191_541 : zcode 191 541 = some (.iadd, 1, 0, 0, 0) := by decide +kernel
theorem c_191_542 : zcode 191 542 = some (.iaload, 1, 0, 0, 0) := by decide +kernel
theorem c_191_543 : zcode 191 543 = some (.ifCond .eq 7, 3, 550, 0, 0) := by decide +kernel
theorem c_191_546 : zcode 191 546 = some (.iconst 1, 1, 0, 0, 0) := by decide +kernel
theorem c_191_547 : zcode 191 547 = some (.goto 4, 3, 551, 0, 0) := by decide +kernel
theorem c_191_550 : zcode 191 550 = some (.iconst 0, 1, 0, 0, 0) := by decide +kernel
theorem c_191_551 : zcode 191 551 = some (.invokevirtual 77, 3, 83, 0, 3021) := by decide +kernel
theorem c_191_554 : zcode 191 554 = some (.aload_n 2, 1, 0, 0, 0) := by decide +kernel
theorem c_191_555 : zcode 191 555 = some (.aload_n 0, 1, 0, 0, 0) := by decide +kernel
theorem c_191_556 : zcode 191 556 = some (.iload_n 3, 1, 0, 0, 0) := by decide +kernel
theorem c_191_557 : zcode 191 557 = some (.iconst 1, 1, 0, 0, 0) := by decide +kernel
theorem c_191_558 : zcode 191 558 = some (.iadd, 1, 0, 0, 0) := by decide +kernel
theorem c_191_559 : zcode 191 559 = some (.iaload, 1, 0, 0, 0) := by decide +kernel
theorem c_191_560 : zcode 191 560 = some (.ifCond .eq 7, 3, 567, 0, 0) := by decide +kernel
theorem c_191_563 : zcode 191 563 = some (.iconst 1, 1, 0, 0, 0) := by decide +kernel
theorem c_191_564 : zcode 191 564 = some (.goto 4, 3, 568, 0, 0) := by decide +kernel
theorem c_191_567 : zcode 191 567 = some (.iconst 0, 1, 0, 0, 0) := by decide +kernel
theorem c_191_568 : zcode 191 568 = some (.invokevirtual 81, 3, 164, 0, 5052) := by decide +kernel
theorem c_191_571 : zcode 191 571 = some (.if_icmp .eq 505, 3, 1076, 0, 0) := by decide +kernel
theorem c_191_576 : zcode 191 576 = some (.aload_n 1, 1, 0, 0, 0) := by decide +kernel
theorem c_191_577 : zcode 191 577 = some (.aload_n 0, 1, 0, 0, 0) := by decide +kernel
theorem c_191_578 : zcode 191 578 = some (.iload_n 3, 1, 0, 0, 0) := by decide +kernel
theorem c_191_579 : zcode 191 579 = some (.iconst 1, 1, 0, 0, 0) := by decide +kernel
theorem c_191_580 : zcode 191 580 = some (.iadd, 1, 0, 0, 0) := by decide +kernel
theorem c_191_581 : zcode 191 581 = some (.iaload, 1, 0, 0, 0) := by decide +kernel
theorem c_191_582 : zcode 191 582 = some (.ifCond .eq 7, 3, 589, 0, 0) := by decide +kernel
theorem c_191_585 : zcode 191 585 = some (.iconst 1, 1, 0, 0, 0) := by decide +kernel
theorem c_191_586 : zcode 191 586 = some (.goto 4, 3, 590, 0, 0) := by decide +kernel
theorem c_191_589 : zcode 191 589 = some (.iconst 0, 1, 0, 0, 0) := by decide +kernel
theorem c_191_590 : zcode 191 590 = some (.invokevirtual 82, 3, 84, 0, 3074) := by decide +kernel
theorem c_191_593 : zcode 191 593 = some (.aload_n 2, 1, 0, 0, 0) := by decide +kernel
theorem c_191_594 : zcode 191 594 = some (.aload_n 0, 1, 0, 0, 0) := by decide +kernel
theorem c_191_595 : zcode 191 595 = some (.iload_n 3, 1, 0, 0, 0) := by decide +kernel
theorem c_191_596 : zcode 191 596 = some (.iconst 1, 1, 0, 0, 0) := by decide +kernel
theorem c_191_597 : zcode 191 597 = some (.iadd, 1, 0, 0, 0) := by decide +kernel
theorem c_191_598 : zcode 191 598 = some (.iaload, 1, 0, 0, 0) := by decide +kernel
theorem c_191_599 : zcode 191 599 = some (.ifCond .eq 7, 3, 606, 0, 0) := by decide +kernel
theorem c_191_602 : zcode 191 602 = some (.iconst 1, 1, 0, 0, 0) := by decide +kernel
theorem c_191_603 : zcode 191 603 = some (.goto 4, 3, 607, 0, 0) := by decide +kernel
theorem c_191_606 : zcode 191 606 = some (.iconst 0, 1, 0, 0, 0) := by decide +kernel
theorem c_191_607 : zcode 191 607 = some (.invokevirtual 85, 3, 165, 0, 5072) := by decide +kernel
theorem c_191_610 : zcode 191 610 = some (.if_icmp .eq 466, 3, 1076, 0, 0) := by decide +kernel
theorem c_191_615 : zcode 191 615 = some (.aload_n 1, 1, 0, 0, 0) := by decide +kernel
theorem c_191_616 : zcode 191 616 = some (.aload_n 0, 1, 0, 0, 0) := by decide +kernel
theorem c_191_617 : zcode 191 617 = some (.iload_n 3, 1, 0, 0, 0) := by decide +kernel
theorem c_191_618 : zcode 191 618 = some (.iconst 1, 1, 0, 0, 0) := by decide +kernel
theorem c_191_619 : zcode 191 619 = some (.iadd, 1, 0, 0, 0) := by decide +kernel
theorem c_191_620 : zcode 191 620 = some (.iaload, 1, 0, 0, 0) := by decide +kernel
theorem c_191_621 : zcode 191 621 = some (.invokevirtual 86, 3, 85, 0, 3082) := by decide +kernel
theorem c_191_624 : zcode 191 624 = some (.aload_n 2, 1, 0, 0, 0) := by decide +kernel
theorem c_191_625 : zcode 191 625 = some (.aload_n 0, 1, 0, 0, 0) := by decide +kernel
theorem c_191_626 : zcode 191 626 = some (.iload_n 3, 1, 0, 0, 0) := by decide +kernel
theorem c_191_627 : zcode 191 627 = some (.iconst 1, 1, 0, 0, 0) := by decide +kernel
theorem c_191_628 : zcode 191 628 = some (.iadd, 1, 0, 0, 0) := by decide +kernel
theorem c_191_629 : zcode 191 629 = some (.iaload, 1, 0, 0, 0) := by decide +kernel
theorem c_191_630 : zcode 191 630 = some (.invokevirtual 89, 3, 167, 0, 5076) := by decide +kernel
theorem c_191_633 : zcode 191 633 = some (.if_icmp .eq 443, 3, 1076, 0, 0) := by decide +kernel
theorem c_191_638 : zcode 191 638 = some (.aload_n 1, 1, 0, 0, 0) := by decide +kernel
theorem c_191_639 : zcode 191 639 = some (.aload_n 0, 1, 0, 0, 0) := by decide +kernel
theorem c_191_640 : zcode 191 640 = some (.iload_n 3, 1, 0, 0, 0) := by decide +kernel
theorem c_191_641 : zcode 191 641 = some (.iconst 1, 1, 0, 0, 0) := by decide +kernel
theorem c_191_642 : zcode 191 642 = some (.iadd, 1, 0, 0, 0) := by decide +kernel
theorem c_191_643 : zcode 191 643 = some (.iaload, 1, 0, 0, 0) := by decide +kernel
theorem c_191_644 : zcode 191 644 = some (.invokevirtual 90, 3, 87, 0, 3090) := by decide +kernel
theorem c_191_647 : zcode 191 647 = some (.aload_n 2, 1, 0, 0, 0) := by decide +kernel
theorem c_191_648 : zcode 191 648 = some (.aload_n 0, 1, 0, 0, 0) := by decide +kernel
theorem c_191_649 : zcode 191 649 = some (.iload_n 3, 1, 0, 0, 0) := by decide +kernel
theorem c_191_650 : zcode 191 650 = some (.iconst 1, 1, 0, 0, 0) := by decide +kernel
theorem c_191_651 : zcode 191 651 = some (.iadd, 1, 0, 0, 0) := by decide +kernel
theorem c_191_652 : zcode 191 652 = some (.iaload, 1, 0, 0, 0) := by decide +kernel
theorem c_191_653 : zcode 191 653 = some (.invokevirtual 93, 3, 168, 0, 5084) := by decide +kernel
theorem c_191_656 : zcode 191 656 = some (.if_icmp .eq 420, 3, 1076, 0, 0) := by decide +kernel
theorem c_191_661 : zcode 191 661 = some (.aload_n 1, 1, 0, 0, 0) := by decide +kernel
theorem c_191_662 : zcode 191 662 = some (.aload_n 0, 1, 0, 0, 0) := by decide +kernel
theorem c_191_663 : zcode 191 663 = some (.iload_n 3, 1, 0, 0, 0) := by decide +kernel
theorem c_191_664 : zcode 191 664 = some (.iconst 1, 1, 0, 0, 0) := by decide +kernel
theorem c_191_665 : zcode 191 665 = some (.iadd, 1, 0, 0, 0) := by decide +kernel
theorem c_191_666 : zcode 191 666 = some (.iaload, 1, 0, 0, 0) := by decide +kernel
theorem c_191_667 : zcode 191 667 = some (.ifCond .eq 7, 3, 674, 0, 0) := by decide +kernel
theorem c_191_670 : zcode 191 670 = some (.iconst 1, 1, 0, 0, 0) := by decide +kernel
theorem c_191_671 : zcode 191 671 = some (.goto 4, 3, 675, 0, 0) := by decide +kernel
theorem c_191_674 : zcode 191 674 = some (.iconst 0, 1, 0, 0, 0) := by decide +kernel
theorem c_191_675 : zcode 191 675 = some (.invokevirtual 94, 3, 88, 0, 3094) := by decide +kernel
theorem c_191_678 : zcode 191 678 = some (.aload_n 2, 1, 0, 0, 0) := by decide +kernel
theorem c_191_679 : zcode 191 679 = some (.aload_n 0, 1, 0, 0, 0) := by decide +kernel
theorem c_191_680 : zcode 191 680 = some (.iload_n 3, 1, 0, 0, 0) := by decide +kernel
theorem c_191_681 : zcode 191 681 = some (.iconst 1, 1, 0, 0, 0) := by decide +kernel
theorem c_191_682 : zcode 191 682 = some (.iadd, 1, 0, 0, 0) := by decide +kernel
theorem c_191_683 : zcode 191 683 = some (.iaload, 1, 0, 0, 0) := by decide +kernel
theorem c_191_684 : zcode 191 684 = some (.ifCond .eq 7, 3, 691, 0, 0) := by decide +kernel
theorem c_191_687 : zcode 191 687 = some (.iconst 1, 1, 0, 0, 0) := by decide +kernel
theorem c_191_688 : zcode 191 688 = some (.goto 4, 3, 692, 0, 0) := by decide +kernel
theorem c_191_691 : zcode 191 691 = some (.iconst 0, 1, 0, 0, 0) := by decide +kernel
theorem c_191_692 : zcode 191 692 = some (.invokevirtual 97, 3, 170, 0, 5088) := by decide +kernel
theorem c_191_695 : zcode 191 695 = some (.if_icmp .eq 381, 3, 1076, 0, 0) := by decide +kernel
theorem c_191_700 : zcode 191 700 = some (.aload_n 1, 1, 0, 0, 0) := by decide +kernel
theorem c_191_701 : zcode 191 701 = some (.aload_n 0, 1, 0, 0, 0) := by decide +kernel
theorem c_191_702 : zcode 191 702 = some (.iload_n 3, 1, 0, 0, 0) := by decide +kernel
theorem c_191_703 : zcode 191 703 = some (.iconst 1, 1, 0, 0, 0) := by decide +kernel
theorem c_191_704 : zcode 191 704 = some (.iadd, 1, 0, 0, 0) := by decide +kernel
theorem c_191_705 : zcode 191 705 = some (.iaload, 1, 0, 0, 0) := by decide +kernel
theorem c_191_706 : zcode 191 706 = some (.aload_n 0, 1, 0, 0, 0) := by decide +kernel
theorem c_191_707 : zcode 191 707 = some (.iload_n 3, 1, 0, 0, 0) := by decide +kernel
theorem c_191_708 : zcode 191 708 = some (.iconst 2, 1, 0, 0, 0) := by decide +kernel
theorem c_191_709 : zcode 191 709 = some (.iadd, 1, 0, 0, 0) := by decide +kernel
theorem c_191_710 : zcode 191 710 = some (.iaload, 1, 0, 0, 0) := by decide +kernel
theorem c_191_711 : zcode 191 711 = some (.invokevirtual 98, 3, 93, 0, 3113) := by decide +kernel
theorem c_191_714 : zcode 191 714 = some (.aload_n 2, 1, 0, 0, 0) := by decide +kernel
theorem c_191_715 : zcode 191 715 = some (.aload_n 0, 1, 0, 0, 0) := by decide +kernel
theorem c_191_716 : zcode 191 716 = some (.iload_n 3, 1, 0, 0, 0) := by decide +kernel
theorem c_191_717 : zcode 191 717 = some (.iconst 1, 1, 0, 0, 0) := by decide +kernel
theorem c_191_718 : zcode 191 718 = some (.iadd, 1, 0, 0, 0) := by decide +kernel
theorem c_191_719 : zcode 191 719 = some (.iaload, 1, 0, 0, 0) := by decide +kernel
theorem c_191_720 : zcode 191 720 = some (.aload_n 0, 1, 0, 0, 0) := by decide +kernel
theorem c_191_721 : zcode 191 721 = some (.iload_n 3, 1, 0, 0, 0) := by decide +kernel
theorem c_191_722 : zcode 191 722 = some (.iconst 2, 1, 0, 0, 0) := by decide +kernel
theorem c_191_723 : zcode 191 723 = some (.iadd, 1, 0, 0, 0) := by decide +kernel
theorem c_191_724 : zcode 191 724 = some (.iaload, 1, 0, 0, 0) := by decide +kernel
theorem c_191_725 : zcode 191 725 = some (.invokevirtual 101, 3, 172, 0, 5099) := by decide +kernel
theorem c_191_728 : zcode 191 728 = some (.if_icmp .eq 348, 3, 1076, 0, 0) := by decide +kernel
theorem c_191_733 : zcode 191 733 = some (.aload_n 1, 1, 0, 0, 0) := by decide +kernel
theorem c_191_734 : zcode 191 734 = some (.aload_n 0, 1, 0, 0, 0) := by decide +kernel
theorem c_191_735 : zcode 191 735 = some (.iload_n 3, 1, 0, 0, 0) := by decide +kernel
theorem c_191_736 : zcode 191 736 = some (.iconst 1, 1, 0, 0, 0) := by decide +kernel
theorem c_191_737 : zcode 191 737 = some (.iadd, 1, 0, 0, 0) := by decide +kernel
theorem c_191_738 : zcode 191 738 = some (.iaload, 1, 0, 0, 0) := by decide +kernel
theorem c_191_739 : zcode 191 739 = some (.aload_n 0, 1, 0, 0, 0) := by decide +kernel
theorem c_191_740 : zcode 191 740 = some (.iload_n 3, 1, 0, 0, 0) := by decide +kernel
theorem c_191_741 : zcode 191 741 = some (.iconst 2, 1, 0, 0, 0) := by decide +kernel
theorem c_191_742 : zcode 191 742 = some (.iadd, 1, 0, 0, 0) := by decide +kernel
theorem c_191_743 : zcode 191 743 = some (.iaload, 1, 0, 0, 0) := by decide +kernel
theorem c_191_744 : zcode 191 744 = some (.ifCond .eq 7, 3, 751, 0, 0) := by decide +kernel
theorem c_191_747 : zcode 191 747 = some (.iconst 1, 1, 0, 0, 0) := by decide +kernel
theorem c_191_748 : zcode 191 748 = some (.goto 4, 3, 752, 0, 0) := by decide +kernel
theorem c_191_751 : zcode 191 751 = some (.iconst 0, 1, 0, 0, 0) := by decide +kernel
theorem c_191_752 : zcode 191 752 = some (.invokevirtual 102, 3, 96, 0, 3124) := by decide +kernel
theorem c_191_755 : zcode 191 755 = some (.aload_n 2, 1, 0, 0, 0) := by decide +kernel
theorem c_191_756 : zcode 191 756 = some (.aload_n 0, 1, 0, 0, 0) := by decide +kernel
theorem c_191_757 : zcode 191 757 = some (.iload_n 3, 1, 0, 0, 0) := by decide +kernel
theorem c_191_758 : zcode 191 758 = some (.iconst 1, 1, 0, 0, 0) := by decide +kernel
theorem c_191_759 : zcode 191 759 = some (.iadd, 1, 0, 0, 0) := by decide +kernel
theorem c_191_760 : zcode 191 760 = some (.iaload, 1, 0, 0, 0) := by decide +kernel
theorem c_191_761 : zcode 191 761 = some (.aload_n 0, 1, 0, 0, 0) := by decide +kernel
theorem c_191_762 : zcode 191 762 = some (.iload_n 3, 1, 0, 0, 0) := by decide +kernel
theorem c_191_763 : zcode 191 763 = some (.iconst 2, 1, 0, 0, 0) := by decide +kernel
theorem c_191_764 : zcode 191 764 = some (.iadd, 1, 0, 0, 0) := by decide +kernel
theorem c_191_765 : zcode 191 765 = some (.iaload, 1, 0, 0, 0) := by decide +kernel
theorem c_191_766 : zcode 191 766 = some (.ifCond .eq 7, 3, 773, 0, 0) := by decide +kernel
theorem c_191_769 : zcode 191 769 = some (.iconst 1, 1, 0, 0, 0) := by decide +kernel
theorem c_191_770 : zcode 191 770 = some (.goto 4, 3, 774, 0, 0) := by decide +kernel
theorem c_191_773 : zcode 191 773 = some (.iconst 0, 1, 0, 0, 0) := by decide +kernel
theorem c_191_774 : zcode 191 774 = some (.invokevirtual 106, 3, 177, 0, 5108) := by decide +kernel
theorem c_191_777 : zcode 191 777 = some (.if_icmp .eq 299, 3, 1076, 0, 0) := by decide +kernel
theorem c_191_782 : zcode 191 782 = some (.aload_n 1, 1, 0, 0, 0) := by decide +kernel
theorem c_191_783 : zcode 191 783 = some (.aload_n 0, 1, 0, 0, 0) := by decide +kernel
theorem c_191_784 : zcode 191 784 = some (.iload_n 3, 1, 0, 0, 0) := by decide +kernel
theorem c_191_785 : zcode 191 785 = some (.iconst 1, 1, 0, 0, 0) := by decide +kernel
theorem c_191_786 : zcode 191 786 = some (.iadd, 1, 0, 0, 0) := by decide +kernel
theorem c_191_787 : zcode 191 787 = some (.iaload, 1, 0, 0, 0) := by decide +kernel
theorem c_191_788 : zcode 191 788 = some (.aload_n 0, 1, 0, 0, 0) := by decide +kernel
theorem c_191_789 : zcode 191 789 = some (.iload_n 3, 1, 0, 0, 0) := by decide +kernel
theorem c_191_790 : zcode 191 790 = some (.iconst 2, 1, 0, 0, 0) := by decide +kernel
theorem c_191_791 : zcode 191 791 = some (.iadd, 1, 0, 0, 0) := by decide +kernel
theorem c_191_792 : zcode 191 792 = some (.iaload, 1, 0, 0, 0) := by decide +kernel
theorem c_191_793 : zcode 191 793 = some (.aload_n 0, 1, 0, 0, 0) := by decide +kernel
theorem c_191_794 : zcode 191 794 = some (.iload_n 3, 1, 0, 0, 0) := by decide +kernel
theorem c_191_795 : zcode 191 795 = some (.iconst 3, 1, 0, 0, 0) := by decide +kernel
theorem c_191_796 : zcode 191 796 = some (.iadd, 1, 0, 0, 0) := by decide +kernel
theorem c_191_797 : zcode 191 797 = some (.iaload, 1, 0, 0, 0) := by decide +kernel
theorem c_191_798 : zcode 191 798 = some (.aload_n 0, 1, 0, 0, 0) := by decide +kernel
theorem c_191_799 : zcode 191 799 = some (.iload_n 3, 1, 0, 0, 0) := by decide +kernel
theorem c_191_800 : zcode 191 800 = some (.iconst 4, 1, 0, 0, 0) := by decide +kernel
theorem c_191_801 : zcode 191 801 = some (.iadd, 1, 0, 0, 0) := by decide +kernel
theorem c_191_802 : zcode 191 802 = some (.iaload, 1, 0, 0, 0) := by decide +kernel
theorem c_191_803 : zcode 191 803 = some (.invokevirtual 107, 3, 100, 0, 3147) := by decide +kernel
theorem c_191_806 : zcode 191 806 = some (.aload_n 2, 1, 0, 0, 0) := by decide +kernel
theorem c_191_807 : zcode 191 807 = some (.aload_n 0, 1, 0, 0, 0) := by decide +kernel
theorem c_191_808 : zcode 191 808 = some (.iload_n 3, 1, 0, 0, 0) := by decide +kernel
theorem c_191_809 : zcode 191 809 = some (.iconst 1, 1, 0, 0, 0) := by decide +kernel
theorem c_191_810 : zcode 191 810 = some (.iadd, 1, 0, 0, 0) := by decide +kernel
theorem c_191_811 : zcode 191 811 = some (.iaload, 1, 0, 0, 0) := by decide +kernel
theorem c_191_812 : zcode 191 812 = some (.aload_n 0, 1, 0, 0, 0) := by decide +kernel
theorem c_191_813 : zcode 191 813 = some (.iload_n 3, 1, 0, 0, 0) := by decide +kernel
theorem c_191_814 : zcode 191 814 = some (.iconst 2, 1, 0, 0, 0) := by decide +kernel
theorem c_191_815 : zcode 191 815 = some (.iadd, 1, 0, 0, 0) := by decide +kernel
theorem c_191_816 : zcode 191 816 = some (.iaload, 1, 0, 0, 0) := by decide +kernel
theorem c_191_817 : zcode 191 817 = some (.aload_n 0, 1, 0, 0, 0) := by decide +kernel
theorem c_191_818 : zcode 191 818 = some (.iload_n 3, 1, 0, 0, 0) := by decide +kernel
theorem c_191_819 : zcode 191 819 = some (.iconst 3, 1, 0, 0, 0) := by decide +kernel
theorem c_191_820 : zcode 191 820 = some (.iadd, 1, 0, 0, 0) := by decide +kernel
theorem c_191_821 : zcode 191 821 = some (.iaload, 1, 0, 0, 0) := by decide +kernel
theorem c_191_822 : zcode 191 822 = some (.aload_n 0, 1, 0, 0, 0) := by decide +kernel
theorem c_191_823 : zcode 191 823 = some (.iload_n 3, 1, 0, 0, 0) := by decide +kernel
theorem c_191_824 : zcode 191 824 = some (.iconst 4, 1, 0, 0, 0) := by decide +kernel
theorem c_191_825 : zcode 191 825 = some (.iadd, 1, 0, 0, 0) := by decide +kernel
theorem c_191_826 : zcode 191 826 = some (.iaload, 1, 0, 0, 0) := by decide +kernel
theorem c_191_827 : zcode 191 827 = some (.invokevirtual 110, 3, 178, 0, 5128) := by decide +kernel
theorem c_191_830 : zcode 191 830 = some (.if_icmp .eq 246, 3, 1076, 0, 0) := by decide +kernel
theorem c_191_835 : zcode 191 835 = some (.aload_n 1, 1, 0, 0, 0) := by decide +kernel
theorem c_191_836 : zcode 191 836 = some (.invokevirtual 111, 3, 101, 0, 3166) := by decide +kernel
theorem c_191_839 : zcode 191 839 = some (.aload_n 2, 1, 0, 0, 0) := by decide +kernel
theorem c_191_840 : zcode 191 840 = some (.invokevirtual 114, 3, 179, 0, 5133) := by decide +kernel
theorem c_191_843 : zcode 191 843 = some (.if_icmp .eq 233, 3, 1076, 0, 0) := by decide +kernel
theorem c_191_848 : zcode 191 848 = some (.aload_n 1, 1, 0, 0, 0) := by decide +kernel
theorem c_191_849 : zcode 191 849 = some (.invokevirtual 115, 3, 102, 0, 3175) := by decide +kernel
theorem c_191_852 : zcode 191 852 = some (.aload_n 2, 1, 0, 0, 0) := by decide +kernel
theorem c_191_853 : zcode 191 853 = some (.invokevirtual 118, 3, 180, 0, 5137) := by decide +kernel
theorem c_191_856 : zcode 191 856 = some (.if_icmp .eq 220, 3, 1076, 0, 0) := by decide +kernel
theorem c_191_861 : zcode 191 861 = some (.aload_n 1, 1, 0, 0, 0) := by decide +kernel
theorem c_191_862 : zcode 191 862 = some (.aload_n 0, 1, 0, 0, 0) := by decide +kernel
theorem c_191_863 : zcode 191 863 = some (.iload_n 3, 1, 0, 0, 0) := by decide +kernel
theorem c_191_864 : zcode 191 864 = some (.iconst 1, 1, 0, 0, 0) := by decide +kernel
theorem c_191_865 : zcode 191 865 = some (.iadd, 1, 0, 0, 0) := by decide +kernel
theorem c_191_866 : zcode 191 866 = some (.iaload, 1, 0, 0, 0) := by decide +kernel
theorem c_191_867 : zcode 191 867 = some (.aload_n 0, 1, 0, 0, 0) := by decide +kernel
theorem c_191_868 : zcode 191 868 = some (.iload_n 3, 1, 0, 0, 0) := by decide +kernel
theorem c_191_869 : zcode 191 869 = some (.iconst 2, 1, 0, 0, 0) := by decide +kernel
theorem c_191_870 : zcode 191 870 = some (.iadd, 1, 0, 0, 0) := by decide +kernel
theorem c_191_871 : zcode 191 871 = some (.iaload, 1, 0, 0, 0) := by decide +kernel
theorem c_191_872 : zcode 191 872 = some (.aload_n 0, 1, 0, 0, 0) := by decide +kernel
theorem c_191_873 : zcode 191 873 = some (.iload_n 3, 1, 0, 0, 0) := by decide +kernel
theorem c_191_874 : zcode 191 874 = some (.iconst 3, 1, 0, 0, 0) := by decide +kernel
theorem c_191_875 : zcode 191 875 = some (.iadd, 1, 0, 0, 0) := by decide +kernel
theorem c_191_876 : zcode 191 876 = some (.iaload, 1, 0, 0, 0) := by decide +kernel
theorem c_191_877 : zcode 191 877 = some (.invokevirtual 119, 3, 103, 0, 3187) := by decide +kernel
theorem c_191_880 : zcode 191 880 = some (.aload_n 2, 1, 0, 0, 0) := by decide +kernel
theorem c_191_881 : zcode 191 881 = some (.aload_n 0, 1, 0, 0, 0) := by decide +kernel
theorem c_191_882 : zcode 191 882 = some (.iload_n 3, 1, 0, 0, 0) := by decide +kernel
theorem c_191_883 : zcode 191 883 = some (.iconst 1, 1, 0, 0, 0) := by decide +kernel
theorem c_191_884 : zcode 191 884 = some (.iadd, 1, 0, 0, 0) := by decide +kernel
theorem c_191_885 : zcode 191 885 = some (.iaload, 1, 0, 0, 0) := by decide +kernel
theorem c_191_886 : zcode 191 886 = some (.aload_n 0, 1, 0, 0, 0) := by decide +kernel
theorem c_191_887 : zcode 191 887 = some (.iload_n 3, 1, 0, 0, 0) := by decide +kernel
theorem c_191_888 : zcode 191 888 = some (.iconst 2, 1, 0, 0, 0) := by decide +kernel
theorem c_191_889 : zcode 191 889 = some (.iadd, 1, 0, 0, 0) := by decide +kernel
theorem c_191_890 : zcode 191 890 = some (.iaload, 1, 0, 0, 0) := by decide +kernel
theorem c_191_891 : zcode 191 891 = some (.aload_n 0, 1, 0, 0, 0) := by decide +kernel
theorem c_191_892 : zcode 191 892 = some (.iload_n 3, 1, 0, 0, 0) := by decide +kernel
theorem c_191_893 : zcode 191 893 = some (.iconst 3, 1, 0, 0, 0) := by decide +kernel
theorem c_191_894 : zcode 191 894 = some (.iadd, 1, 0, 0, 0) := by decide +kernel
theorem c_191_895 : zcode 191 895 = some (.iaload, 1, 0, 0, 0) := by decide +kernel
theorem c_191_896 : zcode 191 896 = some (.invokevirtual 123, 3, 182, 0, 5141) := by decide +kernel
theorem c_191_899 : zcode 191 899 = some (.if_icmp .eq 177, 3, 1076, 0, 0) := by decide +kernel
theorem c_191_904 : zcode 191 904 = some (.aload_n 1, 1, 0, 0, 0) := by decide +kernel
theorem c_191_905 : zcode 191 905 = some (.aload_n 0, 1, 0, 0, 0) := by decide +kernel
theorem c_191_906 : zcode 191 906 = some (.iload_n 3, 1, 0, 0, 0) := by decide +kernel
theorem c_191_907 : zcode 191 907 = some (.iconst 1, 1, 0, 0, 0) := by decide +kernel
theorem c_191_908 : zcode 191 908 = some (.iadd, 1, 0, 0, 0) := by decide +kernel
theorem c_191_909 : zcode 191 909 = some (.iaload, 1, 0, 0, 0) := by decide +kernel
theorem c_191_910 : zcode 191 910 = some (.aload_n 0, 1, 0, 0, 0) := by decide +kernel
theorem c_191_911 : zcode 191 911 = some (.iload_n 3, 1, 0, 0, 0) := by decide +kernel
theorem c_191_912 : zcode 191 912 = some (.iconst 2, 1, 0, 0, 0) := by decide +kernel
theorem c_191_913 : zcode 191 913 = some (.iadd, 1, 0, 0, 0) := by decide +kernel
theorem c_191_914 : zcode 191 914 = some (.iaload, 1, 0, 0, 0) := by decide +kernel
theorem c_191_915 : zcode 191 915 = some (.ifCond .eq 7, 3, 922, 0, 0) := by decide +kernel
theorem c_191_918 : zcode 191 918 = some (.iconst 1, 1, 0, 0, 0) := by decide +kernel
theorem c_191_919 : zcode 191 919 = some (.goto 4, 3, 923, 0, 0) := by decide +kernel
theorem c_191_922 : zcode 191 922 = some (.iconst 0, 1, 0, 0, 0) := by decide +kernel
theorem c_191_923 : zcode 191 923 = some (.invokevirtual 124, 3, 107, 0, 3201) := by decide +kernel
theorem c_191_926 : zcode 191 926 = some (.aload_n 2, 1, 0, 0, 0) := by decide +kernel
theorem c_191_927 : zcode 191 927 = some (.aload_n 0, 1, 0, 0, 0) := by decide +kernel
theorem c_191_928 : zcode 191 928 = some (.iload_n 3, 1, 0, 0, 0) := by decide +kernel
theorem c_191_929 : zcode 191 929 = some (.iconst 1, 1, 0, 0, 0) := by decide +kernel
theorem c_191_930 : zcode 191 930 = some (.iadd, 1, 0, 0, 0) := by decide +kernel
theorem c_191_931 : zcode 191 931 = some (.iaload, 1, 0, 0, 0) := by decide +kernel
theorem c_191_932 : zcode 191 932 = some (.aload_n 0, 1, 0, 0, 0) := by decide +kernel
theorem c_191_933 : zcode 191 933 = some (.iload_n 3, 1, 0, 0, 0) := by decide +kernel
theorem c_191_934 : zcode 191 934 = some (.iconst 2, 1, 0, 0, 0) := by decide +kernel
theorem c_191_935 : zcode 191 935 = some (.iadd, 1, 0, 0, 0) := by decide +kernel
theorem c_191_936 : zcode 191 936 = some (.iaload, 1, 0, 0, 0) := by decide +kernel
theorem c_191_937 : zcode 191 937 = some (.ifCond .eq 7, 3, 944, 0, 0) := by decide +kernel
theorem c_191_940 : zcode 191 940 = some (.iconst 1, 1, 0, 0, 0) := by decide +kernel
theorem c_191_941 : zcode 191 941 = some (.goto 4, 3, 945, 0, 0) := by decide +kernel
theorem c_191_944 : zcode 191 944 = some (.iconst 0, 1, 0, 0, 0) := by decide +kernel
theorem c_191_945 : zcode 191 945 = some (.invokevirtual 127, 3, 183, 0, 5149) := by decide +kernel
theorem c_191_948 : zcode 191 948 = some (.if_icmp .eq 128, 3, 1076, 0, 0) := by decide +kernel
theorem c_191_953 : zcode 191 953 = some (.aload_n 1, 1, 0, 0, 0) := by decide +kernel
theorem c_191_954 : zcode 191 954 = some (.aload_n 0, 1, 0, 0, 0) := by decide +kernel
theorem c_191_955 : zcode 191 955 = some (.iload_n 3, 1, 0, 0, 0) := by decide +kernel
theorem c_191_956 : zcode 191 956 = some (.iconst 1, 1, 0, 0, 0) := by decide +kernel
theorem c_191_957 : zcode 191 957 = some (.iadd, 1, 0, 0, 0) := by decide +kernel
theorem c_191_958 : zcode 191 958 = some (.iaload, 1, 0, 0, 0) := by decide +kernel
theorem c_191_959 : zcode 191 959 = some (.i2l, 1, 0, 0, 0) := by decide +kernel
theorem c_191_960 : zcode 191 960 = some (.bipush 32, 2, 0, 0, 0) := by decide +kernel
theorem c_191_962 : zcode 191 962 = some (.lshl, 1, 0, 0, 0) := by decide +kernel
theorem c_191_963 : zcode 191 963 = some (.aload_n 0, 1, 0, 0, 0) := by decide +kernel
theorem c_191_964 : zcode 191 964 = some (.iload_n 3, 1, 0, 0, 0) := by decide +kernel
theorem c_191_965 : zcode 191 965 = some (.iconst 2, 1, 0, 0, 0) := by decide +kernel
theorem c_191_966 : zcode 191 966 = some (.iadd, 1, 0, 0, 0) := by decide +kernel
theorem c_191_967 : zcode 191 967 = some (.iaload, 1, 0, 0, 0) := by decide +kernel
theorem c_191_968 : zcode 191 968 = some (.i2l, 1, 0, 0, 0) := by decide +kernel
theorem c_191_969 : zcode 191 969 = some (.ldc2_w 128, 3, 4294967295, 0, 5174) := by decide +kernel
theorem c_191_972 : zcode 191 972 = some (.land, 1, 0, 0, 0) := by decide +kernel
theorem c_191_973 : zcode 191 973 = some (.lor, 1, 0, 0, 0) := by decide +kernel
theorem c_191_974 : zcode 191 974 = some (.invokevirtual 130, 3, 109, 0, 3214) := by decide +kernel
theorem c_191_977 : zcode 191 977 = some (.aload_n 2, 1, 0, 0, 0) := by decide +kernel
theorem c_191_978 : zcode 191 978 = some (.aload_n 0, 1, 0, 0, 0) := by decide +kernel
theorem c_191_979 : zcode 191 979 = some (.iload_n 3, 1, 0, 0, 0) := by decide +kernel
theorem c_191_980 : zcode 191 980 = some (.iconst 1, 1, 0, 0, 0) := by decide +kernel
theorem c_191_981 : zcode 191 981 = some (.iadd, 1, 0, 0, 0) := by decide +kernel
theorem c_191_982 : zcode 191 982 = some (.iaload, 1, 0, 0, 0) := by decide +kernel
theorem c_191_983 : zcode 191 983 = some (.i2l, 1, 0, 0, 0) := by decide +kernel
theorem c_191_984 : zcode 191 984 = some (.bipush 32, 2, 0, 0, 0) := by decide +kernel
theorem c_191_986 : zcode 191 986 = some (.lshl, 1, 0, 0, 0) := by decide +kernel
theorem c_191_987 : zcode 191 987 = some (.aload_n 0, 1, 0, 0, 0) := by decide +kernel
theorem c_191_988 : zcode 191 988 = some (.iload_n 3, 1, 0, 0, 0) := by decide +kernel
theorem c_191_989 : zcode 191 989 = some (.iconst 2, 1, 0, 0, 0) := by decide +kernel
theorem c_191_990 : zcode 191 990 = some (.iadd, 1, 0, 0, 0) := by decide +kernel
theorem c_191_991 : zcode 191 991 = some (.iaload, 1, 0, 0, 0) := by decide +kernel
theorem c_191_992 : zcode 191 992 = some (.i2l, 1, 0, 0, 0) := by decide +kernel
theorem c_191_993 : zcode 191 993 = some (.ldc2_w 128, 3, 4294967295, 0, 5174) := by decide +kernel
theorem c_191_996 : zcode 191 996 = some (.land, 1, 0, 0, 0) := by decide +kernel
theorem c_191_997 : zcode 191 997 = some (.lor, 1, 0, 0, 0) := by decide +kernel
theorem c_191_998 : zcode 191 998 = some (.invokevirtual 134, 3, 184, 0, 5154) := by decide +kernel
theorem c_191_1001 : zcode 191 1001 = some (.lcmp, 1, 0, 0, 0) := by decide +kernel
theorem c_191_1002 : zcode 191 1002 = some (.ifCond .eq 74, 3, 1076, 0, 0) := by decide +kernel
theorem c_191_1007 : zcode 191 1007 = some (.aload_n 1, 1, 0, 0, 0) := by decide +kernel
theorem c_191_1008 : zcode 191 1008 = some (.aload_n 0, 1, 0, 0, 0) := by decide +kernel
theorem c_191_1009 : zcode 191 1009 = some (.iload_n 3, 1, 0, 0, 0) := by decide +kernel
theorem c_191_1010 : zcode 191 1010 = some (.iconst 1, 1, 0, 0, 0) := by decide +kernel
theorem c_191_1011 : zcode 191 1011 = some (.iadd, 1, 0, 0, 0) := by decide +kernel
theorem c_191_1012 : zcode 191 1012 = some (.iaload, 1, 0, 0, 0) := by decide +kernel
theorem c_191_1013 : zcode 191 1013 = some (.invokevirtual 135, 3, 110, 0, 3218) := by decide +kernel
theorem c_191_1016 : zcode 191 1016 = some (.aload_n 2, 1, 0, 0, 0) := by decide +kernel
theorem c_191_1017 : zcode 191 1017 = some (.aload_n 0, 1, 0, 0, 0) := by decide +kernel
theorem c_191_1018 : zcode 191 1018 = some (.iload_n 3, 1, 0, 0, 0) := by decide +kernel
theorem c_191_1019 : zcode 191 1019 = some (.iconst 1, 1, 0, 0, 0) := by decide +kernel
theorem c_191_1020 : zcode 191 1020 = some (.iadd, 1, 0, 0, 0) := by decide +kernel
theorem c_191_1021 : zcode 191 1021 = some (.iaload, 1, 0, 0, 0) := by decide +kernel
theorem c_191_1022 : zcode 191 1022 = some (.invokevirtual 138, 3, 185, 0, 5158) := by decide +kernel
theorem c_191_1025 : zcode 191 1025 = some (.if_icmp .eq 51, 3, 1076, 0, 0) := by decide +kernel
theorem c_191_1030 : zcode 191 1030 = some (.aload_n 1, 1, 0, 0, 0) := by decide +kernel
theorem c_191_1031 : zcode 191 1031 = some (.aload_n 0, 1, 0, 0, 0) := by decide +kernel
theorem c_191_1032 : zcode 191 1032 = some (.iload_n 3, 1, 0, 0, 0) := by decide +kernel
theorem c_191_1033 : zcode 191 1033 = some (.iconst 1, 1, 0, 0, 0) := by decide +kernel
theorem c_191_1034 : zcode 191 1034 = some (.iadd, 1, 0, 0, 0) := by decide +kernel
theorem c_191_1035 : zcode 191 1035 = some (.iaload, 1, 0, 0, 0) := by decide +kernel
theorem c_191_1036 : zcode 191 1036 = some (.invokevirtual 139, 3, 112, 0, 3229) := by decide +kernel
theorem c_191_1039 : zcode 191 1039 = some (.aload_n 2, 1, 0, 0, 0) := by decide +kernel
theorem c_191_1040 : zcode 191 1040 = some (.aload_n 0, 1, 0, 0, 0) := by decide +kernel
theorem c_191_1041 : zcode 191 1041 = some (.iload_n 3, 1, 0, 0, 0) := by decide +kernel
theorem c_191_1042 : zcode 191 1042 = some (.iconst 1, 1, 0, 0, 0) := by decide +kernel
theorem c_191_1043 : zcode 191 1043 = some (.iadd, 1, 0, 0, 0) := by decide +kernel
theorem c_191_1044 : zcode 191 1044 = some (.iaload, 1, 0, 0, 0) := by decide +kernel
theorem c_191_1045 : zcode 191 1045 = some (.invokevirtual 142, 3, 186, 0, 5166) := by decide +kernel
theorem c_191_1048 : zcode 191 1048 = some (.if_icmp .eq 28, 3, 1076, 0, 0) := by decide +kernel
theorem c_191_1053 : zcode 191 1053 = some (.aload_n 1, 1, 0, 0, 0) := by decide +kernel
theorem c_191_1054 : zcode 191 1054 = some (.aload_n 0, 1, 0, 0, 0) := by decide +kernel
theorem c_191_1055 : zcode 191 1055 = some (.iload_n 3, 1, 0, 0, 0) := by decide +kernel
theorem c_191_1056 : zcode 191 1056 = some (.iconst 1, 1, 0, 0, 0) := by decide +kernel
theorem c_191_1057 : zcode 191 1057 = some (.iadd, 1, 0, 0, 0) := by decide +kernel
theorem c_191_1058 : zcode 191 1058 = some (.iaload, 1, 0, 0, 0) := by decide +kernel
theorem c_191_1059 : zcode 191 1059 = some (.invokevirtual 143, 3, 113, 0, 3234) := by decide +kernel
theorem c_191_1062 : zcode 191 1062 = some (.aload_n 2, 1, 0, 0, 0) := by decide +kernel
theorem c_191_1063 : zcode 191 1063 = some (.aload_n 0, 1, 0, 0, 0) := by decide +kernel
theorem c_191_1064 : zcode 191 1064 = some (.iload_n 3, 1, 0, 0, 0) := by decide +kernel
theorem c_191_1065 : zcode 191 1065 = some (.iconst 1, 1, 0, 0, 0) := by decide +kernel
theorem c_191_1066 : zcode 191 1066 = some (.iadd, 1, 0, 0, 0) := by decide +kernel
theorem c_191_1067 : zcode 191 1067 = some (.iaload, 1, 0, 0, 0) := by decide +kernel
theorem c_191_1068 : zcode 191 1068 = some (.invokevirtual 146, 3, 187, 0, 5170) := by decide +kernel
theorem c_191_1071 : zcode 191 1071 = some (.if_icmp .eq 5, 3, 1076, 0, 0) := by decide +kernel
theorem c_191_1076 : zcode 191 1076 = some (.iinc 3 5, 3, 0, 0, 0) := by decide +kernel
theorem c_191_1079 : zcode 191 1079 = some (.goto (-1061), 3, 18, 0, 0) := by decide +kernel
theorem c_191_1082 : zcode 191 1082 = some (.iconst 1, 1, 0, 0, 0) := by decide +kernel
theorem c_191_1083 : zcode 191 1083 = some (.ireturn, 1, 0, 0, 0) := by decide +kernel
/-! ===== what the two hold, behind a call ===== -/
def aWrite (T : List Nat) (z : Int) : Int × List Nat := if 0 ≤ z ∧ z ≤ 255 then (if T.length = 56 then (-4, T) else (((T.length + 1 : Nat) : Int), T ++ [z.toNat])) else (-2, T)
theorem aWrite_0 {T : List Nat} {z : Int} (h : ¬ (0 ≤ z ∧ z ≤ 255)) : aWrite T z = (-2, T) := if_neg h
theorem aWrite_1 {T : List Nat} {z : Int} (h : 0 ≤ z ∧ z ≤ 255) (h1 : T.length = 56) : aWrite T z = (-4, T) := by unfold aWrite; rw [if_pos h, if_pos h1]
theorem aWrite_2 {T : List Nat} {z : Int} (h : 0 ≤ z ∧ z ≤ 255) (h1 : T.length < 56) : aWrite T z = (((T.length + 1 : Nat) : Int), T ++ [z.toNat]) := by unfold aWrite; rw [if_pos h, if_neg (by omega)]
def aPortZ (T : List Nat) (P : aP) (R : aR) (L : aA) (K : Nat → Option aR) : Int × aP × aR × aA × (Nat → Option aR) := if (aFault T).1 = -9 then (100 * ((aPort (aFault T).2).2.1 : Int) + 10 * ((aPort (aFault T).2).2.2.1 : Int) + ((aPort (aFault T).2).2.2.2 : Int), aPort (aFault T).2, aR0, (0, L.2), fun _ => none) else (-3, P, R, L, K)
theorem aPortZ_y {T : List Nat} {P : aP} {R : aR} {L : aA} {K : Nat → Option aR} {rows : Nat → List Nat} (h : aFault T = (-9, rows)) : aPortZ T P R L K = (100 * ((aPort rows).2.1 : Int) + 10 * ((aPort rows).2.2.1 : Int) + ((aPort rows).2.2.2 : Int), aPort rows, aR0, (0, L.2), fun _ => none) := by
  unfold aPortZ
  rw [h]
  exact if_pos rfl
theorem aPortZ_n {T : List Nat} {P : aP} {R : aR} {L : aA} {K : Nat → Option aR} (h : (aFault T).1 ≠ -9) : aPortZ T P R L K = (-3, P, R, L, K) := if_neg h
abbrev QC (V : Int → Prop) (T : List Nat) (P : aP) (R : aR) (L : aA) (Tm : aT) (sd : Int64) (K : Nat → Option aR) (x : wC) (M : wM) : Option Value → wC → wM → Prop := fun v x' M' =>
  ∃ r, V r ∧ v = some (.int (iI r)) ∧ CI x' M' T P R L Tm sd K ∧ (∀ b, 106 ≤ b → M' b = M b) ∧ x'.1 106 = x.1 106
abbrev QM (V : Int → Prop) (T : List Nat) (P : aP) (R : aR) (L : aA) (Tm : aT) (sd : Int64) (K : Nat → Option aR) (x : wC) (M : wM) : Option Value → wC → wM → Prop := fun v x' M' =>
  ∃ r, V r ∧ v = some (.int (iI r)) ∧ MI x' M' T P R L Tm sd K ∧ (∀ b, b < 106 → M' b = M b) ∧ x'.1 0 = x.1 0 ∧ x'.2 = x.2
def LINV (x : wC) (M : wM) : Prop := ∃ (T : List Nat) (P : aP) (R : aR) (L : aA) (Tm : aT) (sd : Int64) (K : Nat → Option aR), CI x M T P R L Tm sd K ∧ MI x M T P R L Tm sd K ∧ AOK T P R L Tm K
theorem rdz (v : Int32) : ∃ z : Int, v = iI z ∧ wR z := ⟨v.toInt, iI_of v, wR_of v⟩
theorem aNs_eq : ∀ s : Int64, s * lI ((6364136223846793005 : Nat) : Int) + lI ((1442695040888963407 : Nat) : Int) = aNs s := fun s => by unfold aNs; rfl
theorem and31 (v : Int32) : ∃ k : Nat, k < 32 ∧ v &&& iI 31 = iI (k : Int) := by
  refine ⟨(v &&& iI 31).toBitVec.toNat, ?_, ?_⟩
  · rw [Int32.toBitVec_and, BitVec.toNat_and]
    exact Nat.lt_of_le_of_lt Nat.and_le_right (by decide)
  · rw [iI_nat]
    apply Int32.toBitVec_inj.mp
    show _ = BitVec.ofNat 32 _
    rw [BitVec.ofNat_toNat, BitVec.setWidth_eq]
section LWZ
variable {x x' : wC} {M M' : wM} {T : List Nat} {P : aP} {R : aR} {L : aA} {Tm : aT} {sd : Int64} {K : Nat → Option aR}
theorem MI_hi (h : MI x M T P R L Tm sd K) (hf : ∀ b, 106 ≤ b → M' b = M b) (hx : x'.1 106 = x.1 106) : MI x' M' T P R L Tm sd K := by
  obtain ⟨h0, h1⟩ := MI_of h ⟨fun j _ => by rw [hf 106 (by omega)], fun b hb => hf b (by omega)⟩
  exact ⟨hx.trans h0, h1⟩
theorem CI_lo (h : CI x M T P R L Tm sd K) (hf : ∀ b, b < 106 → M' b = M b) (h0 : x'.1 0 = x.1 0) (h2 : x'.2 = x.2) : CI x' M' T P R L Tm sd K := by
  have hp := h.1
  obtain ⟨a0, a1, a2⟩ := CI_of h (M' := M') (fun b hb => hf b (by unfold wown at hb; omega))
  obtain ⟨x1, x2⟩ := x
  obtain ⟨y1, y2⟩ := x'
  simp only at h0 h2
  subst h2
  exact ⟨a0, h0.trans a1, a2⟩
theorem AOK_write {z : Int} (h : AOK T P R L Tm K) : AOK (aWrite T z).2 P R L Tm K := by
  obtain ⟨⟨h1, h2⟩, h3⟩ := h
  refine ⟨?_, h3⟩
  by_cases a : 0 ≤ z ∧ z ≤ 255
  · by_cases b : T.length = 56
    · rw [aWrite_1 a b]; exact ⟨h1, h2⟩
    · rw [aWrite_2 a (by omega)]
      refine ⟨by show (T ++ [z.toNat]).length ≤ 56; rw [List.length_append, List.length_singleton]; omega, fun c hc => ?_⟩
      rcases List.mem_append.mp hc with hc | hc
      · exact h2 c hc
      · have : c = z.toNat := by simpa using hc
        omega
  · rw [aWrite_0 a]; exact ⟨h1, h2⟩
theorem AOK_wipe (h : AOK T P R L Tm K) : AOK [] P R L Tm K := ⟨⟨Nat.zero_le _, fun c hc => by simp at hc⟩, h.2⟩
theorem AOK_act {o : Option aR} (h : AOK T P R L Tm K) (ho : ∀ R', o = some R' → aRok P R') : AOK T P (aAct R L o).2.1 (aAct R L o).2.2 Tm K := by
  cases o with
  | none => exact h
  | some R' => exact ⟨h.1, h.2.1, ho R' rfl, aNote_ok h.2.2.2.1 h.2.2.1, h.2.2.2.2⟩
theorem AOK_turn {g s : Int} (h : AOK T P R L Tm K) : AOK T P (aTurn P R L g s).2.1 (aTurn P R L g s).2.2 Tm K := by
  unfold aTurn
  split
  · rename_i hv
    refine AOK_act h (fun R' e => ?_)
    injection e with e
    subst e
    obtain ⟨g', rfl⟩ : ∃ n : Nat, g = n := ⟨g.toNat, by omega⟩
    obtain ⟨s', rfl⟩ : ∃ n : Nat, s = n := ⟨s.toNat, by omega⟩
    rw [Int.toNat_natCast]
    exact aNew_ok h.2.1 (by omega) (by omega) (aGr_le h.2.1 (by omega))
  · exact h
theorem AOK_say {z : Int} (h : AOK T P R L Tm K) : AOK T P (aSayA P R L z).2.1 (aSayA P R L z).2.2 Tm K := by
  unfold aSayA
  split
  · exact AOK_act h (fun R' e => aSpk_ok h.2.2.1 e)
  · exact h
theorem AOK_pause (h : AOK T P R L Tm K) : AOK T P (aPauseA P R L).2.1 (aPauseA P R L).2.2 Tm K := AOK_act h (fun R' e => aRst_ok h.2.2.1 e)
theorem AOK_draw {z : Int} (h : AOK T P R L Tm K) : AOK T P (aDrawA R L z).2.1 (aDrawA R L z).2.2 Tm K := by
  unfold aDrawA
  split
  · exact AOK_act h (fun R' e => aLos_ok h.2.2.1 e)
  · exact h
theorem AOK_undo (h : AOK T P R L Tm K) : AOK T P (aUndo R L).2.1 (aUndo R L).2.2 Tm K := by
  unfold aUndo
  split
  · exact h
  · exact ⟨h.1, h.2.1, h.2.2.2.1.2 _ (by omega), ⟨by have := h.2.2.2.1.1; show L.1 - 1 ≤ 14; omega, fun k hk => h.2.2.2.1.2 k (by have hk : k < L.1 - 1 := hk; omega)⟩, h.2.2.2.2⟩
theorem AOK_time {y i p g : Int} (h : AOK T P R L Tm K) : AOK T P R L (aTime P Tm y i p g).2 K := by
  have hb := h.2.1.2.2.1
  unfold aTime
  split
  · exact h
  · split
    · exact h
    · split
      · exact h
      · refine ⟨h.1, h.2.1, h.2.2.1, h.2.2.2.1, ⟨by show Tm.1 + 1 ≤ 6; omega, fun k hk => ?_⟩, h.2.2.2.2.2⟩
        have hk : k < Tm.1 + 1 := hk
        by_cases e : k = Tm.1
        · subst e
          simp only [aTput, if_true]
          refine ⟨?_, ?_, ?_, ?_, ?_⟩ <;> simp <;> omega
        · simp only [aTput, if_neg e]
          exact h.2.2.2.2.1.2 k (by omega)
theorem AOK_untime (h : AOK T P R L Tm K) : AOK T P R L (0, fun _ _ => 0) K := ⟨h.1, h.2.1, h.2.2.1, h.2.2.2.1, ⟨Nat.zero_le _, fun i hi => absurd hi (Nat.not_lt_zero _)⟩, h.2.2.2.2.2⟩
theorem AOK_keep {z : Int} (h : AOK T P R L Tm K) : AOK T P R L Tm (aKeep R K z).2 := by
  unfold aKeep
  split
  · refine ⟨h.1, h.2.1, h.2.2.1, h.2.2.2.1, h.2.2.2.2.1, fun k R' hk he => ?_⟩
    simp only at he
    split at he
    · injection he with he
      subst he
      exact h.2.2.1
    · exact h.2.2.2.2.2 k R' hk he
  · exact h
theorem AOK_again {z : Int} (h : AOK T P R L Tm K) : AOK T P (aAgain R L K z).2.1 (aAgain R L K z).2.2 Tm K := by
  unfold aAgain
  split
  · rename_i hz
    cases hk : K z.toNat with
    | none => exact h
    | some R' => exact ⟨h.1, h.2.1, h.2.2.2.2.2 z.toNat R' (by omega) hk, ⟨Nat.zero_le _, fun k hk => absurd hk (Nat.not_lt_zero _)⟩, h.2.2.2.2⟩
  · exact h
theorem AOK_port (h : AOK T P R L Tm K) : AOK T (aPortZ T P R L K).2.1 (aPortZ T P R L K).2.2.1 (aPortZ T P R L K).2.2.2.1 Tm (aPortZ T P R L K).2.2.2.2 := by
  by_cases h9 : (aFault T).1 = -9
  · have e : aFault T = (-9, (aFault T).2) := by rw [← h9]
    rw [aPortZ_y e]
    exact ⟨h.1, aIv_port (aFault_iv e), Or.inl rfl, ⟨Nat.zero_le _, fun k hk => absurd hk (Nat.not_lt_zero _)⟩, h.2.2.2.2.1, fun k R' _ he => by simp at he⟩
  · rw [aPortZ_n h9]; exact h
end LWZ
