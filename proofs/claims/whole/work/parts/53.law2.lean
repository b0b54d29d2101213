/-! ===== the law's instructions ===== -/
theorem c_190_0 : zcode 190 0 = some (.new 7, 3, 7, 0, 1013) := by decide +kernel
theorem c_190_3 : zcode 190 3 = some (.dup, 1, 0, 0, 0) := by decide +kernel
theorem c_190_4 : zcode 190 4 = some (.invokespecial 9, 3, 65, 0, 1015) := by decide +kernel
theorem c_190_7 : zcode 190 7 = some (.astore_n 1, 1, 0, 0, 0) := by decide +kernel
theorem c_190_8 : zcode 190 8 = some (.new 10, 3, 8, 0, 3236) := by decide +kernel
theorem c_190_11 : zcode 190 11 = some (.dup, 1, 0, 0, 0) := by decide +kernel
theorem c_190_12 : zcode 190 12 = some (.invokespecial 12, 3, 116, 0, 3238) := by decide +kernel
theorem c_190_15 : zcode 190 15 = some (.astore_n 2, 1, 0, 0, 0) := by decide +kernel
theorem c_190_16 : zcode 190 16 = some (.iconst 0, 1, 0, 0, 0) := by decide +kernel
theorem c_190_17 : zcode 190 17 = some (.istore_n 3, 1, 0, 0, 0) := by decide +kernel
theorem c_190_18 : zcode 190 18 = some (.iload_n 3, 1, 0, 0, 0) := by decide +kernel
theorem c_190_19 : zcode 190 19 = some (.aload_n 0, 1, 0, 0, 0) := by decide +kernel
theorem c_190_20 : zcode 190 20 = some (.arraylength, 1, 0, 0, 0) := by decide +kernel
theorem c_190_21 : zcode 190 21 = some (.iconst 5, 1, 0, 0, 0) := by decide +kernel
theorem c_190_22 : zcode 190 22 = some (.isub, 1, 0, 0, 0) := by decide +kernel
theorem c_190_23 : zcode 190 23 = some (.if_icmp .gt 1059, 3, 1082, 0, 0) := by decide +kernel
theorem c_190_26 : zcode 190 26 = some (.aload_n 0, 1, 0, 0, 0) := by decide +kernel
theorem c_190_27 : zcode 190 27 = some (.iload_n 3, 1, 0, 0, 0) := by decide +kernel
theorem c_190_28 : zcode 190 28 = some (.iaload, 1, 0, 0, 0) := by decide +kernel
theorem c_190_29 : zcode 190 29 = some (.bipush 31, 2, 0, 0, 0) := by decide +kernel
theorem c_190_31 : zcode 190 31 = some (.iand, 1, 0, 0, 0) := by decide +kernel
theorem c_190_32 : zcode 190 32 = some (.tableswitch 1044 0 30 #[140, 163, 176, 189, 202, 225, 258, 291, 324, 347, 400, 433, 456, 469, 492, 505, 544, 583, 606, 629, 668, 701, 750, 803, 816, 829, 872, 921, 975, 998, 1021], 140, 0, 0, 0) := by decide +kernel
theorem c_190_172 : zcode 190 172 = some (.aload_n 1, 1, 0, 0, 0) := by decide +kernel
theorem c_190_173 : zcode 190 173 = some (.aload_n 0, 1, 0, 0, 0) := by decide +kernel
theorem c_190_174 : zcode 190 174 = some (.iload_n 3, 1, 0, 0, 0) := by decide +kernel
theorem c_190_175 : zcode 190 175 = some (.iconst 1, 1, 0, 0, 0) := by decide +kernel
theorem c_190_176 : zcode 190 176 = some (.iadd, 1, 0, 0, 0) := by decide +kernel
theorem c_190_177 : zcode 190 177 = some (.iaload, 1, 0, 0, 0) := by decide +kernel
theorem c_190_178 : zcode 190 178 = some (.invokevirtual 13, 3, 66, 0, 1230) := by decide +kernel
theorem c_190_181 : zcode 190 181 = some (.aload_n 2, 1, 0, 0, 0) := by decide +kernel
theorem c_190_182 : zcode 190 182 = some (.aload_n 0, 1, 0, 0, 0) := by decide +kernel
theorem c_190_183 : zcode 190 183 = some (.iload_n 3, 1, 0, 0, 0) := by decide +kernel
theorem c_190_184 : zcode 190 184 = some (.iconst 1, 1, 0, 0, 0) := by decide +kernel
theorem c_190_185 : zcode 190 185 = some (.iadd, 1, 0, 0, 0) := by decide +kernel
theorem c_190_186 : zcode 190 186 = some (.iaload, 1, 0, 0, 0) := by decide +kernel
theorem c_190_187 : zcode 190 187 = some (.invokevirtual 17, 3, 124, 0, 4127) := by decide +kernel
theorem c_190_190 : zcode 190 190 = some (.if_icmp .eq 886, 3, 1076, 0, 0) := by decide +kernel
theorem c_190_195 : zcode 190 195 = some (.aload_n 1, 1, 0, 0, 0) := by decide +kernel
theorem c_190_196 : zcode 190 196 = some (.invokevirtual 18, 3, 67, 0, 2010) := by decide +kernel
theorem c_190_199 : zcode 190 199 = some (.aload_n 2, 1, 0, 0, 0) := by decide +kernel
theorem c_190_200 : zcode 190 200 = some (.invokevirtual 22, 3, 125, 0, 4135) := by decide +kernel
theorem c_190_203 : zcode 190 203 = some (.if_icmp .eq 873, 3, 1076, 0, 0) := by decide +kernel
theorem c_190_208 : zcode 190 208 = some (.aload_n 1, 1, 0, 0, 0) := by decide +kernel
theorem c_190_209 : zcode 190 209 = some (.invokevirtual 23, 3, 68, 0, 2018) := by decide +kernel
theorem c_190_212 : zcode 190 212 = some (.aload_n 2, 1, 0, 0, 0) := by decide +kernel
theorem c_190_213 : zcode 190 213 = some (.invokevirtual 26, 3, 132, 0, 4139) := by decide +kernel
theorem c_190_216 : zcode 190 216 = some (.if_icmp .eq 860, 3, 1076, 0, 0) := by decide +kernel
theorem c_190_221 : zcode 190 221 = some (.aload_n 1, 1, 0, 0, 0) := by decide +kernel
theorem c_190_222 : zcode 190 222 = some (.invokevirtual 27, 3, 69, 0, 2043) := by decide +kernel
theorem c_190_225 : zcode 190 225 = some (.aload_n 2, 1, 0, 0, 0) := by decide +kernel
theorem c_190_226 : zcode 190 226 = some (.invokevirtual 30, 3, 134, 0, 4167) := by decide +kernel
theorem c_190_229 : zcode 190 229 = some (.if_icmp .eq 847, 3, 1076, 0, 0) := by decide +kernel
theorem c_190_234 : zcode 190 234 = some (.aload_n 1, 1, 0, 0, 0) := by decide +kernel
theorem c_190_235 : zcode 190 235 = some (.aload_n 0, 1, 0, 0, 0) := by decide +kernel
theorem c_190_236 : zcode 190 236 = some (.iload_n 3, 1, 0, 0, 0) := by decide +kernel
theorem c_190_237 : zcode 190 237 = some (.iconst 1, 1, 0, 0, 0) := by decide +kernel
theorem c_190_238 : zcode 190 238 = some (.iadd, 1, 0, 0, 0) := by decide +kernel
theorem c_190_239 : zcode 190 239 = some (.iaload, 1, 0, 0, 0) := by decide +kernel
theorem c_190_240 : zcode 190 240 = some (.invokevirtual 31, 3, 70, 0, 2068) := by decide +kernel
theorem c_190_243 : zcode 190 243 = some (.aload_n 2, 1, 0, 0, 0) := by decide +kernel
theorem c_190_244 : zcode 190 244 = some (.aload_n 0, 1, 0, 0, 0) := by decide +kernel
theorem c_190_245 : zcode 190 245 = some (.iload_n 3, 1, 0, 0, 0) := by decide +kernel
theorem c_190_246 : zcode 190 246 = some (.iconst 1, 1, 0, 0, 0) := by decide +kernel
theorem c_190_247 : zcode 190 247 = some (.iadd, 1, 0, 0, 0) := by decide +kernel
theorem c_190_248 : zcode 190 248 = some (.iaload, 1, 0, 0, 0) := by decide +kernel
theorem c_190_249 : zcode 190 249 = some (.invokevirtual 34, 3, 141, 0, 4174) := by decide +kernel
theorem c_190_252 : zcode 190 252 = some (.if_icmp .eq 824, 3, 1076, 0, 0) := by decide +kernel
theorem c_190_257 : zcode 190 257 = some (.aload_n 1, 1, 0, 0, 0) := by decide +kernel
theorem c_190_258 : zcode 190 258 = some (.aload_n 0, 1, 0, 0, 0) := by decide +kernel
theorem c_190_259 : zcode 190 259 = some (.iload_n 3, 1, 0, 0, 0) := by decide +kernel
theorem c_190_260 : zcode 190 260 = some (.iconst 1, 1, 0, 0, 0) := by decide +kernel
theorem c_190_261 : zcode 190 261 = some (.iadd, 1, 0, 0, 0) := by decide +kernel
theorem c_190_262 : zcode 190 262 = some (.iaload, 1, 0, 0, 0) := by decide +kernel
theorem c_190_263 : zcode 190 263 = some (.aload_n 0, 1, 0, 0, 0) := by decide +kernel
theorem c_190_264 : zcode 190 264 = some (.iload_n 3, 1, 0, 0, 0) := by decide +kernel
theorem c_190_265 : zcode 190 265 = some (.iconst 2, 1, 0, 0, 0) := by decide +kernel
theorem c_190_266 : zcode 190 266 = some (.iadd, 1, 0, 0, 0) := by decide +kernel
theorem c_190_267 : zcode 190 267 = some (.iaload, 1, 0, 0, 0) := by decide +kernel
theorem c_190_268 : zcode 190 268 = some (.invokevirtual 35, 3, 72, 0, 2114) := by decide +kernel
theorem c_190_271 : zcode 190 271 = some (.aload_n 2, 1, 0, 0, 0) := by decide +kernel
theorem c_190_272 : zcode 190 272 = some (.aload_n 0, 1, 0, 0, 0) := by decide +kernel
theorem c_190_273 : zcode 190 273 = some (.iload_n 3, 1, 0, 0, 0) := by decide +kernel
theorem c_190_274 : zcode 190 274 = some (.iconst 1, 1, 0, 0, 0) := by decide +kernel
theorem c_190_275 : zcode 190 275 = some (.iadd, 1, 0, 0, 0) := by decide +kernel
theorem c_190_276 : zcode 190 276 = some (.iaload, 1, 0, 0, 0) := by decide +kernel
theorem c_190_277 : zcode 190 277 = some (.aload_n 0, 1, 0, 0, 0) := by decide +kernel
theorem c_190_278 : zcode 190 278 = some (.iload_n 3, 1, 0, 0, 0) := by decide +kernel
theorem c_190_279 : zcode 190 279 = some (.iconst 2, 1, 0, 0, 0) := by decide +kernel
theorem c_190_280 : zcode 190 280 = some (.iadd, 1, 0, 0, 0) := by decide +kernel
theorem c_190_281 : zcode 190 281 = some (.iaload, 1, 0, 0, 0) := by decide +kernel
theorem c_190_282 : zcode 190 282 = some (.invokevirtual 39, 3, 142, 0, 4192) := by decide +kernel
theorem c_190_285 : zcode 190 285 = some (.if_icmp .eq 791, 3, 1076, 0, 0) := by decide +kernel
theorem c_190_290 : zcode 190 290 = some (.aload_n 1, 1, 0, 0, 0) := by decide +kernel
theorem c_190_291 : zcode 190 291 = some (.aload_n 0, 1, 0, 0, 0) := by decide +kernel
theorem c_190_292 : zcode 190 292 = some (.iload_n 3, 1, 0, 0, 0) := by decide +kernel
theorem c_190_293 : zcode 190 293 = some (.iconst 1, 1, 0, 0, 0) := by decide +kernel
theorem c_190_294 : zcode 190 294 = some (.iadd, 1, 0, 0, 0) := by decide +kernel
theorem c_190_295 : zcode 190 295 = some (.iaload, 1, 0, 0, 0) := by decide +kernel
theorem c_190_296 : zcode 190 296 = some (.aload_n 0, 1, 0, 0, 0) := by decide +kernel
theorem c_190_297 : zcode 190 297 = some (.iload_n 3, 1, 0, 0, 0) := by decide +kernel
theorem c_190_298 : zcode 190 298 = some (.iconst 2, 1, 0, 0, 0) := by decide +kernel
theorem c_190_299 : zcode 190 299 = some (.iadd, 1, 0, 0, 0) := by decide +kernel
theorem c_190_300 : zcode 190 300 = some (.iaload, 1, 0, 0, 0) := by decide +kernel
theorem c_190_301 : zcode 190 301 = some (.invokevirtual 40, 3, 73, 0, 2131) := by decide +kernel
theorem c_190_304 : zcode 190 304 = some (.aload_n 2, 1, 0, 0, 0) := by decide +kernel
theorem c_190_305 : zcode 190 305 = some (.aload_n 0, 1, 0, 0, 0) := by decide +kernel
theorem c_190_306 : zcode 190 306 = some (.iload_n 3, 1, 0, 0, 0) := by decide +kernel
theorem c_190_307 : zcode 190 307 = some (.iconst 1, 1, 0, 0, 0) := by decide +kernel
theorem c_190_308 : zcode 190 308 = some (.iadd, 1, 0, 0, 0) := by decide +kernel
theorem c_190_309 : zcode 190 309 = some (.iaload, 1, 0, 0, 0) := by decide +kernel
theorem c_190_310 : zcode 190 310 = some (.aload_n 0, 1, 0, 0, 0) := by decide +kernel
theorem c_190_311 : zcode 190 311 = some (.iload_n 3, 1, 0, 0, 0) := by decide +kernel
theorem c_190_312 : zcode 190 312 = some (.iconst 2, 1, 0, 0, 0) := by decide +kernel
theorem c_190_313 : zcode 190 313 = some (.iadd, 1, 0, 0, 0) := by decide +kernel
theorem c_190_314 : zcode 190 314 = some (.iaload, 1, 0, 0, 0) := by decide +kernel
theorem c_190_315 : zcode 190 315 = some (.invokevirtual 43, 3, 143, 0, 4204) := by decide +kernel
theorem c_190_318 : zcode 190 318 = some (.if_icmp .eq 758, 3, 1076, 0, 0) := by decide +kernel
theorem c_190_323 : zcode 190 323 = some (.aload_n 1, 1, 0, 0, 0) := by decide +kernel
theorem c_190_324 : zcode 190 324 = some (.aload_n 0, 1, 0, 0, 0) := by decide +kernel
theorem c_190_325 : zcode 190 325 = some (.iload_n 3, 1, 0, 0, 0) := by decide +kernel
theorem c_190_326 : zcode 190 326 = some (.iconst 1, 1, 0, 0, 0) := by decide +kernel
theorem c_190_327 : zcode 190 327 = some (.iadd, 1, 0, 0, 0) := by decide +kernel
theorem c_190_328 : zcode 190 328 = some (.iaload, 1, 0, 0, 0) := by decide +kernel
theorem c_190_329 : zcode 190 329 = some (.aload_n 0, 1, 0, 0, 0) := by decide +kernel
theorem c_190_330 : zcode 190 330 = some (.iload_n 3, 1, 0, 0, 0) := by decide +kernel
theorem c_190_331 : zcode 190 331 = some (.iconst 2, 1, 0, 0, 0) := by decide +kernel
theorem c_190_332 : zcode 190 332 = some (.iadd, 1, 0, 0, 0) := by decide +kernel
theorem c_190_333 : zcode 190 333 = some (.iaload, 1, 0, 0, 0) := by decide +kernel
theorem c_190_334 : zcode 190 334 = some (.invokevirtual 44, 3, 74, 0, 2139) := by decide +kernel
theorem c_190_337 : zcode 190 337 = some (.aload_n 2, 1, 0, 0, 0) := by decide +kernel
theorem c_190_338 : zcode 190 338 = some (.aload_n 0, 1, 0, 0, 0) := by decide +kernel
theorem c_190_339 : zcode 190 339 = some (.iload_n 3, 1, 0, 0, 0) := by decide +kernel
theorem c_190_340 : zcode 190 340 = some (.iconst 1, 1, 0, 0, 0) := by decide +kernel
theorem c_190_341 : zcode 190 341 = some (.iadd, 1, 0, 0, 0) := by decide +kernel
theorem c_190_342 : zcode 190 342 = some (.iaload, 1, 0, 0, 0) := by decide +kernel
theorem c_190_343 : zcode 190 343 = some (.aload_n 0, 1, 0, 0, 0) := by decide +kernel
theorem c_190_344 : zcode 190 344 = some (.iload_n 3, 1, 0, 0, 0) := by decide +kernel
theorem c_190_345 : zcode 190 345 = some (.iconst 2, 1, 0, 0, 0) := by decide +kernel
theorem c_190_346 : zcode 190 346 = some (.iadd, 1, 0, 0, 0) := by decide +kernel
theorem c_190_347 : zcode 190 347 = some (.iaload, 1, 0, 0, 0) := by decide +kernel
theorem c_190_348 : zcode 190 348 = some (.invokevirtual 47, 3, 145, 0, 4212) := by decide +kernel
theorem c_190_351 : zcode 190 351 = some (.if_icmp .eq 725, 3, 1076, 0, 0) := by decide +kernel
theorem c_190_356 : zcode 190 356 = some (.aload_n 1, 1, 0, 0, 0) := by decide +kernel
theorem c_190_357 : zcode 190 357 = some (.aload_n 0, 1, 0, 0, 0) := by decide +kernel
theorem c_190_358 : zcode 190 358 = some (.iload_n 3, 1, 0, 0, 0) := by decide +kernel
theorem c_190_359 : zcode 190 359 = some (.iconst 1, 1, 0, 0, 0) := by decide +kernel
theorem c_190_360 : zcode 190 360 = some (.iadd, 1, 0, 0, 0) := by decide +kernel
theorem c_190_361 : zcode 190 361 = some (.iaload, 1, 0, 0, 0) := by decide +kernel
theorem c_190_362 : zcode 190 362 = some (.invokevirtual 48, 3, 75, 0, 2169) := by decide +kernel
theorem c_190_365 : zcode 190 365 = some (.aload_n 2, 1, 0, 0, 0) := by decide +kernel
theorem c_190_366 : zcode 190 366 = some (.aload_n 0, 1, 0, 0, 0) := by decide +kernel
theorem c_190_367 : zcode 190 367 = some (.iload_n 3, 1, 0, 0, 0) := by decide +kernel
theorem c_190_368 : zcode 190 368 = some (.iconst 1, 1, 0, 0, 0) := by decide +kernel
theorem c_190_369 : zcode 190 369 = some (.iadd, 1, 0, 0, 0) := by decide +kernel
theorem c_190_370 : zcode 190 370 = some (.iaload, 1, 0, 0, 0) := by decide +kernel
theorem c_190_371 : zcode 190 371 = some (.invokevirtual 51, 3, 146, 0, 4233) := by decide +kernel
theorem c_190_374 : zcode 190 374 = some (.if_icmp .eq 702, 3, 1076, 0, 0) := by decide +kernel
theorem c_190_379 : zcode 190 379 = some (.aload_n 1, 1, 0, 0, 0) := by decide +kernel
theorem c_190_380 : zcode 190 380 = some (.aload_n 0, 1, 0, 0, 0) := by decide +kernel
theorem c_190_381 : zcode 190 381 = some (.iload_n 3, 1, 0, 0, 0) := by decide +kernel
theorem c_190_382 : zcode 190 382 = some (.iconst 1, 1, 0, 0, 0) := by decide +kernel
theorem c_190_383 : zcode 190 383 = some (.iadd, 1, 0, 0, 0) := by decide +kernel
theorem c_190_384 : zcode 190 384 = some (.iaload, 1, 0, 0, 0) := by decide +kernel
theorem c_190_385 : zcode 190 385 = some (.aload_n 0, 1, 0, 0, 0) := by decide +kernel
theorem c_190_386 : zcode 190 386 = some (.iload_n 3, 1, 0, 0, 0) := by decide +kernel
theorem c_190_387 : zcode 190 387 = some (.iconst 2, 1, 0, 0, 0) := by decide +kernel
theorem c_190_388 : zcode 190 388 = some (.iadd, 1, 0, 0, 0) := by decide +kernel
theorem c_190_389 : zcode 190 389 = some (.iaload, 1, 0, 0, 0) := by decide +kernel
theorem c_190_390 : zcode 190 390 = some (.aload_n 0, 1, 0, 0, 0) := by decide +kernel
theorem c_190_391 : zcode 190 391 = some (.iload_n 3, 1, 0, 0, 0) := by decide +kernel
theorem c_190_392 : zcode 190 392 = some (.iconst 3, 1, 0, 0, 0) := by decide +kernel
theorem c_190_393 : zcode 190 393 = some (.iadd, 1, 0, 0, 0) := by decide +kernel
theorem c_190_394 : zcode 190 394 = some (.iaload, 1, 0, 0, 0) := by decide +kernel
theorem c_190_395 : zcode 190 395 = some (.aload_n 0, 1, 0, 0, 0) := by decide +kernel
theorem c_190_396 : zcode 190 396 = some (.iload_n 3, 1, 0, 0, 0) := by decide +kernel
theorem c_190_397 : zcode 190 397 = some (.iconst 4, 1, 0, 0, 0) := by decide +kernel
theorem c_190_398 : zcode 190 398 = some (.iadd, 1, 0, 0, 0) := by decide +kernel
theorem c_190_399 : zcode 190 399 = some (.iaload, 1, 0, 0, 0) := by decide +kernel
theorem c_190_400 : zcode 190 400 = some (.invokevirtual 52, 3, 76, 0, 2174) := by decide +kernel
theorem c_190_403 : zcode 190 403 = some (.aload_n 2, 1, 0, 0, 0) := by decide +kernel
theorem c_190_404 : zcode 190 404 = some (.aload_n 0, 1, 0, 0, 0) := by decide +kernel
theorem c_190_405 : zcode 190 405 = some (.iload_n 3, 1, 0, 0, 0) := by decide +kernel
theorem c_190_406 : zcode 190 406 = some (.iconst 1, 1, 0, 0, 0) := by decide +kernel
theorem c_190_407 : zcode 190 407 = some (.iadd, 1, 0, 0, 0) := by decide +kernel
theorem c_190_408 : zcode 190 408 = some (.iaload, 1, 0, 0, 0) := by decide +kernel
theorem c_190_409 : zcode 190 409 = some (.aload_n 0, 1, 0, 0, 0) := by decide +kernel
theorem c_190_410 : zcode 190 410 = some (.iload_n 3, 1, 0, 0, 0) := by decide +kernel
theorem c_190_411 : zcode 190 411 = some (.iconst 2, 1, 0, 0, 0) := by decide +kernel
theorem c_190_412 : zcode 190 412 = some (.iadd, 1, 0, 0, 0) := by decide +kernel
theorem c_190_413 : zcode 190 413 = some (.iaload, 1, 0, 0, 0) := by decide +kernel
theorem c_190_414 : zcode 190 414 = some (.aload_n 0, 1, 0, 0, 0) := by decide +kernel
theorem c_190_415 : zcode 190 415 = some (.iload_n 3, 1, 0, 0, 0) := by decide +kernel
theorem c_190_416 : zcode 190 416 = some (.iconst 3, 1, 0, 0, 0) := by decide +kernel
theorem c_190_417 : zcode 190 417 = some (.iadd, 1, 0, 0, 0) := by decide +kernel
theorem c_190_418 : zcode 190 418 = some (.iaload, 1, 0, 0, 0) := by decide +kernel
theorem c_190_419 : zcode 190 419 = some (.aload_n 0, 1, 0, 0, 0) := by decide +kernel
theorem c_190_420 : zcode 190 420 = some (.iload_n 3, 1, 0, 0, 0) := by decide +kernel
theorem c_190_421 : zcode 190 421 = some (.iconst 4, 1, 0, 0, 0) := by decide +kernel
theorem c_190_422 : zcode 190 422 = some (.iadd, 1, 0, 0, 0) := by decide +kernel
theorem c_190_423 : zcode 190 423 = some (.iaload, 1, 0, 0, 0) := by decide +kernel
theorem c_190_424 : zcode 190 424 = some (.invokevirtual 56, 3, 147, 0, 4237) := by decide +kernel
theorem c_190_427 : zcode 190 427 = some (.if_icmp .eq 649, 3, 1076, 0, 0) := by decide +kernel
theorem c_190_432 : zcode 190 432 = some (.aload_n 1, 1, 0, 0, 0) := by decide +kernel
theorem c_190_433 : zcode 190 433 = some (.aload_n 0, 1, 0, 0, 0) := by decide +kernel
theorem c_190_434 : zcode 190 434 = some (.iload_n 3, 1, 0, 0, 0) := by decide +kernel
theorem c_190_435 : zcode 190 435 = some (.iconst 1, 1, 0, 0, 0) := by decide +kernel
theorem c_190_436 : zcode 190 436 = some (.iadd, 1, 0, 0, 0) := by decide +kernel
theorem c_190_437 : zcode 190 437 = some (.iaload, 1, 0, 0, 0) := by decide +kernel
theorem c_190_438 : zcode 190 438 = some (.aload_n 0, 1, 0, 0, 0) := by decide +kernel
theorem c_190_439 : zcode 190 439 = some (.iload_n 3, 1, 0, 0, 0) := by decide +kernel
theorem c_190_440 : zcode 190 440 = some (.iconst 2, 1, 0, 0, 0) := by decide +kernel
theorem c_190_441 : zcode 190 441 = some (.iadd, 1, 0, 0, 0) := by decide +kernel
theorem c_190_442 : zcode 190 442 = some (.iaload, 1, 0, 0, 0) := by decide +kernel
theorem c_190_443 : zcode 190 443 = some (.invokevirtual 57, 3, 77, 0, 2179) := by decide +kernel
theorem c_190_446 : zcode 190 446 = some (.aload_n 2, 1, 0, 0, 0) := by decide +kernel
theorem c_190_447 : zcode 190 447 = some (.aload_n 0, 1, 0, 0, 0) := by decide +kernel
theorem c_190_448 : zcode 190 448 = some (.iload_n 3, 1, 0, 0, 0) := by decide +kernel
theorem c_190_449 : zcode 190 449 = some (.iconst 1, 1, 0, 0, 0) := by decide +kernel
theorem c_190_450 : zcode 190 450 = some (.iadd, 1, 0, 0, 0) := by decide +kernel
theorem c_190_451 : zcode 190 451 = some (.iaload, 1, 0, 0, 0) := by decide +kernel
theorem c_190_452 : zcode 190 452 = some (.aload_n 0, 1, 0, 0, 0) := by decide +kernel
theorem c_190_453 : zcode 190 453 = some (.iload_n 3, 1, 0, 0, 0) := by decide +kernel
theorem c_190_454 : zcode 190 454 = some (.iconst 2, 1, 0, 0, 0) := by decide +kernel
theorem c_190_455 : zcode 190 455 = some (.iadd, 1, 0, 0, 0) := by decide +kernel
theorem c_190_456 : zcode 190 456 = some (.iaload, 1, 0, 0, 0) := by decide +kernel
theorem c_190_457 : zcode 190 457 = some (.invokevirtual 60, 3, 150, 0, 5002) := by decide +kernel
theorem c_190_460 : zcode 190 460 = some (.if_icmp .eq 616, 3, 1076, 0, 0) := by decide +kernel
theorem c_190_465 : zcode 190 465 = some (.aload_n 1, 1, 0, 0, 0) := by decide +kernel
theorem c_190_466 : zcode 190 466 = some (.aload_n 0, 1, 0, 0, 0) := by decide +kernel
theorem c_190_467 : zcode 190 467 = some (.iload_n 3, 1, 0, 0, 0) := by decide +kernel
theorem c_190_468 : zcode 190 468 = some (.iconst 1, 1, 0, 0, 0) := by decide +kernel
theorem c_190_469 : zcode 190 469 = some (.iadd, 1, 0, 0, 0) := by decide +kernel
theorem c_190_470 : zcode 190 470 = some (.iaload, 1, 0, 0, 0) := by decide +kernel
theorem c_190_471 : zcode 190 471 = some (.invokevirtual 61, 3, 78, 0, 2214) := by decide +kernel
theorem c_190_474 : zcode 190 474 = some (.aload_n 2, 1, 0, 0, 0) := by decide +kernel
theorem c_190_475 : zcode 190 475 = some (.aload_n 0, 1, 0, 0, 0) := by decide +kernel
theorem c_190_476 : zcode 190 476 = some (.iload_n 3, 1, 0, 0, 0) := by decide +kernel
theorem c_190_477 : zcode 190 477 = some (.iconst 1, 1, 0, 0, 0) := by decide +kernel
theorem c_190_478 : zcode 190 478 = some (.iadd, 1, 0, 0, 0) := by decide +kernel
theorem c_190_479 : zcode 190 479 = some (.iaload, 1, 0, 0, 0) := by decide +kernel
theorem c_190_480 : zcode 190 480 = some (.invokevirtual 64, 3, 153, 0, 5014) := by decide +kernel
theorem c_190_483 : zcode 190 483 = some (.if_icmp .eq 593, 3, 1076, 0, 0) := by decide +kernel
theorem c_190_488 : zcode 190 488 = some (.aload_n 1, 1, 0, 0, 0) := by decide +kernel
theorem c_190_489 : zcode 190 489 = some (.invokevirtual 65, 3, 79, 0, 2232) := by decide +kernel
theorem c_190_492 : zcode 190 492 = some (.aload_n 2, 1, 0, 0, 0) := by decide +kernel
theorem c_190_493 : zcode 190 493 = some (.invokevirtual 68, 3, 155, 0, 5026) := by decide +kernel
theorem c_190_496 : zcode 190 496 = some (.if_icmp .eq 580, 3, 1076, 0, 0) := by decide +kernel
theorem c_190_501 : zcode 190 501 = some (.aload_n 1, 1, 0, 0, 0) := by decide +kernel
theorem c_190_502 : zcode 190 502 = some (.aload_n 0, 1, 0, 0, 0) := by decide +kernel
theorem c_190_503 : zcode 190 503 = some (.iload_n 3, 1, 0, 0, 0) := by decide +kernel
theorem c_190_504 : zcode 190 504 = some (.iconst 1, 1, 0, 0, 0) := by decide +kernel
theorem c_190_505 : zcode 190 505 = some (.iadd, 1, 0, 0, 0) := by decide +kernel
theorem c_190_506 : zcode 190 506 = some (.iaload, 1, 0, 0, 0) := by decide +kernel
theorem c_190_507 : zcode 190 507 = some (.invokevirtual 69, 3, 80, 0, 3000) := by decide +kernel
theorem c_190_510 : zcode 190 510 = some (.aload_n 2, 1, 0, 0, 0) := by decide +kernel
theorem c_190_511 : zcode 190 511 = some (.aload_n 0, 1, 0, 0, 0) := by decide +kernel
theorem c_190_512 : zcode 190 512 = some (.iload_n 3, 1, 0, 0, 0) := by decide +kernel
theorem c_190_513 : zcode 190 513 = some (.iconst 1, 1, 0, 0, 0) := by decide +kernel
theorem c_190_514 : zcode 190 514 = some (.iadd, 1, 0, 0, 0) := by decide +kernel
theorem c_190_515 : zcode 190 515 = some (.iaload, 1, 0, 0, 0) := by decide +kernel
theorem c_190_516 : zcode 190 516 = some (.invokevirtual 72, 3, 158, 0, 5034) := by decide +kernel
theorem c_190_519 : zcode 190 519 = some (.if_icmp .eq 557, 3, 1076, 0, 0) := by decide +kernel
theorem c_190_524 : zcode 190 524 = some (.aload_n 1, 1, 0, 0, 0) := by decide +kernel
theorem c_190_525 : zcode 190 525 = some (.invokevirtual 73, 3, 82, 0, 3009) := by decide +kernel
theorem c_190_528 : zcode 190 528 = some (.aload_n 2, 1, 0, 0, 0) := by decide +kernel
theorem c_190_529 : zcode 190 529 = some (.invokevirtual 76, 3, 159, 0, 5045) := by decide +kernel
theorem c_190_532 : zcode 190 532 = some (.if_icmp .eq 544, 3, 1076, 0, 0) := by decide +kernel
theorem c_190_537 : zcode 190 537 = some (.aload_n 1, 1, 0, 0, 0) := by decide +kernel
theorem c_190_538 : zcode 190 538 = some (.aload_n 0, 1, 0, 0, 0) := by decide +kernel
theorem c_190_539 : zcode 190 539 = some (.iload_n 3, 1, 0, 0, 0) := by decide +kernel
theorem c_190_540 : zcode 190 540 = some (.iconst 1, 1, 0, 0, 0) := by decide +kernel
theorem c_190_541 : zcode 190 541 = some (.iadd, 1, 0, 0, 0) := by decide +kernel
theorem c_190_542 : zcode 190 542 = some (.iaload, 1, 0, 0, 0) := by decide +kernel
theorem c_190_543 : zcode 190 543 = some (.ifCond .eq 7, 3, 550, 0, 0) := by decide +kernel
theorem c_190_546 : zcode 190 546 = some (.iconst 1, 1, 0, 0, 0) := by decide +kernel
theorem c_190_547 : zcode 190 547 = some (.goto 4, 3, 551, 0, 0) := by decide +kernel
theorem c_190_550 : zcode 190 550 = some (.iconst 0, 1, 0, 0, 0) := by decide +kernel
theorem c_190_551 : zcode 190 551 = some (.invokevirtual 77, 3, 83, 0, 3021) := by decide +kernel
theorem c_190_554 : zcode 190 554 = some (.aload_n 2, 1, 0, 0, 0) := by decide +kernel
theorem c_190_555 : zcode 190 555 = some (.aload_n 0, 1, 0, 0, 0) := by decide +kernel
theorem c_190_556 : zcode 190 556 = some (.iload_n 3, 1, 0, 0, 0) := by decide +kernel
theorem c_190_557 : zcode 190 557 = some (.iconst 1, 1, 0, 0, 0) := by decide +kernel
theorem c_190_558 : zcode 190 558 = some (.iadd, 1, 0, 0, 0) := by decide +kernel
theorem c_190_559 : zcode 190 559 = some (.iaload, 1, 0, 0, 0) := by decide +kernel
theorem c_190_560 : zcode 190 560 = some (.ifCond .eq 7, 3, 567, 0, 0) := by decide +kernel
theorem c_190_563 : zcode 190 563 = some (.iconst 1, 1, 0, 0, 0) := by decide +kernel
theorem c_190_564 : zcode 190 564 = some (.goto 4, 3, 568, 0, 0) := by decide +kernel
theorem c_190_567 : zcode 190 567 = some (.iconst 0, 1, 0, 0, 0) := by decide +kernel
theorem c_190_568 : zcode 190 568 = some (.invokevirtual 81, 3, 164, 0, 5049) := by decide +kernel
theorem c_190_571 : zcode 190 571 = some (.if_icmp .eq 505, 3, 1076, 0, 0) := by decide +kernel
theorem c_190_576 : zcode 190 576 = some (.aload_n 1, 1, 0, 0, 0) := by decide +kernel
theorem c_190_577 : zcode 190 577 = some (.aload_n 0, 1, 0, 0, 0) := by decide +kernel
theorem c_190_578 : zcode 190 578 = some (.iload_n 3, 1, 0, 0, 0) := by decide +kernel
theorem c_190_579 : zcode 190 579 = some (.iconst 1, 1, 0, 0, 0) := by decide +kernel
theorem c_190_580 : zcode 190 580 = some (.iadd, 1, 0, 0, 0) := by decide +kernel
theorem c_190_581 : zcode 190 581 = some (.iaload, 1, 0, 0, 0) := by decide +kernel
theorem c_190_582 : zcode 190 582 = some (.ifCond .eq 7, 3, 589, 0, 0) := by decide +kernel
theorem c_190_585 : zcode 190 585 = some (.iconst 1, 1, 0, 0, 0) := by decide +kernel
theorem c_190_586 : zcode 190 586 = some (.goto 4, 3, 590, 0, 0) := by decide +kernel
theorem c_190_589 : zcode 190 589 = some (.iconst 0, 1, 0, 0, 0) := by decide +kernel
theorem c_190_590 : zcode 190 590 = some (.invokevirtual 82, 3, 84, 0, 3074) := by decide +kernel
theorem c_190_593 : zcode 190 593 = some (.aload_n 2, 1, 0, 0, 0) := by decide +kernel
theorem c_190_594 : zcode 190 594 = some (.aload_n 0, 1, 0, 0, 0) := by decide +kernel
theorem c_190_595 : zcode 190 595 = some (.iload_n 3, 1, 0, 0, 0) := by decide +kernel
theorem c_190_596 : zcode 190 596 = some (.iconst 1, 1, 0, 0, 0) := by decide +kernel
theorem c_190_597 : zcode 190 597 = some (.iadd, 1, 0, 0, 0) := by decide +kernel
theorem c_190_598 : zcode 190 598 = some (.iaload, 1, 0, 0, 0) := by decide +kernel
theorem c_190_599 : zcode 190 599 = some (.ifCond .eq 7, 3, 606, 0, 0) := by decide +kernel
theorem c_190_602 : zcode 190 602 = some (.iconst 1, 1, 0, 0, 0) := by decide +kernel
theorem c_190_603 : zcode 190 603 = some (.goto 4, 3, 607, 0, 0) := by decide +kernel
theorem c_190_606 : zcode 190 606 = some (.iconst 0, 1, 0, 0, 0) := by decide +kernel
theorem c_190_607 : zcode 190 607 = some (.invokevirtual 85, 3, 165, 0, 5069) := by decide +kernel
theorem c_190_610 : zcode 190 610 = some (.if_icmp .eq 466, 3, 1076, 0, 0) := by decide +kernel
theorem c_190_615 : zcode 190 615 = some (.aload_n 1, 1, 0, 0, 0) := by decide +kernel
theorem c_190_616 : zcode 190 616 = some (.aload_n 0, 1, 0, 0, 0) := by decide +kernel
theorem c_190_617 : zcode 190 617 = some (.iload_n 3, 1, 0, 0, 0) := by decide +kernel
theorem c_190_618 : zcode 190 618 = some (.iconst 1, 1, 0, 0, 0) := by decide +kernel
theorem c_190_619 : zcode 190 619 = some (.iadd, 1, 0, 0, 0) := by decide +kernel
theorem c_190_620 : zcode 190 620 = some (.iaload, 1, 0, 0, 0) := by decide +kernel
theorem c_190_621 : zcode 190 621 = some (.invokevirtual 86, 3, 85, 0, 3082) := by decide +kernel
theorem c_190_624 : zcode 190 624 = some (.aload_n 2, 1, 0, 0, 0) := by decide +kernel
theorem c_190_625 : zcode 190 625 = some (.aload_n 0, 1, 0, 0, 0) := by decide +kernel
theorem c_190_626 : zcode 190 626 = some (.iload_n 3, 1, 0, 0, 0) := by decide +kernel
theorem c_190_627 : zcode 190 627 = some (.iconst 1, 1, 0, 0, 0) := by decide +kernel
theorem c_190_628 : zcode 190 628 = some (.iadd, 1, 0, 0, 0) := by decide +kernel
theorem c_190_629 : zcode 190 629 = some (.iaload, 1, 0, 0, 0) := by decide +kernel
theorem c_190_630 : zcode 190 630 = some (.invokevirtual 89, 3, 167, 0, 5073) := by decide +kernel
theorem c_190_633 : zcode 190 633 = some (.if_icmp .eq 443, 3, 1076, 0, 0) := by decide +kernel
theorem c_190_638 : zcode 190 638 = some (.aload_n 1, 1, 0, 0, 0) := by decide +kernel
theorem c_190_639 : zcode 190 639 = some (.aload_n 0, 1, 0, 0, 0) := by decide +kernel
theorem c_190_640 : zcode 190 640 = some (.iload_n 3, 1, 0, 0, 0) := by decide +kernel
theorem c_190_641 : zcode 190 641 = some (.iconst 1, 1, 0, 0, 0) := by decide +kernel
theorem c_190_642 : zcode 190 642 = some (.iadd, 1, 0, 0, 0) := by decide +kernel
theorem c_190_643 : zcode 190 643 = some (.iaload, 1, 0, 0, 0) := by decide +kernel
theorem c_190_644 : zcode 190 644 = some (.invokevirtual 90, 3, 87, 0, 3090) := by decide +kernel
theorem c_190_647 : zcode 190 647 = some (.aload_n 2, 1, 0, 0, 0) := by decide +kernel
theorem c_190_648 : zcode 190 648 = some (.aload_n 0, 1, 0, 0, 0) := by decide +kernel
theorem c_190_649 : zcode 190 649 = some (.iload_n 3, 1, 0, 0, 0) := by decide +kernel
theorem c_190_650 : zcode 190 650 = some (.iconst 1, 1, 0, 0, 0) := by decide +kernel
theorem c_190_651 : zcode 190 651 = some (.iadd, 1, 0, 0, 0) := by decide +kernel
theorem c_190_652 : zcode 190 652 = some (.iaload, 1, 0, 0, 0) := by decide +kernel
theorem c_190_653 : zcode 190 653 = some (.invokevirtual 93, 3, 168, 0, 5081) := by decide +kernel
theorem c_190_656 : zcode 190 656 = some (.if_icmp .eq 420, 3, 1076, 0, 0) := by decide +kernel
theorem c_190_661 : zcode 190 661 = some (.aload_n 1, 1, 0, 0, 0) := by decide +kernel
theorem c_190_662 : zcode 190 662 = some (.aload_n 0, 1, 0, 0, 0) := by decide +kernel
theorem c_190_663 : zcode 190 663 = some (.iload_n 3, 1, 0, 0, 0) := by decide +kernel
theorem c_190_664 : zcode 190 664 = some (.iconst 1, 1, 0, 0, 0) := by decide +kernel
theorem c_190_665 : zcode 190 665 = some (.iadd, 1, 0, 0, 0) := by decide +kernel
theorem c_190_666 : zcode 190 666 = some (.iaload, 1, 0, 0, 0) := by decide +kernel
theorem c_190_667 : zcode 190 667 = some (.ifCond .eq 7, 3, 674, 0, 0) := by decide +kernel
theorem c_190_670 : zcode 190 670 = some (.iconst 1, 1, 0, 0, 0) := by decide +kernel
theorem c_190_671 : zcode 190 671 = some (.goto 4, 3, 675, 0, 0) := by decide +kernel
theorem c_190_674 : zcode 190 674 = some (.iconst 0, 1, 0, 0, 0) := by decide +kernel
theorem c_190_675 : zcode 190 675 = some (.invokevirtual 94, 3, 88, 0, 3094) := by decide +kernel
theorem c_190_678 : zcode 190 678 = some (.aload_n 2, 1, 0, 0, 0) := by decide +kernel
theorem c_190_679 : zcode 190 679 = some (.aload_n 0, 1, 0, 0, 0) := by decide +kernel
theorem c_190_680 : zcode 190 680 = some (.iload_n 3, 1, 0, 0, 0) := by decide +kernel
theorem c_190_681 : zcode 190 681 = some (.iconst 1, 1, 0, 0, 0) := by decide +kernel
theorem c_190_682 : zcode 190 682 = some (.iadd, 1, 0, 0, 0) := by decide +kernel
theorem c_190_683 : zcode 190 683 = some (.iaload, 1, 0, 0, 0) := by decide +kernel
theorem c_190_684 : zcode 190 684 = some (.ifCond .eq 7, 3, 691, 0, 0) := by decide +kernel
theorem c_190_687 : zcode 190 687 = some (.iconst 1, 1, 0, 0, 0) := by decide +kernel
theorem c_190_688 : zcode 190 688 = some (.goto 4, 3, 692, 0, 0) := by decide +kernel
theorem c_190_691 : zcode 190 691 = some (.iconst 0, 1, 0, 0, 0) := by decide +kernel
theorem c_190_692 : zcode 190 692 = some (.invokevirtual 97, 3, 170, 0, 5085) := by decide +kernel
theorem c_190_695 : zcode 190 695 = some (.if_icmp .eq 381, 3, 1076, 0, 0) := by decide +kernel
theorem c_190_700 : zcode 190 700 = some (.aload_n 1, 1, 0, 0, 0) := by decide +kernel
theorem c_190_701 : zcode 190 701 = some (.aload_n 0, 1, 0, 0, 0) := by decide +kernel
theorem c_190_702 : zcode 190 702 = some (.iload_n 3, 1, 0, 0, 0) := by decide +kernel
theorem c_190_703 : zcode 190 703 = some (.iconst 1, 1, 0, 0, 0) := by decide +kernel
theorem c_190_704 : zcode 190 704 = some (.iadd, 1, 0, 0, 0) := by decide +kernel
theorem c_190_705 : zcode 190 705 = some (.iaload, 1, 0, 0, 0) := by decide +kernel
theorem c_190_706 : zcode 190 706 = some (.aload_n 0, 1, 0, 0, 0) := by decide +kernel
theorem c_190_707 : zcode 190 707 = some (.iload_n 3, 1, 0, 0, 0) := by decide +kernel
theorem c_190_708 : zcode 190 708 = some (.iconst 2, 1, 0, 0, 0) := by decide +kernel
theorem c_190_709 : zcode 190 709 = some (.iadd, 1, 0, 0, 0) := by decide +kernel
theorem c_190_710 : zcode 190 710 = some (.iaload, 1, 0, 0, 0) := by decide +kernel
theorem c_190_711 : zcode 190 711 = some (.invokevirtual 98, 3, 93, 0, 3113) := by decide +kernel
theorem c_190_714 : zcode 190 714 = some (.aload_n 2, 1, 0, 0, 0) := by decide +kernel
theorem c_190_715 : zcode 190 715 = some (.aload_n 0, 1, 0, 0, 0) := by decide +kernel
theorem c_190_716 : zcode 190 716 = some (.iload_n 3, 1, 0, 0, 0) := by decide +kernel
theorem c_190_717 : zcode 190 717 = some (.iconst 1, 1, 0, 0, 0) := by decide +kernel
theorem c_190_718 : zcode 190 718 = some (.iadd, 1, 0, 0, 0) := by decide +kernel
theorem c_190_719 : zcode 190 719 = some (.iaload, 1, 0, 0, 0) := by decide +kernel
theorem c_190_720 : zcode 190 720 = some (.aload_n 0, 1, 0, 0, 0) := by decide +kernel
theorem c_190_721 : zcode 190 721 = some (.iload_n 3, 1, 0, 0, 0) := by decide +kernel
theorem c_190_722 : zcode 190 722 = some (.iconst 2, 1, 0, 0, 0) := by decide +kernel
theorem c_190_723 : zcode 190 723 = some (.iadd, 1, 0, 0, 0) := by decide +kernel
theorem c_190_724 : zcode 190 724 = some (.iaload, 1, 0, 0, 0) := by decide +kernel
theorem c_190_725 : zcode 190 725 = some (.invokevirtual 101, 3, 172, 0, 5096) := by decide +kernel
theorem c_190_728 : zcode 190 728 = some (.if_icmp .eq 348, 3, 1076, 0, 0) := by decide +kernel
theorem c_190_733 : zcode 190 733 = some (.aload_n 1, 1, 0, 0, 0) := by decide +kernel
theorem c_190_734 : zcode 190 734 = some (.aload_n 0, 1, 0, 0, 0) := by decide +kernel
theorem c_190_735 : zcode 190 735 = some (.iload_n 3, 1, 0, 0, 0) := by decide +kernel
theorem c_190_736 : zcode 190 736 = some (.iconst 1, 1, 0, 0, 0) := by decide +kernel
theorem c_190_737 : zcode 190 737 = some (.iadd, 1, 0, 0, 0) := by decide +kernel
theorem c_190_738 : zcode 190 738 = some (.iaload, 1, 0, 0, 0) := by decide +kernel
theorem c_190_739 : zcode 190 739 = some (.aload_n 0, 1, 0, 0, 0) := by decide +kernel
theorem c_190_740 : zcode 190 740 = some (.iload_n 3, 1, 0, 0, 0) := by decide +kernel
theorem c_190_741 : zcode 190 741 = some (.iconst 2, 1, 0, 0, 0) := by decide +kernel
theorem c_190_742 : zcode 190 742 = some (.iadd, 1, 0, 0, 0) := by decide +kernel
theorem c_190_743 : zcode 190 743 = some (.iaload, 1, 0, 0, 0) := by decide +kernel
theorem c_190_744 : zcode 190 744 = some (.ifCond .eq 7, 3, 751, 0, 0) := by decide +kernel
theorem c_190_747 : zcode 190 747 = some (.iconst 1, 1, 0, 0, 0) := by decide +kernel
theorem c_190_748 : zcode 190 748 = some (.goto 4, 3, 752, 0, 0) := by decide +kernel
theorem c_190_751 : zcode 190 751 = some (.iconst 0, 1, 0, 0, 0) := by decide +kernel
theorem c_190_752 : zcode 190 752 = some (.invokevirtual 102, 3, 96, 0, 3124) := by decide +kernel
theorem c_190_755 : zcode 190 755 = some (.aload_n 2, 1, 0, 0, 0) := by decide +kernel
theorem c_190_756 : zcode 190 756 = some (.aload_n 0, 1, 0, 0, 0) := by decide +kernel
theorem c_190_757 : zcode 190 757 = some (.iload_n 3, 1, 0, 0, 0) := by decide +kernel
theorem c_190_758 : zcode 190 758 = some (.iconst 1, 1, 0, 0, 0) := by decide +kernel
theorem c_190_759 : zcode 190 759 = some (.iadd, 1, 0, 0, 0) := by decide +kernel
theorem c_190_760 : zcode 190 760 = some (.iaload, 1, 0, 0, 0) := by decide +kernel
theorem c_190_761 : zcode 190 761 = some (.aload_n 0, 1, 0, 0, 0) := by decide +kernel
theorem c_190_762 : zcode 190 762 = some (.iload_n 3, 1, 0, 0, 0) := by decide +kernel
theorem c_190_763 : zcode 190 763 = some (.iconst 2, 1, 0, 0, 0) := by decide +kernel
theorem c_190_764 : zcode 190 764 = some (.iadd, 1, 0, 0, 0) := by decide +kernel
theorem c_190_765 : zcode 190 765 = some (.iaload, 1, 0, 0, 0) := by decide +kernel
theorem c_190_766 : zcode 190 766 = some (.ifCond .eq 7, 3, 773, 0, 0) := by decide +kernel
theorem c_190_769 : zcode 190 769 = some (.iconst 1, 1, 0, 0, 0) := by decide +kernel
theorem c_190_770 : zcode 190 770 = some (.goto 4, 3, 774, 0, 0) := by decide +kernel
theorem c_190_773 : zcode 190 773 = some (.iconst 0, 1, 0, 0, 0) := by decide +kernel
theorem c_190_774 : zcode 190 774 = some (.invokevirtual 106, 3, 177, 0, 5105) := by decide +kernel
theorem c_190_777 : zcode 190 777 = some (.if_icmp .eq 299, 3, 1076, 0, 0) := by decide +kernel
theorem c_190_782 : zcode 190 782 = some (.aload_n 1, 1, 0, 0, 0) := by decide +kernel
theorem c_190_783 : zcode 190 783 = some (.aload_n 0, 1, 0, 0, 0) := by decide +kernel
theorem c_190_784 : zcode 190 784 = some (.iload_n 3, 1, 0, 0, 0) := by decide +kernel
theorem c_190_785 : zcode 190 785 = some (.iconst 1, 1, 0, 0, 0) := by decide +kernel
theorem c_190_786 : zcode 190 786 = some (.iadd, 1, 0, 0, 0) := by decide +kernel
theorem c_190_787 : zcode 190 787 = some (.iaload, 1, 0, 0, 0) := by decide +kernel
theorem c_190_788 : zcode 190 788 = some (.aload_n 0, 1, 0, 0, 0) := by decide +kernel
theorem c_190_789 : zcode 190 789 = some (.iload_n 3, 1, 0, 0, 0) := by decide +kernel
theorem c_190_790 : zcode 190 790 = some (.iconst 2, 1, 0, 0, 0) := by decide +kernel
theorem c_190_791 : zcode 190 791 = some (.iadd, 1, 0, 0, 0) := by decide +kernel
theorem c_190_792 : zcode 190 792 = some (.iaload, 1, 0, 0, 0) := by decide +kernel
theorem c_190_793 : zcode 190 793 = some (.aload_n 0, 1, 0, 0, 0) := by decide +kernel
theorem c_190_794 : zcode 190 794 = some (.iload_n 3, 1, 0, 0, 0) := by decide +kernel
theorem c_190_795 : zcode 190 795 = some (.iconst 3, 1, 0, 0, 0) := by decide +kernel
theorem c_190_796 : zcode 190 796 = some (.iadd, 1, 0, 0, 0) := by decide +kernel
theorem c_190_797 : zcode 190 797 = some (.iaload, 1, 0, 0, 0) := by decide +kernel
theorem c_190_798 : zcode 190 798 = some (.aload_n 0, 1, 0, 0, 0) := by decide +kernel
theorem c_190_799 : zcode 190 799 = some (.iload_n 3, 1, 0, 0, 0) := by decide +kernel
theorem c_190_800 : zcode 190 800 = some (.iconst 4, 1, 0, 0, 0) := by decide +kernel
theorem c_190_801 : zcode 190 801 = some (.iadd, 1, 0, 0, 0) := by decide +kernel
theorem c_190_802 : zcode 190 802 = some (.iaload, 1, 0, 0, 0) := by decide +kernel
theorem c_190_803 : zcode 190 803 = some (.invokevirtual 107, 3, 100, 0, 3147) := by decide +kernel
theorem c_190_806 : zcode 190 806 = some (.aload_n 2, 1, 0, 0, 0) := by decide +kernel
theorem c_190_807 : zcode 190 807 = some (.aload_n 0, 1, 0, 0, 0) := by decide +kernel
theorem c_190_808 : zcode 190 808 = some (.iload_n 3, 1, 0, 0, 0) := by decide +kernel
theorem c_190_809 : zcode 190 809 = some (.iconst 1, 1, 0, 0, 0) := by decide +kernel
theorem c_190_810 : zcode 190 810 = some (.iadd, 1, 0, 0, 0) := by decide +kernel
theorem c_190_811 : zcode 190 811 = some (.iaload, 1, 0, 0, 0) := by decide +kernel
theorem c_190_812 : zcode 190 812 = some (.aload_n 0, 1, 0, 0, 0) := by decide +kernel
theorem c_190_813 : zcode 190 813 = some (.iload_n 3, 1, 0, 0, 0) := by decide +kernel
theorem c_190_814 : zcode 190 814 = some (.iconst 2, 1, 0, 0, 0) := by decide +kernel
theorem c_190_815 : zcode 190 815 = some (.iadd, 1, 0, 0, 0) := by decide +kernel
theorem c_190_816 : zcode 190 816 = some (.iaload, 1, 0, 0, 0) := by decide +kernel
theorem c_190_817 : zcode 190 817 = some (.aload_n 0, 1, 0, 0, 0) := by decide +kernel
theorem c_190_818 : zcode 190 818 = some (.iload_n 3, 1, 0, 0, 0) := by decide +kernel
theorem c_190_819 : zcode 190 819 = some (.iconst 3, 1, 0, 0, 0) := by decide +kernel
theorem c_190_820 : zcode 190 820 = some (.iadd, 1, 0, 0, 0) := by decide +kernel
theorem c_190_821 : zcode 190 821 = some (.iaload, 1, 0, 0, 0) := by decide +kernel
theorem c_190_822 : zcode 190 822 = some (.aload_n 0, 1, 0, 0, 0) := by decide +kernel
theorem c_190_823 : zcode 190 823 = some (.iload_n 3, 1, 0, 0, 0) := by decide +kernel
theorem c_190_824 : zcode 190 824 = some (.iconst 4, 1, 0, 0, 0) := by decide +kernel
theorem c_190_825 : zcode 190 825 = some (.iadd, 1, 0, 0, 0) := by decide +kernel
theorem c_190_826 : zcode 190 826 = some (.iaload, 1, 0, 0, 0) := by decide +kernel
theorem c_190_827 : zcode 190 827 = some (.invokevirtual 110, 3, 178, 0, 5125) := by decide +kernel
theorem c_190_830 : zcode 190 830 = some (.if_icmp .eq 246, 3, 1076, 0, 0) := by decide +kernel
theorem c_190_835 : zcode 190 835 = some (.aload_n 1, 1, 0, 0, 0) := by decide +kernel
theorem c_190_836 : zcode 190 836 = some (.invokevirtual 111, 3, 101, 0, 3166) := by decide +kernel
theorem c_190_839 : zcode 190 839 = some (.aload_n 2, 1, 0, 0, 0) := by decide +kernel
theorem c_190_840 : zcode 190 840 = some (.invokevirtual 114, 3, 179, 0, 5130) := by decide +kernel
theorem c_190_843 : zcode 190 843 = some (.if_icmp .eq 233, 3, 1076, 0, 0) := by decide +kernel
theorem c_190_848 : zcode 190 848 = some (.aload_n 1, 1, 0, 0, 0) := by decide +kernel
theorem c_190_849 : zcode 190 849 = some (.invokevirtual 115, 3, 102, 0, 3175) := by decide +kernel
theorem c_190_852 : zcode 190 852 = some (.aload_n 2, 1, 0, 0, 0) := by decide +kernel
theorem c_190_853 : zcode 190 853 = some (.invokevirtual 118, 3, 180, 0, 5134) := by decide +kernel
theorem c_190_856 : zcode 190 856 = some (.if_icmp .eq 220, 3, 1076, 0, 0) := by decide +kernel
theorem c_190_861 : zcode 190 861 = some (.aload_n 1, 1, 0, 0, 0) := by decide +kernel
theorem c_190_862 : zcode 190 862 = some (.aload_n 0, 1, 0, 0, 0) := by decide +kernel
theorem c_190_863 : zcode 190 863 = some (.iload_n 3, 1, 0, 0, 0) := by decide +kernel
theorem c_190_864 : zcode 190 864 = some (.iconst 1, 1, 0, 0, 0) := by decide +kernel
theorem c_190_865 : zcode 190 865 = some (.iadd, 1, 0, 0, 0) := by decide +kernel
theorem c_190_866 : zcode 190 866 = some (.iaload, 1, 0, 0, 0) := by decide +kernel
theorem c_190_867 : zcode 190 867 = some (.aload_n 0, 1, 0, 0, 0) := by decide +kernel
theorem c_190_868 : zcode 190 868 = some (.iload_n 3, 1, 0, 0, 0) := by decide +kernel
theorem c_190_869 : zcode 190 869 = some (.iconst 2, 1, 0, 0, 0) := by decide +kernel
theorem c_190_870 : zcode 190 870 = some (.iadd, 1, 0, 0, 0) := by decide +kernel
theorem c_190_871 : zcode 190 871 = some (.iaload, 1, 0, 0, 0) := by decide +kernel
theorem c_190_872 : zcode 190 872 = some (.aload_n 0, 1, 0, 0, 0) := by decide +kernel
theorem c_190_873 : zcode 190 873 = some (.iload_n 3, 1, 0, 0, 0) := by decide +kernel
theorem c_190_874 : zcode 190 874 = some (.iconst 3, 1, 0, 0, 0) := by decide +kernel
theorem c_190_875 : zcode 190 875 = some (.iadd, 1, 0, 0, 0) := by decide +kernel
theorem c_190_876 : zcode 190 876 = some (.iaload, 1, 0, 0, 0) := by decide +kernel
theorem c_190_877 : zcode 190 877 = some (.invokevirtual 119, 3, 103, 0, 3187) := by decide +kernel
theorem c_190_880 : zcode 190 880 = some (.aload_n 2, 1, 0, 0, 0) := by decide +kernel
theorem c_190_881 : zcode 190 881 = some (.aload_n 0, 1, 0, 0, 0) := by decide +kernel
theorem c_190_882 : zcode 190 882 = some (.iload_n 3, 1, 0, 0, 0) := by decide +kernel
theorem c_190_883 : zcode 190 883 = some (.iconst 1, 1, 0, 0, 0) := by decide +kernel
theorem c_190_884 : zcode 190 884 = some (.iadd, 1, 0, 0, 0) := by decide +kernel
theorem c_190_885 : zcode 190 885 = some (.iaload, 1, 0, 0, 0) := by decide +kernel
theorem c_190_886 : zcode 190 886 = some (.aload_n 0, 1, 0, 0, 0) := by decide +kernel
theorem c_190_887 : zcode 190 887 = some (.iload_n 3, 1, 0, 0, 0) := by decide +kernel
theorem c_190_888 : zcode 190 888 = some (.iconst 2, 1, 0, 0, 0) := by decide +kernel
theorem c_190_889 : zcode 190 889 = some (.iadd, 1, 0, 0, 0) := by decide +kernel
theorem c_190_890 : zcode 190 890 = some (.iaload, 1, 0, 0, 0) := by decide +kernel
theorem c_190_891 : zcode 190 891 = some (.aload_n 0, 1, 0, 0, 0) := by decide +kernel
theorem c_190_892 : zcode 190 892 = some (.iload_n 3, 1, 0, 0, 0) := by decide +kernel
theorem c_190_893 : zcode 190 893 = some (.iconst 3, 1, 0, 0, 0) := by decide +kernel
theorem c_190_894 : zcode 190 894 = some (.iadd, 1, 0, 0, 0) := by decide +kernel
theorem c_190_895 : zcode 190 895 = some (.iaload, 1, 0, 0, 0) := by decide +kernel
theorem c_190_896 : zcode 190 896 = some (.invokevirtual 123, 3, 182, 0, 5138) := by decide +kernel
theorem c_190_899 : zcode 190 899 = some (.if_icmp .eq 177, 3, 1076, 0, 0) := by decide +kernel
theorem c_190_904 : zcode 190 904 = some (.aload_n 1, 1, 0, 0, 0) := by decide +kernel
theorem c_190_905 : zcode 190 905 = some (.aload_n 0, 1, 0, 0, 0) := by decide +kernel
theorem c_190_906 : zcode 190 906 = some (.iload_n 3, 1, 0, 0, 0) := by decide +kernel
theorem c_190_907 : zcode 190 907 = some (.iconst 1, 1, 0, 0, 0) := by decide +kernel
theorem c_190_908 : zcode 190 908 = some (.iadd, 1, 0, 0, 0) := by decide +kernel
theorem c_190_909 : zcode 190 909 = some (.iaload, 1, 0, 0, 0) := by decide +kernel
theorem c_190_910 : zcode 190 910 = some (.aload_n 0, 1, 0, 0, 0) := by decide +kernel
theorem c_190_911 : zcode 190 911 = some (.iload_n 3, 1, 0, 0, 0) := by decide +kernel
theorem c_190_912 : zcode 190 912 = some (.iconst 2, 1, 0, 0, 0) := by decide +kernel
theorem c_190_913 : zcode 190 913 = some (.iadd, 1, 0, 0, 0) := by decide +kernel
theorem c_190_914 : zcode 190 914 = some (.iaload, 1, 0, 0, 0) := by decide +kernel
theorem c_190_915 : zcode 190 915 = some (.ifCond .eq 7, 3, 922, 0, 0) := by decide +kernel
theorem c_190_918 : zcode 190 918 = some (.iconst 1, 1, 0, 0, 0) := by decide +kernel
theorem c_190_919 : zcode 190 919 = some (.goto 4, 3, 923, 0, 0) := by decide +kernel
theorem c_190_922 : zcode 190 922 = some (.iconst 0, 1, 0, 0, 0) := by decide +kernel
theorem c_190_923 : zcode 190 923 = some (.invokevirtual 124, 3, 107, 0, 3201) := by decide +kernel
theorem c_190_926 : zcode 190 926 = some (.aload_n 2, 1, 0, 0, 0) := by decide +kernel
theorem c_190_927 : zcode 190 927 = some (.aload_n 0, 1, 0, 0, 0) := by decide +kernel
theorem c_190_928 : zcode 190 928 = some (.iload_n 3, 1, 0, 0, 0) := by decide +kernel
theorem c_190_929 : zcode 190 929 = some (.iconst 1, 1, 0, 0, 0) := by decide +kernel
theorem c_190_930 : zcode 190 930 = some (.iadd, 1, 0, 0, 0) := by decide +kernel
theorem c_190_931 : zcode 190 931 = some (.iaload, 1, 0, 0, 0) := by decide +kernel
theorem c_190_932 : zcode 190 932 = some (.aload_n 0, 1, 0, 0, 0) := by decide +kernel
theorem c_190_933 : zcode 190 933 = some (.iload_n 3, 1, 0, 0, 0) := by decide +kernel
theorem c_190_934 : zcode 190 934 = some (.iconst 2, 1, 0, 0, 0) := by decide +kernel
theorem c_190_935 : zcode 190 935 = some (.iadd, 1, 0, 0, 0) := by decide +kernel
theorem c_190_936 : zcode 190 936 = some (.iaload, 1, 0, 0, 0) := by decide +kernel
theorem c_190_937 : zcode 190 937 = some (.ifCond .eq 7, 3, 944, 0, 0) := by decide +kernel
theorem c_190_940 : zcode 190 940 = some (.iconst 1, 1, 0, 0, 0) := by decide +kernel
theorem c_190_941 : zcode 190 941 = some (.goto 4, 3, 945, 0, 0) := by decide +kernel
theorem c_190_944 : zcode 190 944 = some (.iconst 0, 1, 0, 0, 0) := by decide +kernel
theorem c_190_945 : zcode 190 945 = some (.invokevirtual 127, 3, 183, 0, 5146) := by decide +kernel
theorem c_190_948 : zcode 190 948 = some (.if_icmp .eq 128, 3, 1076, 0, 0) := by decide +kernel
theorem c_190_953 : zcode 190 953 = some (.aload_n 1, 1, 0, 0, 0) := by decide +kernel
theorem c_190_954 : zcode 190 954 = some (.aload_n 0, 1, 0, 0, 0) := by decide +kernel
theorem c_190_955 : zcode 190 955 = some (.iload_n 3, 1, 0, 0, 0) := by decide +kernel
theorem c_190_956 : zcode 190 956 = some (.iconst 1, 1, 0, 0, 0) := by decide +kernel
theorem c_190_957 : zcode 190 957 = some (.iadd, 1, 0, 0, 0) := by decide +kernel
theorem c_190_958 : zcode 190 958 = some (.iaload, 1, 0, 0, 0) := by decide +kernel
theorem c_190_959 : zcode 190 959 = some (.i2l, 1, 0, 0, 0) := by decide +kernel
theorem c_190_960 : zcode 190 960 = some (.bipush 32, 2, 0, 0, 0) := by decide +kernel
theorem c_190_962 : zcode 190 962 = some (.lshl, 1, 0, 0, 0) := by decide +kernel
theorem c_190_963 : zcode 190 963 = some (.aload_n 0, 1, 0, 0, 0) := by decide +kernel
theorem c_190_964 : zcode 190 964 = some (.iload_n 3, 1, 0, 0, 0) := by decide +kernel
theorem c_190_965 : zcode 190 965 = some (.iconst 2, 1, 0, 0, 0) := by decide +kernel
theorem c_190_966 : zcode 190 966 = some (.iadd, 1, 0, 0, 0) := by decide +kernel
theorem c_190_967 : zcode 190 967 = some (.iaload, 1, 0, 0, 0) := by decide +kernel
theorem c_190_968 : zcode 190 968 = some (.i2l, 1, 0, 0, 0) := by decide +kernel
theorem c_190_969 : zcode 190 969 = some (.ldc2_w 128, 3, 4294967295, 0, 5171) := by decide +kernel
theorem c_190_972 : zcode 190 972 = some (.land, 1, 0, 0, 0) := by decide +kernel
theorem c_190_973 : zcode 190 973 = some (.lor, 1, 0, 0, 0) := by decide +kernel
theorem c_190_974 : zcode 190 974 = some (.invokevirtual 130, 3, 109, 0, 3211) := by decide +kernel
theorem c_190_977 : zcode 190 977 = some (.aload_n 2, 1, 0, 0, 0) := by decide +kernel
theorem c_190_978 : zcode 190 978 = some (.aload_n 0, 1, 0, 0, 0) := by decide +kernel
theorem c_190_979 : zcode 190 979 = some (.iload_n 3, 1, 0, 0, 0) := by decide +kernel
theorem c_190_980 : zcode 190 980 = some (.iconst 1, 1, 0, 0, 0) := by decide +kernel
theorem c_190_981 : zcode 190 981 = some (.iadd, 1, 0, 0, 0) := by decide +kernel
theorem c_190_982 : zcode 190 982 = some (.iaload, 1, 0, 0, 0) := by decide +kernel
theorem c_190_983 : zcode 190 983 = some (.i2l, 1, 0, 0, 0) := by decide +kernel
theorem c_190_984 : zcode 190 984 = some (.bipush 32, 2, 0, 0, 0) := by decide +kernel
theorem c_190_986 : zcode 190 986 = some (.lshl, 1, 0, 0, 0) := by decide +kernel
theorem c_190_987 : zcode 190 987 = some (.aload_n 0, 1, 0, 0, 0) := by decide +kernel
theorem c_190_988 : zcode 190 988 = some (.iload_n 3, 1, 0, 0, 0) := by decide +kernel
theorem c_190_989 : zcode 190 989 = some (.iconst 2, 1, 0, 0, 0) := by decide +kernel
theorem c_190_990 : zcode 190 990 = some (.iadd, 1, 0, 0, 0) := by decide +kernel
theorem c_190_991 : zcode 190 991 = some (.iaload, 1, 0, 0, 0) := by decide +kernel
theorem c_190_992 : zcode 190 992 = some (.i2l, 1, 0, 0, 0) := by decide +kernel
theorem c_190_993 : zcode 190 993 = some (.ldc2_w 128, 3, 4294967295, 0, 5171) := by decide +kernel
theorem c_190_996 : zcode 190 996 = some (.land, 1, 0, 0, 0) := by decide +kernel
theorem c_190_997 : zcode 190 997 = some (.lor, 1, 0, 0, 0) := by decide +kernel
theorem c_190_998 : zcode 190 998 = some (.invokevirtual 134, 3, 184, 0, 5151) := by decide +kernel
theorem c_190_1001 : zcode 190 1001 = some (.lcmp, 1, 0, 0, 0) := by decide +kernel
theorem c_190_1002 : zcode 190 1002 = some (.ifCond .eq 74, 3, 1076, 0, 0) := by decide +kernel
theorem c_190_1007 : zcode 190 1007 = some (.aload_n 1, 1, 0, 0, 0) := by decide +kernel
theorem c_190_1008 : zcode 190 1008 = some (.aload_n 0, 1, 0, 0, 0) := by decide +kernel
theorem c_190_1009 : zcode 190 1009 = some (.iload_n 3, 1, 0, 0, 0) := by decide +kernel
theorem c_190_1010 : zcode 190 1010 = some (.iconst 1, 1, 0, 0, 0) := by decide +kernel
theorem c_190_1011 : zcode 190 1011 = some (.iadd, 1, 0, 0, 0) := by decide +kernel
theorem c_190_1012 : zcode 190 1012 = some (.iaload, 1, 0, 0, 0) := by decide +kernel
theorem c_190_1013 : zcode 190 1013 = some (.invokevirtual 135, 3, 110, 0, 3215) := by decide +kernel
theorem c_190_1016 : zcode 190 1016 = some (.aload_n 2, 1, 0, 0, 0) := by decide +kernel
theorem c_190_1017 : zcode 190 1017 = some (.aload_n 0, 1, 0, 0, 0) := by decide +kernel
theorem c_190_1018 : zcode 190 1018 = some (.iload_n 3, 1, 0, 0, 0) := by decide +kernel
theorem c_190_1019 : zcode 190 1019 = some (.iconst 1, 1, 0, 0, 0) := by decide +kernel
theorem c_190_1020 : zcode 190 1020 = some (.iadd, 1, 0, 0, 0) := by decide +kernel
theorem c_190_1021 : zcode 190 1021 = some (.iaload, 1, 0, 0, 0) := by decide +kernel
theorem c_190_1022 : zcode 190 1022 = some (.invokevirtual 138, 3, 185, 0, 5155) := by decide +kernel
theorem c_190_1025 : zcode 190 1025 = some (.if_icmp .eq 51, 3, 1076, 0, 0) := by decide +kernel
theorem c_190_1030 : zcode 190 1030 = some (.aload_n 1, 1, 0, 0, 0) := by decide +kernel
theorem c_190_1031 : zcode 190 1031 = some (.aload_n 0, 1, 0, 0, 0) := by decide +kernel
theorem c_190_1032 : zcode 190 1032 = some (.iload_n 3, 1, 0, 0, 0) := by decide +kernel
theorem c_190_1033 : zcode 190 1033 = some (.iconst 1, 1, 0, 0, 0) := by decide +kernel
theorem c_190_1034 : zcode 190 1034 = some (.iadd, 1, 0, 0, 0) := by decide +kernel
theorem c_190_1035 : zcode 190 1035 = some (.iaload, 1, 0, 0, 0) := by decide +kernel
theorem c_190_1036 : zcode 190 1036 = some (.invokevirtual 139, 3, 112, 0, 3226) := by decide +kernel
theorem c_190_1039 : zcode 190 1039 = some (.aload_n 2, 1, 0, 0, 0) := by decide +kernel
theorem c_190_1040 : zcode 190 1040 = some (.aload_n 0, 1, 0, 0, 0) := by decide +kernel
theorem c_190_1041 : zcode 190 1041 = some (.iload_n 3, 1, 0, 0, 0) := by decide +kernel
theorem c_190_1042 : zcode 190 1042 = some (.iconst 1, 1, 0, 0, 0) := by decide +kernel
theorem c_190_1043 : zcode 190 1043 = some (.iadd, 1, 0, 0, 0) := by decide +kernel
theorem c_190_1044 : zcode 190 1044 = some (.iaload, 1, 0, 0, 0) := by decide +kernel
theorem c_190_1045 : zcode 190 1045 = some (.invokevirtual 142, 3, 186, 0, 5163) := by decide +kernel
theorem c_190_1048 : zcode 190 1048 = some (.if_icmp .eq 28, 3, 1076, 0, 0) := by decide +kernel
theorem c_190_1053 : zcode 190 1053 = some (.aload_n 1, 1, 0, 0, 0) := by decide +kernel
theorem c_190_1054 : zcode 190 1054 = some (.aload_n 0, 1, 0, 0, 0) := by decide +kernel
theorem c_190_1055 : zcode 190 1055 = some (.iload_n 3, 1, 0, 0, 0) := by decide +kernel
theorem c_190_1056 : zcode 190 1056 = some (.iconst 1, 1, 0, 0, 0) := by decide +kernel
theorem c_190_1057 : zcode 190 1057 = some (.iadd, 1, 0, 0, 0) := by decide +kernel
theorem c_190_1058 : zcode 190 1058 = some (.iaload, 1, 0, 0, 0) := by decide +kernel
theorem c_190_1059 : zcode 190 1059 = some (.invokevirtual 143, 3, 113, 0, 3231) := by decide +kernel
theorem c_190_1062 : zcode 190 1062 = some (.aload_n 2, 1, 0, 0, 0) := by decide +kernel
theorem c_190_1063 : zcode 190 1063 = some (.aload_n 0, 1, 0, 0, 0) := by decide +kernel
theorem c_190_1064 : zcode 190 1064 = some (.iload_n 3, 1, 0, 0, 0) := by decide +kernel
theorem c_190_1065 : zcode 190 1065 = some (.iconst 1, 1, 0, 0, 0) := by decide +kernel
theorem c_190_1066 : zcode 190 1066 = some (.iadd, 1, 0, 0, 0) := by decide +kernel
theorem c_190_1067 : zcode 190 1067 = some (.iaload, 1, 0, 0, 0) := by decide +kernel
theorem c_190_1068 : zcode 190 1068 = some (.invokevirtual 146, 3, 187, 0, 5167) := by decide +kernel
theorem c_190_1071 : zcode 190 1071 = some (.if_icmp .eq 5, 3, 1076, 0, 0) := by decide +kernel
theorem c_190_1076 : zcode 190 1076 = some (.iinc 3 5, 3, 0, 0, 0) := by decide +kernel
theorem c_190_1079 : zcode 190 1079 = some (.goto (-1061), 3, 18, 0, 0) := by decide +kernel
theorem c_190_1082 : zcode 190 1082 = some (.iconst 1, 1, 0, 0, 0) := by decide +kernel
theorem c_190_1083 : zcode 190 1083 = some (.ireturn, 1, 0, 0, 0) := by decide +kernel
/-! ===== what the two hold, behind a call ===== -/
def aWrite (T : List Nat) (z : Int) : Int × List Nat := if 0 ≤ z ∧ z ≤ 255 then (if T.length = 56 then (-4, T) else (((T.length + 1 : Nat) : Int), T ++ [z.toNat])) else (-2, T)
theorem aWrite_0 {T : List Nat} {z : Int} (h : ¬ (0 ≤ z ∧ z ≤ 255)) : aWrite T z = (-2, T) := if_neg h
theorem aWrite_1 {T : List Nat} {z : Int} (h : 0 ≤ z ∧ z ≤ 255) (h1 : T.length = 56) : aWrite T z = (-4, T) := by unfold aWrite; rw [if_pos h, if_pos h1]
theorem aWrite_2 {T : List Nat} {z : Int} (h : 0 ≤ z ∧ z ≤ 255) (h1 : T.length < 56) : aWrite T z = (((T.length + 1 : Nat) : Int), T ++ [z.toNat]) := by unfold aWrite; rw [if_pos h, if_neg (by omega)]
def aPortZ (T : List Nat) (P : aP) (R : aR) (L : aA) (K : Nat → Option aR) : Int × aP × aR × aA × (Nat → Option aR) := if (aFault T).1 = -9 then (100 * ((aPort (aFault T).2).2.1 : Int) + 10 * ((aPort (aFault T).2).2.2.1 : Int) + ((aPort (aFault T).2).2.2.2 : Int), aPort (aFault T).2, aR0, (0, L.2), fun _ => none) else (-3, P, R, L, K)
theorem aPortZ_y {T : List Nat} {P : aP} {R : aR} {L : aA} {K : Nat → Option aR} {rows : Nat → List Nat} (h : aFault T = (-9, rows)) : aPortZ T P R L K = (100 * ((aPort rows).2.1 : Int) + 10 * ((aPort rows).2.2.1 : Int) + ((aPort rows).2.2.2 : Int), aPort rows, aR0, (0, L.2), fun _ => none) := by
  unfold aPortZ
  rw [h]
  exact if_pos rfl
theorem aPortZ_n {T : List Nat} {P : aP} {R : aR} {L : aA} {K : Nat → Option aR} (h : (aFault T).1 ≠ -9) : aPortZ T P R L K = (-3, P, R, L, K) := if_neg h
abbrev QC (V : Int → Prop) (T : List Nat) (P : aP) (R : aR) (L : aA) (Tm : aT) (sd : Int64) (K : Nat → Option aR) (x : wC) (M : wM) : Option Value → wC → wM → Prop := fun v x' M' =>
  ∃ r, V r ∧ v = some (.int (iI r)) ∧ CI x' M' T P R L Tm sd K ∧ (∀ b, 106 ≤ b → M' b = M b) ∧ x'.1 106 = x.1 106
abbrev QM (V : Int → Prop) (T : List Nat) (P : aP) (R : aR) (L : aA) (Tm : aT) (sd : Int64) (K : Nat → Option aR) (x : wC) (M : wM) : Option Value → wC → wM → Prop := fun v x' M' =>
  ∃ r, V r ∧ v = some (.int (iI r)) ∧ MI x' M' T P R L Tm sd K ∧ (∀ b, b < 106 → M' b = M b) ∧ x'.1 0 = x.1 0 ∧ x'.2 = x.2
def LINV (x : wC) (M : wM) : Prop := ∃ (T : List Nat) (P : aP) (R : aR) (L : aA) (Tm : aT) (sd : Int64) (K : Nat → Option aR), CI x M T P R L Tm sd K ∧ MI x M T P R L Tm sd K ∧ AOK T P R L Tm K
theorem rdz (v : Int32) : ∃ z : Int, v = iI z ∧ wR z := ⟨v.toInt, iI_of v, wR_of v⟩
theorem aNs_eq : ∀ s : Int64, s * lI ((6364136223846793005 : Nat) : Int) + lI ((1442695040888963407 : Nat) : Int) = aNs s := fun s => by unfold aNs; rfl
theorem and31 (v : Int32) : ∃ k : Nat, k < 32 ∧ v &&& iI 31 = iI (k : Int) := by
  refine ⟨(v &&& iI 31).toBitVec.toNat, ?_, ?_⟩
  · rw [Int32.toBitVec_and, BitVec.toNat_and]
    exact Nat.lt_of_le_of_lt Nat.and_le_right (by decide)
  · rw [iI_nat]
    apply Int32.toBitVec_inj.mp
    show _ = BitVec.ofNat 32 _
    rw [BitVec.ofNat_toNat, BitVec.setWidth_eq]
section LWZ
variable {x x' : wC} {M M' : wM} {T : List Nat} {P : aP} {R : aR} {L : aA} {Tm : aT} {sd : Int64} {K : Nat → Option aR}
theorem MI_hi (h : MI x M T P R L Tm sd K) (hf : ∀ b, 106 ≤ b → M' b = M b) (hx : x'.1 106 = x.1 106) : MI x' M' T P R L Tm sd K := by
  obtain ⟨h0, h1⟩ := MI_of h ⟨fun j _ => by rw [hf 106 (by omega)], fun b hb => hf b (by omega)⟩
  exact ⟨hx.trans h0, h1⟩
theorem CI_lo (h : CI x M T P R L Tm sd K) (hf : ∀ b, b < 106 → M' b = M b) (h0 : x'.1 0 = x.1 0) (h2 : x'.2 = x.2) : CI x' M' T P R L Tm sd K := by
  have hp := h.1
  obtain ⟨a0, a1, a2⟩ := CI_of h (M' := M') (fun b hb => hf b (by unfold wown at hb; omega))
  obtain ⟨x1, x2⟩ := x
  obtain ⟨y1, y2⟩ := x'
  simp only at h0 h2
  subst h2
  exact ⟨a0, h0.trans a1, a2⟩
theorem AOK_write {z : Int} (h : AOK T P R L Tm K) : AOK (aWrite T z).2 P R L Tm K := by
  obtain ⟨⟨h1, h2⟩, h3⟩ := h
  refine ⟨?_, h3⟩
  by_cases a : 0 ≤ z ∧ z ≤ 255
  · by_cases b : T.length = 56
    · rw [aWrite_1 a b]; exact ⟨h1, h2⟩
    · rw [aWrite_2 a (by omega)]
      refine ⟨by show (T ++ [z.toNat]).length ≤ 56; rw [List.length_append, List.length_singleton]; omega, fun c hc => ?_⟩
      rcases List.mem_append.mp hc with hc | hc
      · exact h2 c hc
      · have : c = z.toNat := by simpa using hc
        omega
  · rw [aWrite_0 a]; exact ⟨h1, h2⟩
theorem AOK_wipe (h : AOK T P R L Tm K) : AOK [] P R L Tm K := ⟨⟨Nat.zero_le _, fun c hc => by simp at hc⟩, h.2⟩
theorem AOK_act {o : Option aR} (h : AOK T P R L Tm K) (ho : ∀ R', o = some R' → aRok P R') : AOK T P (aAct R L o).2.1 (aAct R L o).2.2 Tm K := by
  cases o with
  | none => exact h
  | some R' => exact ⟨h.1, h.2.1, ho R' rfl, aNote_ok h.2.2.2.1 h.2.2.1, h.2.2.2.2⟩
theorem AOK_turn {g s : Int} (h : AOK T P R L Tm K) : AOK T P (aTurn P R L g s).2.1 (aTurn P R L g s).2.2 Tm K := by
  unfold aTurn
  split
  · rename_i hv
    refine AOK_act h (fun R' e => ?_)
    injection e with e
    subst e
    obtain ⟨g', rfl⟩ : ∃ n : Nat, g = n := ⟨g.toNat, by omega⟩
    obtain ⟨s', rfl⟩ : ∃ n : Nat, s = n := ⟨s.toNat, by omega⟩
    rw [Int.toNat_natCast]
    exact aNew_ok h.2.1 (by omega) (by omega) (aGr_le h.2.1 (by omega))
  · exact h
theorem AOK_say {z : Int} (h : AOK T P R L Tm K) : AOK T P (aSayA P R L z).2.1 (aSayA P R L z).2.2 Tm K := by
  unfold aSayA
  split
  · exact AOK_act h (fun R' e => aSpk_ok h.2.2.1 e)
  · exact h
theorem AOK_pause (h : AOK T P R L Tm K) : AOK T P (aPauseA P R L).2.1 (aPauseA P R L).2.2 Tm K := AOK_act h (fun R' e => aRst_ok h.2.2.1 e)
theorem AOK_draw {z : Int} (h : AOK T P R L Tm K) : AOK T P (aDrawA R L z).2.1 (aDrawA R L z).2.2 Tm K := by
  unfold aDrawA
  split
  · exact AOK_act h (fun R' e => aLos_ok h.2.2.1 e)
  · exact h
theorem AOK_undo (h : AOK T P R L Tm K) : AOK T P (aUndo R L).2.1 (aUndo R L).2.2 Tm K := by
  unfold aUndo
  split
  · exact h
  · exact ⟨h.1, h.2.1, h.2.2.2.1.2 _ (by omega), ⟨by have := h.2.2.2.1.1; show L.1 - 1 ≤ 14; omega, fun k hk => h.2.2.2.1.2 k (by have hk : k < L.1 - 1 := hk; omega)⟩, h.2.2.2.2⟩
theorem AOK_time {y i p g : Int} (h : AOK T P R L Tm K) : AOK T P R L (aTime P Tm y i p g).2 K := by
  have hb := h.2.1.2.2.1
  unfold aTime
  split
  · exact h
  · split
    · exact h
    · split
      · exact h
      · refine ⟨h.1, h.2.1, h.2.2.1, h.2.2.2.1, ⟨by show Tm.1 + 1 ≤ 6; omega, fun k hk => ?_⟩, h.2.2.2.2.2⟩
        have hk : k < Tm.1 + 1 := hk
        by_cases e : k = Tm.1
        · subst e
          simp only [aTput, if_true]
          refine ⟨?_, ?_, ?_, ?_, ?_⟩ <;> simp <;> omega
        · simp only [aTput, if_neg e]
          exact h.2.2.2.2.1.2 k (by omega)
theorem AOK_untime (h : AOK T P R L Tm K) : AOK T P R L (0, fun _ _ => 0) K := ⟨h.1, h.2.1, h.2.2.1, h.2.2.2.1, ⟨Nat.zero_le _, fun i hi => absurd hi (Nat.not_lt_zero _)⟩, h.2.2.2.2.2⟩
theorem AOK_keep {z : Int} (h : AOK T P R L Tm K) : AOK T P R L Tm (aKeep R K z).2 := by
  unfold aKeep
  split
  · refine ⟨h.1, h.2.1, h.2.2.1, h.2.2.2.1, h.2.2.2.2.1, fun k R' hk he => ?_⟩
    simp only at he
    split at he
    · injection he with he
      subst he
      exact h.2.2.1
    · exact h.2.2.2.2.2 k R' hk he
  · exact h
theorem AOK_again {z : Int} (h : AOK T P R L Tm K) : AOK T P (aAgain R L K z).2.1 (aAgain R L K z).2.2 Tm K := by
  unfold aAgain
  split
  · rename_i hz
    cases hk : K z.toNat with
    | none => exact h
    | some R' => exact ⟨h.1, h.2.1, h.2.2.2.2.2 z.toNat R' (by omega) hk, ⟨Nat.zero_le _, fun k hk => absurd hk (Nat.not_lt_zero _)⟩, h.2.2.2.2⟩
  · exact h
theorem AOK_port (h : AOK T P R L Tm K) : AOK T (aPortZ T P R L K).2.1 (aPortZ T P R L K).2.2.1 (aPortZ T P R L K).2.2.2.1 Tm (aPortZ T P R L K).2.2.2.2 := by
  by_cases h9 : (aFault T).1 = -9
  · have e : aFault T = (-9, (aFault T).2) := by rw [← h9]
    rw [aPortZ_y e]
    exact ⟨h.1, aIv_port (aFault_iv e), Or.inl rfl, ⟨Nat.zero_le _, fun k hk => absurd hk (Nat.not_lt_zero _)⟩, h.2.2.2.2.1, fun k R' _ he => by simp at he⟩
  · rw [aPortZ_n h9]; exact h
end LWZ
