theorem mj_dL_0 : decode mj_law.2.1 0 = .ok (.new 7, 3) := by decide +kernel
theorem mj_dL_3 : decode mj_law.2.1 3 = .ok (.dup, 1) := by decide +kernel
theorem mj_dL_4 : decode mj_law.2.1 4 = .ok (.invokespecial 9, 3) := by decide +kernel
theorem mj_dL_7 : decode mj_law.2.1 7 = .ok (.astore_n 1, 1) := by decide +kernel
theorem mj_dL_8 : decode mj_law.2.1 8 = .ok (.new 10, 3) := by decide +kernel
theorem mj_dL_11 : decode mj_law.2.1 11 = .ok (.dup, 1) := by decide +kernel
theorem mj_dL_12 : decode mj_law.2.1 12 = .ok (.invokespecial 12, 3) := by decide +kernel
theorem mj_dL_15 : decode mj_law.2.1 15 = .ok (.astore_n 2, 1) := by decide +kernel
theorem mj_dL_16 : decode mj_law.2.1 16 = .ok (.iconst 0, 1) := by decide +kernel
theorem mj_dL_17 : decode mj_law.2.1 17 = .ok (.istore_n 3, 1) := by decide +kernel
theorem mj_dL_18 : decode mj_law.2.1 18 = .ok (.iload_n 3, 1) := by decide +kernel
theorem mj_dL_19 : decode mj_law.2.1 19 = .ok (.aload_n 0, 1) := by decide +kernel
theorem mj_dL_20 : decode mj_law.2.1 20 = .ok (.arraylength, 1) := by decide +kernel
theorem mj_dL_21 : decode mj_law.2.1 21 = .ok (.iconst 5, 1) := by decide +kernel
theorem mj_dL_22 : decode mj_law.2.1 22 = .ok (.isub, 1) := by decide +kernel
theorem mj_dL_23 : decode mj_law.2.1 23 = .ok (.if_icmp .gt 1064, 3) := by decide +kernel
theorem mj_dL_26 : decode mj_law.2.1 26 = .ok (.aload_n 0, 1) := by decide +kernel
theorem mj_dL_27 : decode mj_law.2.1 27 = .ok (.iload_n 3, 1) := by decide +kernel
theorem mj_dL_28 : decode mj_law.2.1 28 = .ok (.iaload, 1) := by decide +kernel
theorem mj_dL_29 : decode mj_law.2.1 29 = .ok (.bipush 31, 2) := by decide +kernel
theorem mj_dL_31 : decode mj_law.2.1 31 = .ok (.iand, 1) := by decide +kernel
theorem mj_dL_32 : decode mj_law.2.1 32 = .ok (.tableswitch 1049 0 30 #[140, 163, 176, 189, 212, 245, 278, 311, 334, 367, 380, 403, 436, 489, 532, 555, 578, 621, 664, 697, 740, 763, 796, 829, 888, 921, 954, 967, 980, 1003, 1026], 140) := by decide +kernel
theorem mj_dL_172 : decode mj_law.2.1 172 = .ok (.aload_n 1, 1) := by decide +kernel
theorem mj_dL_173 : decode mj_law.2.1 173 = .ok (.aload_n 0, 1) := by decide +kernel
theorem mj_dL_174 : decode mj_law.2.1 174 = .ok (.iload_n 3, 1) := by decide +kernel
theorem mj_dL_175 : decode mj_law.2.1 175 = .ok (.iconst 1, 1) := by decide +kernel
theorem mj_dL_176 : decode mj_law.2.1 176 = .ok (.iadd, 1) := by decide +kernel
theorem mj_dL_177 : decode mj_law.2.1 177 = .ok (.iaload, 1) := by decide +kernel
theorem mj_dL_178 : decode mj_law.2.1 178 = .ok (.invokevirtual 13, 3) := by decide +kernel
theorem mj_dL_181 : decode mj_law.2.1 181 = .ok (.aload_n 2, 1) := by decide +kernel
theorem mj_dL_182 : decode mj_law.2.1 182 = .ok (.aload_n 0, 1) := by decide +kernel
theorem mj_dL_183 : decode mj_law.2.1 183 = .ok (.iload_n 3, 1) := by decide +kernel
theorem mj_dL_184 : decode mj_law.2.1 184 = .ok (.iconst 1, 1) := by decide +kernel
theorem mj_dL_185 : decode mj_law.2.1 185 = .ok (.iadd, 1) := by decide +kernel
theorem mj_dL_186 : decode mj_law.2.1 186 = .ok (.iaload, 1) := by decide +kernel
theorem mj_dL_187 : decode mj_law.2.1 187 = .ok (.invokevirtual 17, 3) := by decide +kernel
theorem mj_dL_190 : decode mj_law.2.1 190 = .ok (.if_icmp .eq 891, 3) := by decide +kernel
theorem mj_dL_195 : decode mj_law.2.1 195 = .ok (.aload_n 1, 1) := by decide +kernel
theorem mj_dL_196 : decode mj_law.2.1 196 = .ok (.invokevirtual 18, 3) := by decide +kernel
theorem mj_dL_199 : decode mj_law.2.1 199 = .ok (.aload_n 2, 1) := by decide +kernel
theorem mj_dL_200 : decode mj_law.2.1 200 = .ok (.invokevirtual 22, 3) := by decide +kernel
theorem mj_dL_203 : decode mj_law.2.1 203 = .ok (.if_icmp .eq 878, 3) := by decide +kernel
theorem mj_dL_208 : decode mj_law.2.1 208 = .ok (.aload_n 1, 1) := by decide +kernel
theorem mj_dL_209 : decode mj_law.2.1 209 = .ok (.invokevirtual 23, 3) := by decide +kernel
theorem mj_dL_212 : decode mj_law.2.1 212 = .ok (.aload_n 2, 1) := by decide +kernel
theorem mj_dL_213 : decode mj_law.2.1 213 = .ok (.invokevirtual 26, 3) := by decide +kernel
theorem mj_dL_216 : decode mj_law.2.1 216 = .ok (.if_icmp .eq 865, 3) := by decide +kernel
theorem mj_dL_221 : decode mj_law.2.1 221 = .ok (.aload_n 1, 1) := by decide +kernel
theorem mj_dL_222 : decode mj_law.2.1 222 = .ok (.aload_n 0, 1) := by decide +kernel
theorem mj_dL_223 : decode mj_law.2.1 223 = .ok (.iload_n 3, 1) := by decide +kernel
theorem mj_dL_224 : decode mj_law.2.1 224 = .ok (.iconst 1, 1) := by decide +kernel
theorem mj_dL_225 : decode mj_law.2.1 225 = .ok (.iadd, 1) := by decide +kernel
theorem mj_dL_226 : decode mj_law.2.1 226 = .ok (.iaload, 1) := by decide +kernel
theorem mj_dL_227 : decode mj_law.2.1 227 = .ok (.invokevirtual 27, 3) := by decide +kernel
theorem mj_dL_230 : decode mj_law.2.1 230 = .ok (.aload_n 2, 1) := by decide +kernel
theorem mj_dL_231 : decode mj_law.2.1 231 = .ok (.aload_n 0, 1) := by decide +kernel
theorem mj_dL_232 : decode mj_law.2.1 232 = .ok (.iload_n 3, 1) := by decide +kernel
theorem mj_dL_233 : decode mj_law.2.1 233 = .ok (.iconst 1, 1) := by decide +kernel
theorem mj_dL_234 : decode mj_law.2.1 234 = .ok (.iadd, 1) := by decide +kernel
theorem mj_dL_235 : decode mj_law.2.1 235 = .ok (.iaload, 1) := by decide +kernel
theorem mj_dL_236 : decode mj_law.2.1 236 = .ok (.invokevirtual 30, 3) := by decide +kernel
theorem mj_dL_239 : decode mj_law.2.1 239 = .ok (.if_icmp .eq 842, 3) := by decide +kernel
theorem mj_dL_244 : decode mj_law.2.1 244 = .ok (.aload_n 1, 1) := by decide +kernel
theorem mj_dL_245 : decode mj_law.2.1 245 = .ok (.aload_n 0, 1) := by decide +kernel
theorem mj_dL_246 : decode mj_law.2.1 246 = .ok (.iload_n 3, 1) := by decide +kernel
theorem mj_dL_247 : decode mj_law.2.1 247 = .ok (.iconst 1, 1) := by decide +kernel
theorem mj_dL_248 : decode mj_law.2.1 248 = .ok (.iadd, 1) := by decide +kernel
theorem mj_dL_249 : decode mj_law.2.1 249 = .ok (.iaload, 1) := by decide +kernel
theorem mj_dL_250 : decode mj_law.2.1 250 = .ok (.aload_n 0, 1) := by decide +kernel
theorem mj_dL_251 : decode mj_law.2.1 251 = .ok (.iload_n 3, 1) := by decide +kernel
theorem mj_dL_252 : decode mj_law.2.1 252 = .ok (.iconst 2, 1) := by decide +kernel
theorem mj_dL_253 : decode mj_law.2.1 253 = .ok (.iadd, 1) := by decide +kernel
theorem mj_dL_254 : decode mj_law.2.1 254 = .ok (.iaload, 1) := by decide +kernel
theorem mj_dL_255 : decode mj_law.2.1 255 = .ok (.invokevirtual 31, 3) := by decide +kernel
theorem mj_dL_258 : decode mj_law.2.1 258 = .ok (.aload_n 2, 1) := by decide +kernel
theorem mj_dL_259 : decode mj_law.2.1 259 = .ok (.aload_n 0, 1) := by decide +kernel
theorem mj_dL_260 : decode mj_law.2.1 260 = .ok (.iload_n 3, 1) := by decide +kernel
theorem mj_dL_261 : decode mj_law.2.1 261 = .ok (.iconst 1, 1) := by decide +kernel
theorem mj_dL_262 : decode mj_law.2.1 262 = .ok (.iadd, 1) := by decide +kernel
theorem mj_dL_263 : decode mj_law.2.1 263 = .ok (.iaload, 1) := by decide +kernel
theorem mj_dL_264 : decode mj_law.2.1 264 = .ok (.aload_n 0, 1) := by decide +kernel
theorem mj_dL_265 : decode mj_law.2.1 265 = .ok (.iload_n 3, 1) := by decide +kernel
theorem mj_dL_266 : decode mj_law.2.1 266 = .ok (.iconst 2, 1) := by decide +kernel
theorem mj_dL_267 : decode mj_law.2.1 267 = .ok (.iadd, 1) := by decide +kernel
theorem mj_dL_268 : decode mj_law.2.1 268 = .ok (.iaload, 1) := by decide +kernel
theorem mj_dL_269 : decode mj_law.2.1 269 = .ok (.invokevirtual 35, 3) := by decide +kernel
theorem mj_dL_272 : decode mj_law.2.1 272 = .ok (.if_icmp .eq 809, 3) := by decide +kernel
theorem mj_dL_277 : decode mj_law.2.1 277 = .ok (.aload_n 1, 1) := by decide +kernel
theorem mj_dL_278 : decode mj_law.2.1 278 = .ok (.aload_n 0, 1) := by decide +kernel
theorem mj_dL_279 : decode mj_law.2.1 279 = .ok (.iload_n 3, 1) := by decide +kernel
theorem mj_dL_280 : decode mj_law.2.1 280 = .ok (.iconst 1, 1) := by decide +kernel
theorem mj_dL_281 : decode mj_law.2.1 281 = .ok (.iadd, 1) := by decide +kernel
theorem mj_dL_282 : decode mj_law.2.1 282 = .ok (.iaload, 1) := by decide +kernel
theorem mj_dL_283 : decode mj_law.2.1 283 = .ok (.aload_n 0, 1) := by decide +kernel
theorem mj_dL_284 : decode mj_law.2.1 284 = .ok (.iload_n 3, 1) := by decide +kernel
theorem mj_dL_285 : decode mj_law.2.1 285 = .ok (.iconst 2, 1) := by decide +kernel
theorem mj_dL_286 : decode mj_law.2.1 286 = .ok (.iadd, 1) := by decide +kernel
theorem mj_dL_287 : decode mj_law.2.1 287 = .ok (.iaload, 1) := by decide +kernel
theorem mj_dL_288 : decode mj_law.2.1 288 = .ok (.invokevirtual 36, 3) := by decide +kernel
theorem mj_dL_291 : decode mj_law.2.1 291 = .ok (.aload_n 2, 1) := by decide +kernel
theorem mj_dL_292 : decode mj_law.2.1 292 = .ok (.aload_n 0, 1) := by decide +kernel
theorem mj_dL_293 : decode mj_law.2.1 293 = .ok (.iload_n 3, 1) := by decide +kernel
theorem mj_dL_294 : decode mj_law.2.1 294 = .ok (.iconst 1, 1) := by decide +kernel
theorem mj_dL_295 : decode mj_law.2.1 295 = .ok (.iadd, 1) := by decide +kernel
theorem mj_dL_296 : decode mj_law.2.1 296 = .ok (.iaload, 1) := by decide +kernel
theorem mj_dL_297 : decode mj_law.2.1 297 = .ok (.aload_n 0, 1) := by decide +kernel
theorem mj_dL_298 : decode mj_law.2.1 298 = .ok (.iload_n 3, 1) := by decide +kernel
theorem mj_dL_299 : decode mj_law.2.1 299 = .ok (.iconst 2, 1) := by decide +kernel
theorem mj_dL_300 : decode mj_law.2.1 300 = .ok (.iadd, 1) := by decide +kernel
theorem mj_dL_301 : decode mj_law.2.1 301 = .ok (.iaload, 1) := by decide +kernel
theorem mj_dL_302 : decode mj_law.2.1 302 = .ok (.invokevirtual 39, 3) := by decide +kernel
theorem mj_dL_305 : decode mj_law.2.1 305 = .ok (.if_icmp .eq 776, 3) := by decide +kernel
theorem mj_dL_310 : decode mj_law.2.1 310 = .ok (.aload_n 1, 1) := by decide +kernel
theorem mj_dL_311 : decode mj_law.2.1 311 = .ok (.aload_n 0, 1) := by decide +kernel
theorem mj_dL_312 : decode mj_law.2.1 312 = .ok (.iload_n 3, 1) := by decide +kernel
theorem mj_dL_313 : decode mj_law.2.1 313 = .ok (.iconst 1, 1) := by decide +kernel
theorem mj_dL_314 : decode mj_law.2.1 314 = .ok (.iadd, 1) := by decide +kernel
theorem mj_dL_315 : decode mj_law.2.1 315 = .ok (.iaload, 1) := by decide +kernel
theorem mj_dL_316 : decode mj_law.2.1 316 = .ok (.aload_n 0, 1) := by decide +kernel
theorem mj_dL_317 : decode mj_law.2.1 317 = .ok (.iload_n 3, 1) := by decide +kernel
theorem mj_dL_318 : decode mj_law.2.1 318 = .ok (.iconst 2, 1) := by decide +kernel
theorem mj_dL_319 : decode mj_law.2.1 319 = .ok (.iadd, 1) := by decide +kernel
theorem mj_dL_320 : decode mj_law.2.1 320 = .ok (.iaload, 1) := by decide +kernel
theorem mj_dL_321 : decode mj_law.2.1 321 = .ok (.invokevirtual 40, 3) := by decide +kernel
theorem mj_dL_324 : decode mj_law.2.1 324 = .ok (.aload_n 2, 1) := by decide +kernel
theorem mj_dL_325 : decode mj_law.2.1 325 = .ok (.aload_n 0, 1) := by decide +kernel
theorem mj_dL_326 : decode mj_law.2.1 326 = .ok (.iload_n 3, 1) := by decide +kernel
theorem mj_dL_327 : decode mj_law.2.1 327 = .ok (.iconst 1, 1) := by decide +kernel
theorem mj_dL_328 : decode mj_law.2.1 328 = .ok (.iadd, 1) := by decide +kernel
theorem mj_dL_329 : decode mj_law.2.1 329 = .ok (.iaload, 1) := by decide +kernel
theorem mj_dL_330 : decode mj_law.2.1 330 = .ok (.aload_n 0, 1) := by decide +kernel
theorem mj_dL_331 : decode mj_law.2.1 331 = .ok (.iload_n 3, 1) := by decide +kernel
theorem mj_dL_332 : decode mj_law.2.1 332 = .ok (.iconst 2, 1) := by decide +kernel
theorem mj_dL_333 : decode mj_law.2.1 333 = .ok (.iadd, 1) := by decide +kernel
theorem mj_dL_334 : decode mj_law.2.1 334 = .ok (.iaload, 1) := by decide +kernel
theorem mj_dL_335 : decode mj_law.2.1 335 = .ok (.invokevirtual 43, 3) := by decide +kernel
theorem mj_dL_338 : decode mj_law.2.1 338 = .ok (.if_icmp .eq 743, 3) := by decide +kernel
theorem mj_dL_343 : decode mj_law.2.1 343 = .ok (.aload_n 1, 1) := by decide +kernel
theorem mj_dL_344 : decode mj_law.2.1 344 = .ok (.aload_n 0, 1) := by decide +kernel
theorem mj_dL_345 : decode mj_law.2.1 345 = .ok (.iload_n 3, 1) := by decide +kernel
theorem mj_dL_346 : decode mj_law.2.1 346 = .ok (.iconst 1, 1) := by decide +kernel
theorem mj_dL_347 : decode mj_law.2.1 347 = .ok (.iadd, 1) := by decide +kernel
theorem mj_dL_348 : decode mj_law.2.1 348 = .ok (.iaload, 1) := by decide +kernel
theorem mj_dL_349 : decode mj_law.2.1 349 = .ok (.invokevirtual 44, 3) := by decide +kernel
theorem mj_dL_352 : decode mj_law.2.1 352 = .ok (.aload_n 2, 1) := by decide +kernel
theorem mj_dL_353 : decode mj_law.2.1 353 = .ok (.aload_n 0, 1) := by decide +kernel
theorem mj_dL_354 : decode mj_law.2.1 354 = .ok (.iload_n 3, 1) := by decide +kernel
theorem mj_dL_355 : decode mj_law.2.1 355 = .ok (.iconst 1, 1) := by decide +kernel
theorem mj_dL_356 : decode mj_law.2.1 356 = .ok (.iadd, 1) := by decide +kernel
theorem mj_dL_357 : decode mj_law.2.1 357 = .ok (.iaload, 1) := by decide +kernel
theorem mj_dL_358 : decode mj_law.2.1 358 = .ok (.invokevirtual 47, 3) := by decide +kernel
theorem mj_dL_361 : decode mj_law.2.1 361 = .ok (.if_icmp .eq 720, 3) := by decide +kernel
theorem mj_dL_366 : decode mj_law.2.1 366 = .ok (.aload_n 1, 1) := by decide +kernel
theorem mj_dL_367 : decode mj_law.2.1 367 = .ok (.aload_n 0, 1) := by decide +kernel
theorem mj_dL_368 : decode mj_law.2.1 368 = .ok (.iload_n 3, 1) := by decide +kernel
theorem mj_dL_369 : decode mj_law.2.1 369 = .ok (.iconst 1, 1) := by decide +kernel
theorem mj_dL_370 : decode mj_law.2.1 370 = .ok (.iadd, 1) := by decide +kernel
theorem mj_dL_371 : decode mj_law.2.1 371 = .ok (.iaload, 1) := by decide +kernel
theorem mj_dL_372 : decode mj_law.2.1 372 = .ok (.aload_n 0, 1) := by decide +kernel
theorem mj_dL_373 : decode mj_law.2.1 373 = .ok (.iload_n 3, 1) := by decide +kernel
theorem mj_dL_374 : decode mj_law.2.1 374 = .ok (.iconst 2, 1) := by decide +kernel
theorem mj_dL_375 : decode mj_law.2.1 375 = .ok (.iadd, 1) := by decide +kernel
theorem mj_dL_376 : decode mj_law.2.1 376 = .ok (.iaload, 1) := by decide +kernel
theorem mj_dL_377 : decode mj_law.2.1 377 = .ok (.invokevirtual 48, 3) := by decide +kernel
theorem mj_dL_380 : decode mj_law.2.1 380 = .ok (.aload_n 2, 1) := by decide +kernel
theorem mj_dL_381 : decode mj_law.2.1 381 = .ok (.aload_n 0, 1) := by decide +kernel
theorem mj_dL_382 : decode mj_law.2.1 382 = .ok (.iload_n 3, 1) := by decide +kernel
theorem mj_dL_383 : decode mj_law.2.1 383 = .ok (.iconst 1, 1) := by decide +kernel
theorem mj_dL_384 : decode mj_law.2.1 384 = .ok (.iadd, 1) := by decide +kernel
theorem mj_dL_385 : decode mj_law.2.1 385 = .ok (.iaload, 1) := by decide +kernel
theorem mj_dL_386 : decode mj_law.2.1 386 = .ok (.aload_n 0, 1) := by decide +kernel
theorem mj_dL_387 : decode mj_law.2.1 387 = .ok (.iload_n 3, 1) := by decide +kernel
theorem mj_dL_388 : decode mj_law.2.1 388 = .ok (.iconst 2, 1) := by decide +kernel
theorem mj_dL_389 : decode mj_law.2.1 389 = .ok (.iadd, 1) := by decide +kernel
theorem mj_dL_390 : decode mj_law.2.1 390 = .ok (.iaload, 1) := by decide +kernel
theorem mj_dL_391 : decode mj_law.2.1 391 = .ok (.invokevirtual 51, 3) := by decide +kernel
theorem mj_dL_394 : decode mj_law.2.1 394 = .ok (.if_icmp .eq 687, 3) := by decide +kernel
theorem mj_dL_399 : decode mj_law.2.1 399 = .ok (.aload_n 1, 1) := by decide +kernel
theorem mj_dL_400 : decode mj_law.2.1 400 = .ok (.invokevirtual 52, 3) := by decide +kernel
theorem mj_dL_403 : decode mj_law.2.1 403 = .ok (.aload_n 2, 1) := by decide +kernel
theorem mj_dL_404 : decode mj_law.2.1 404 = .ok (.invokevirtual 55, 3) := by decide +kernel
theorem mj_dL_407 : decode mj_law.2.1 407 = .ok (.if_icmp .eq 674, 3) := by decide +kernel
theorem mj_dL_412 : decode mj_law.2.1 412 = .ok (.aload_n 1, 1) := by decide +kernel
theorem mj_dL_413 : decode mj_law.2.1 413 = .ok (.aload_n 0, 1) := by decide +kernel
theorem mj_dL_414 : decode mj_law.2.1 414 = .ok (.iload_n 3, 1) := by decide +kernel
theorem mj_dL_415 : decode mj_law.2.1 415 = .ok (.iconst 1, 1) := by decide +kernel
theorem mj_dL_416 : decode mj_law.2.1 416 = .ok (.iadd, 1) := by decide +kernel
theorem mj_dL_417 : decode mj_law.2.1 417 = .ok (.iaload, 1) := by decide +kernel
theorem mj_dL_418 : decode mj_law.2.1 418 = .ok (.invokevirtual 56, 3) := by decide +kernel
theorem mj_dL_421 : decode mj_law.2.1 421 = .ok (.aload_n 2, 1) := by decide +kernel
theorem mj_dL_422 : decode mj_law.2.1 422 = .ok (.aload_n 0, 1) := by decide +kernel
theorem mj_dL_423 : decode mj_law.2.1 423 = .ok (.iload_n 3, 1) := by decide +kernel
theorem mj_dL_424 : decode mj_law.2.1 424 = .ok (.iconst 1, 1) := by decide +kernel
theorem mj_dL_425 : decode mj_law.2.1 425 = .ok (.iadd, 1) := by decide +kernel
theorem mj_dL_426 : decode mj_law.2.1 426 = .ok (.iaload, 1) := by decide +kernel
theorem mj_dL_427 : decode mj_law.2.1 427 = .ok (.invokevirtual 59, 3) := by decide +kernel
theorem mj_dL_430 : decode mj_law.2.1 430 = .ok (.if_icmp .eq 651, 3) := by decide +kernel
theorem mj_dL_435 : decode mj_law.2.1 435 = .ok (.aload_n 1, 1) := by decide +kernel
theorem mj_dL_436 : decode mj_law.2.1 436 = .ok (.aload_n 0, 1) := by decide +kernel
theorem mj_dL_437 : decode mj_law.2.1 437 = .ok (.iload_n 3, 1) := by decide +kernel
theorem mj_dL_438 : decode mj_law.2.1 438 = .ok (.iconst 1, 1) := by decide +kernel
theorem mj_dL_439 : decode mj_law.2.1 439 = .ok (.iadd, 1) := by decide +kernel
theorem mj_dL_440 : decode mj_law.2.1 440 = .ok (.iaload, 1) := by decide +kernel
theorem mj_dL_441 : decode mj_law.2.1 441 = .ok (.aload_n 0, 1) := by decide +kernel
theorem mj_dL_442 : decode mj_law.2.1 442 = .ok (.iload_n 3, 1) := by decide +kernel
theorem mj_dL_443 : decode mj_law.2.1 443 = .ok (.iconst 2, 1) := by decide +kernel
theorem mj_dL_444 : decode mj_law.2.1 444 = .ok (.iadd, 1) := by decide +kernel
theorem mj_dL_445 : decode mj_law.2.1 445 = .ok (.iaload, 1) := by decide +kernel
theorem mj_dL_446 : decode mj_law.2.1 446 = .ok (.invokevirtual 60, 3) := by decide +kernel
theorem mj_dL_449 : decode mj_law.2.1 449 = .ok (.aload_n 2, 1) := by decide +kernel
theorem mj_dL_450 : decode mj_law.2.1 450 = .ok (.aload_n 0, 1) := by decide +kernel
theorem mj_dL_451 : decode mj_law.2.1 451 = .ok (.iload_n 3, 1) := by decide +kernel
theorem mj_dL_452 : decode mj_law.2.1 452 = .ok (.iconst 1, 1) := by decide +kernel
theorem mj_dL_453 : decode mj_law.2.1 453 = .ok (.iadd, 1) := by decide +kernel
theorem mj_dL_454 : decode mj_law.2.1 454 = .ok (.iaload, 1) := by decide +kernel
theorem mj_dL_455 : decode mj_law.2.1 455 = .ok (.aload_n 0, 1) := by decide +kernel
theorem mj_dL_456 : decode mj_law.2.1 456 = .ok (.iload_n 3, 1) := by decide +kernel
theorem mj_dL_457 : decode mj_law.2.1 457 = .ok (.iconst 2, 1) := by decide +kernel
theorem mj_dL_458 : decode mj_law.2.1 458 = .ok (.iadd, 1) := by decide +kernel
theorem mj_dL_459 : decode mj_law.2.1 459 = .ok (.iaload, 1) := by decide +kernel
theorem mj_dL_460 : decode mj_law.2.1 460 = .ok (.invokevirtual 63, 3) := by decide +kernel
theorem mj_dL_463 : decode mj_law.2.1 463 = .ok (.if_icmp .eq 618, 3) := by decide +kernel
theorem mj_dL_468 : decode mj_law.2.1 468 = .ok (.aload_n 1, 1) := by decide +kernel
theorem mj_dL_469 : decode mj_law.2.1 469 = .ok (.aload_n 0, 1) := by decide +kernel
theorem mj_dL_470 : decode mj_law.2.1 470 = .ok (.iload_n 3, 1) := by decide +kernel
theorem mj_dL_471 : decode mj_law.2.1 471 = .ok (.iconst 1, 1) := by decide +kernel
theorem mj_dL_472 : decode mj_law.2.1 472 = .ok (.iadd, 1) := by decide +kernel
theorem mj_dL_473 : decode mj_law.2.1 473 = .ok (.iaload, 1) := by decide +kernel
theorem mj_dL_474 : decode mj_law.2.1 474 = .ok (.aload_n 0, 1) := by decide +kernel
theorem mj_dL_475 : decode mj_law.2.1 475 = .ok (.iload_n 3, 1) := by decide +kernel
theorem mj_dL_476 : decode mj_law.2.1 476 = .ok (.iconst 2, 1) := by decide +kernel
theorem mj_dL_477 : decode mj_law.2.1 477 = .ok (.iadd, 1) := by decide +kernel
theorem mj_dL_478 : decode mj_law.2.1 478 = .ok (.iaload, 1) := by decide +kernel
theorem mj_dL_479 : decode mj_law.2.1 479 = .ok (.aload_n 0, 1) := by decide +kernel
theorem mj_dL_480 : decode mj_law.2.1 480 = .ok (.iload_n 3, 1) := by decide +kernel
theorem mj_dL_481 : decode mj_law.2.1 481 = .ok (.iconst 3, 1) := by decide +kernel
theorem mj_dL_482 : decode mj_law.2.1 482 = .ok (.iadd, 1) := by decide +kernel
theorem mj_dL_483 : decode mj_law.2.1 483 = .ok (.iaload, 1) := by decide +kernel
theorem mj_dL_484 : decode mj_law.2.1 484 = .ok (.aload_n 0, 1) := by decide +kernel
theorem mj_dL_485 : decode mj_law.2.1 485 = .ok (.iload_n 3, 1) := by decide +kernel
theorem mj_dL_486 : decode mj_law.2.1 486 = .ok (.iconst 4, 1) := by decide +kernel
theorem mj_dL_487 : decode mj_law.2.1 487 = .ok (.iadd, 1) := by decide +kernel
theorem mj_dL_488 : decode mj_law.2.1 488 = .ok (.iaload, 1) := by decide +kernel
theorem mj_dL_489 : decode mj_law.2.1 489 = .ok (.invokevirtual 64, 3) := by decide +kernel
theorem mj_dL_492 : decode mj_law.2.1 492 = .ok (.aload_n 2, 1) := by decide +kernel
theorem mj_dL_493 : decode mj_law.2.1 493 = .ok (.aload_n 0, 1) := by decide +kernel
theorem mj_dL_494 : decode mj_law.2.1 494 = .ok (.iload_n 3, 1) := by decide +kernel
theorem mj_dL_495 : decode mj_law.2.1 495 = .ok (.iconst 1, 1) := by decide +kernel
theorem mj_dL_496 : decode mj_law.2.1 496 = .ok (.iadd, 1) := by decide +kernel
theorem mj_dL_497 : decode mj_law.2.1 497 = .ok (.iaload, 1) := by decide +kernel
theorem mj_dL_498 : decode mj_law.2.1 498 = .ok (.aload_n 0, 1) := by decide +kernel
theorem mj_dL_499 : decode mj_law.2.1 499 = .ok (.iload_n 3, 1) := by decide +kernel
theorem mj_dL_500 : decode mj_law.2.1 500 = .ok (.iconst 2, 1) := by decide +kernel
theorem mj_dL_501 : decode mj_law.2.1 501 = .ok (.iadd, 1) := by decide +kernel
theorem mj_dL_502 : decode mj_law.2.1 502 = .ok (.iaload, 1) := by decide +kernel
theorem mj_dL_503 : decode mj_law.2.1 503 = .ok (.aload_n 0, 1) := by decide +kernel
theorem mj_dL_504 : decode mj_law.2.1 504 = .ok (.iload_n 3, 1) := by decide +kernel
theorem mj_dL_505 : decode mj_law.2.1 505 = .ok (.iconst 3, 1) := by decide +kernel
theorem mj_dL_506 : decode mj_law.2.1 506 = .ok (.iadd, 1) := by decide +kernel
theorem mj_dL_507 : decode mj_law.2.1 507 = .ok (.iaload, 1) := by decide +kernel
theorem mj_dL_508 : decode mj_law.2.1 508 = .ok (.aload_n 0, 1) := by decide +kernel
theorem mj_dL_509 : decode mj_law.2.1 509 = .ok (.iload_n 3, 1) := by decide +kernel
theorem mj_dL_510 : decode mj_law.2.1 510 = .ok (.iconst 4, 1) := by decide +kernel
theorem mj_dL_511 : decode mj_law.2.1 511 = .ok (.iadd, 1) := by decide +kernel
theorem mj_dL_512 : decode mj_law.2.1 512 = .ok (.iaload, 1) := by decide +kernel
theorem mj_dL_513 : decode mj_law.2.1 513 = .ok (.invokevirtual 68, 3) := by decide +kernel
theorem mj_dL_516 : decode mj_law.2.1 516 = .ok (.if_icmp .eq 565, 3) := by decide +kernel
theorem mj_dL_521 : decode mj_law.2.1 521 = .ok (.aload_n 1, 1) := by decide +kernel
theorem mj_dL_522 : decode mj_law.2.1 522 = .ok (.aload_n 0, 1) := by decide +kernel
theorem mj_dL_523 : decode mj_law.2.1 523 = .ok (.iload_n 3, 1) := by decide +kernel
theorem mj_dL_524 : decode mj_law.2.1 524 = .ok (.iconst 1, 1) := by decide +kernel
theorem mj_dL_525 : decode mj_law.2.1 525 = .ok (.iadd, 1) := by decide +kernel
theorem mj_dL_526 : decode mj_law.2.1 526 = .ok (.iaload, 1) := by decide +kernel
theorem mj_dL_527 : decode mj_law.2.1 527 = .ok (.aload_n 0, 1) := by decide +kernel
theorem mj_dL_528 : decode mj_law.2.1 528 = .ok (.iload_n 3, 1) := by decide +kernel
theorem mj_dL_529 : decode mj_law.2.1 529 = .ok (.iconst 2, 1) := by decide +kernel
theorem mj_dL_530 : decode mj_law.2.1 530 = .ok (.iadd, 1) := by decide +kernel
theorem mj_dL_531 : decode mj_law.2.1 531 = .ok (.iaload, 1) := by decide +kernel
theorem mj_dL_532 : decode mj_law.2.1 532 = .ok (.aload_n 0, 1) := by decide +kernel
theorem mj_dL_533 : decode mj_law.2.1 533 = .ok (.iload_n 3, 1) := by decide +kernel
theorem mj_dL_534 : decode mj_law.2.1 534 = .ok (.iconst 3, 1) := by decide +kernel
theorem mj_dL_535 : decode mj_law.2.1 535 = .ok (.iadd, 1) := by decide +kernel
theorem mj_dL_536 : decode mj_law.2.1 536 = .ok (.iaload, 1) := by decide +kernel
theorem mj_dL_537 : decode mj_law.2.1 537 = .ok (.invokevirtual 69, 3) := by decide +kernel
theorem mj_dL_540 : decode mj_law.2.1 540 = .ok (.aload_n 2, 1) := by decide +kernel
theorem mj_dL_541 : decode mj_law.2.1 541 = .ok (.aload_n 0, 1) := by decide +kernel
theorem mj_dL_542 : decode mj_law.2.1 542 = .ok (.iload_n 3, 1) := by decide +kernel
theorem mj_dL_543 : decode mj_law.2.1 543 = .ok (.iconst 1, 1) := by decide +kernel
theorem mj_dL_544 : decode mj_law.2.1 544 = .ok (.iadd, 1) := by decide +kernel
theorem mj_dL_545 : decode mj_law.2.1 545 = .ok (.iaload, 1) := by decide +kernel
theorem mj_dL_546 : decode mj_law.2.1 546 = .ok (.aload_n 0, 1) := by decide +kernel
theorem mj_dL_547 : decode mj_law.2.1 547 = .ok (.iload_n 3, 1) := by decide +kernel
theorem mj_dL_548 : decode mj_law.2.1 548 = .ok (.iconst 2, 1) := by decide +kernel
theorem mj_dL_549 : decode mj_law.2.1 549 = .ok (.iadd, 1) := by decide +kernel
theorem mj_dL_550 : decode mj_law.2.1 550 = .ok (.iaload, 1) := by decide +kernel
theorem mj_dL_551 : decode mj_law.2.1 551 = .ok (.aload_n 0, 1) := by decide +kernel
theorem mj_dL_552 : decode mj_law.2.1 552 = .ok (.iload_n 3, 1) := by decide +kernel
theorem mj_dL_553 : decode mj_law.2.1 553 = .ok (.iconst 3, 1) := by decide +kernel
theorem mj_dL_554 : decode mj_law.2.1 554 = .ok (.iadd, 1) := by decide +kernel
theorem mj_dL_555 : decode mj_law.2.1 555 = .ok (.iaload, 1) := by decide +kernel
theorem mj_dL_556 : decode mj_law.2.1 556 = .ok (.invokevirtual 73, 3) := by decide +kernel
theorem mj_dL_559 : decode mj_law.2.1 559 = .ok (.if_icmp .eq 522, 3) := by decide +kernel
theorem mj_dL_564 : decode mj_law.2.1 564 = .ok (.aload_n 1, 1) := by decide +kernel
theorem mj_dL_565 : decode mj_law.2.1 565 = .ok (.aload_n 0, 1) := by decide +kernel
theorem mj_dL_566 : decode mj_law.2.1 566 = .ok (.iload_n 3, 1) := by decide +kernel
theorem mj_dL_567 : decode mj_law.2.1 567 = .ok (.iconst 1, 1) := by decide +kernel
theorem mj_dL_568 : decode mj_law.2.1 568 = .ok (.iadd, 1) := by decide +kernel
theorem mj_dL_569 : decode mj_law.2.1 569 = .ok (.iaload, 1) := by decide +kernel
theorem mj_dL_570 : decode mj_law.2.1 570 = .ok (.invokevirtual 74, 3) := by decide +kernel
theorem mj_dL_573 : decode mj_law.2.1 573 = .ok (.aload_n 2, 1) := by decide +kernel
theorem mj_dL_574 : decode mj_law.2.1 574 = .ok (.aload_n 0, 1) := by decide +kernel
theorem mj_dL_575 : decode mj_law.2.1 575 = .ok (.iload_n 3, 1) := by decide +kernel
theorem mj_dL_576 : decode mj_law.2.1 576 = .ok (.iconst 1, 1) := by decide +kernel
theorem mj_dL_577 : decode mj_law.2.1 577 = .ok (.iadd, 1) := by decide +kernel
theorem mj_dL_578 : decode mj_law.2.1 578 = .ok (.iaload, 1) := by decide +kernel
theorem mj_dL_579 : decode mj_law.2.1 579 = .ok (.invokevirtual 77, 3) := by decide +kernel
theorem mj_dL_582 : decode mj_law.2.1 582 = .ok (.if_icmp .eq 499, 3) := by decide +kernel
theorem mj_dL_587 : decode mj_law.2.1 587 = .ok (.aload_n 1, 1) := by decide +kernel
theorem mj_dL_588 : decode mj_law.2.1 588 = .ok (.aload_n 0, 1) := by decide +kernel
theorem mj_dL_589 : decode mj_law.2.1 589 = .ok (.iload_n 3, 1) := by decide +kernel
theorem mj_dL_590 : decode mj_law.2.1 590 = .ok (.iconst 1, 1) := by decide +kernel
theorem mj_dL_591 : decode mj_law.2.1 591 = .ok (.iadd, 1) := by decide +kernel
theorem mj_dL_592 : decode mj_law.2.1 592 = .ok (.iaload, 1) := by decide +kernel
theorem mj_dL_593 : decode mj_law.2.1 593 = .ok (.invokevirtual 78, 3) := by decide +kernel
theorem mj_dL_596 : decode mj_law.2.1 596 = .ok (.aload_n 2, 1) := by decide +kernel
theorem mj_dL_597 : decode mj_law.2.1 597 = .ok (.aload_n 0, 1) := by decide +kernel
theorem mj_dL_598 : decode mj_law.2.1 598 = .ok (.iload_n 3, 1) := by decide +kernel
theorem mj_dL_599 : decode mj_law.2.1 599 = .ok (.iconst 1, 1) := by decide +kernel
theorem mj_dL_600 : decode mj_law.2.1 600 = .ok (.iadd, 1) := by decide +kernel
theorem mj_dL_601 : decode mj_law.2.1 601 = .ok (.iaload, 1) := by decide +kernel
theorem mj_dL_602 : decode mj_law.2.1 602 = .ok (.invokevirtual 81, 3) := by decide +kernel
theorem mj_dL_605 : decode mj_law.2.1 605 = .ok (.if_icmp .eq 476, 3) := by decide +kernel
theorem mj_dL_610 : decode mj_law.2.1 610 = .ok (.aload_n 1, 1) := by decide +kernel
theorem mj_dL_611 : decode mj_law.2.1 611 = .ok (.aload_n 0, 1) := by decide +kernel
theorem mj_dL_612 : decode mj_law.2.1 612 = .ok (.iload_n 3, 1) := by decide +kernel
theorem mj_dL_613 : decode mj_law.2.1 613 = .ok (.iconst 1, 1) := by decide +kernel
theorem mj_dL_614 : decode mj_law.2.1 614 = .ok (.iadd, 1) := by decide +kernel
theorem mj_dL_615 : decode mj_law.2.1 615 = .ok (.iaload, 1) := by decide +kernel
theorem mj_dL_616 : decode mj_law.2.1 616 = .ok (.aload_n 0, 1) := by decide +kernel
theorem mj_dL_617 : decode mj_law.2.1 617 = .ok (.iload_n 3, 1) := by decide +kernel
theorem mj_dL_618 : decode mj_law.2.1 618 = .ok (.iconst 2, 1) := by decide +kernel
theorem mj_dL_619 : decode mj_law.2.1 619 = .ok (.iadd, 1) := by decide +kernel
theorem mj_dL_620 : decode mj_law.2.1 620 = .ok (.iaload, 1) := by decide +kernel
theorem mj_dL_621 : decode mj_law.2.1 621 = .ok (.aload_n 0, 1) := by decide +kernel
theorem mj_dL_622 : decode mj_law.2.1 622 = .ok (.iload_n 3, 1) := by decide +kernel
theorem mj_dL_623 : decode mj_law.2.1 623 = .ok (.iconst 3, 1) := by decide +kernel
theorem mj_dL_624 : decode mj_law.2.1 624 = .ok (.iadd, 1) := by decide +kernel
theorem mj_dL_625 : decode mj_law.2.1 625 = .ok (.iaload, 1) := by decide +kernel
theorem mj_dL_626 : decode mj_law.2.1 626 = .ok (.invokevirtual 82, 3) := by decide +kernel
theorem mj_dL_629 : decode mj_law.2.1 629 = .ok (.aload_n 2, 1) := by decide +kernel
theorem mj_dL_630 : decode mj_law.2.1 630 = .ok (.aload_n 0, 1) := by decide +kernel
theorem mj_dL_631 : decode mj_law.2.1 631 = .ok (.iload_n 3, 1) := by decide +kernel
theorem mj_dL_632 : decode mj_law.2.1 632 = .ok (.iconst 1, 1) := by decide +kernel
theorem mj_dL_633 : decode mj_law.2.1 633 = .ok (.iadd, 1) := by decide +kernel
theorem mj_dL_634 : decode mj_law.2.1 634 = .ok (.iaload, 1) := by decide +kernel
theorem mj_dL_635 : decode mj_law.2.1 635 = .ok (.aload_n 0, 1) := by decide +kernel
theorem mj_dL_636 : decode mj_law.2.1 636 = .ok (.iload_n 3, 1) := by decide +kernel
theorem mj_dL_637 : decode mj_law.2.1 637 = .ok (.iconst 2, 1) := by decide +kernel
theorem mj_dL_638 : decode mj_law.2.1 638 = .ok (.iadd, 1) := by decide +kernel
theorem mj_dL_639 : decode mj_law.2.1 639 = .ok (.iaload, 1) := by decide +kernel
theorem mj_dL_640 : decode mj_law.2.1 640 = .ok (.aload_n 0, 1) := by decide +kernel
theorem mj_dL_641 : decode mj_law.2.1 641 = .ok (.iload_n 3, 1) := by decide +kernel
theorem mj_dL_642 : decode mj_law.2.1 642 = .ok (.iconst 3, 1) := by decide +kernel
theorem mj_dL_643 : decode mj_law.2.1 643 = .ok (.iadd, 1) := by decide +kernel
theorem mj_dL_644 : decode mj_law.2.1 644 = .ok (.iaload, 1) := by decide +kernel
theorem mj_dL_645 : decode mj_law.2.1 645 = .ok (.invokevirtual 85, 3) := by decide +kernel
theorem mj_dL_648 : decode mj_law.2.1 648 = .ok (.if_icmp .eq 433, 3) := by decide +kernel
theorem mj_dL_653 : decode mj_law.2.1 653 = .ok (.aload_n 1, 1) := by decide +kernel
theorem mj_dL_654 : decode mj_law.2.1 654 = .ok (.aload_n 0, 1) := by decide +kernel
theorem mj_dL_655 : decode mj_law.2.1 655 = .ok (.iload_n 3, 1) := by decide +kernel
theorem mj_dL_656 : decode mj_law.2.1 656 = .ok (.iconst 1, 1) := by decide +kernel
theorem mj_dL_657 : decode mj_law.2.1 657 = .ok (.iadd, 1) := by decide +kernel
theorem mj_dL_658 : decode mj_law.2.1 658 = .ok (.iaload, 1) := by decide +kernel
theorem mj_dL_659 : decode mj_law.2.1 659 = .ok (.aload_n 0, 1) := by decide +kernel
theorem mj_dL_660 : decode mj_law.2.1 660 = .ok (.iload_n 3, 1) := by decide +kernel
theorem mj_dL_661 : decode mj_law.2.1 661 = .ok (.iconst 2, 1) := by decide +kernel
theorem mj_dL_662 : decode mj_law.2.1 662 = .ok (.iadd, 1) := by decide +kernel
theorem mj_dL_663 : decode mj_law.2.1 663 = .ok (.iaload, 1) := by decide +kernel
theorem mj_dL_664 : decode mj_law.2.1 664 = .ok (.aload_n 0, 1) := by decide +kernel
theorem mj_dL_665 : decode mj_law.2.1 665 = .ok (.iload_n 3, 1) := by decide +kernel
theorem mj_dL_666 : decode mj_law.2.1 666 = .ok (.iconst 3, 1) := by decide +kernel
theorem mj_dL_667 : decode mj_law.2.1 667 = .ok (.iadd, 1) := by decide +kernel
theorem mj_dL_668 : decode mj_law.2.1 668 = .ok (.iaload, 1) := by decide +kernel
theorem mj_dL_669 : decode mj_law.2.1 669 = .ok (.invokevirtual 86, 3) := by decide +kernel
theorem mj_dL_672 : decode mj_law.2.1 672 = .ok (.aload_n 2, 1) := by decide +kernel
theorem mj_dL_673 : decode mj_law.2.1 673 = .ok (.aload_n 0, 1) := by decide +kernel
theorem mj_dL_674 : decode mj_law.2.1 674 = .ok (.iload_n 3, 1) := by decide +kernel
theorem mj_dL_675 : decode mj_law.2.1 675 = .ok (.iconst 1, 1) := by decide +kernel
theorem mj_dL_676 : decode mj_law.2.1 676 = .ok (.iadd, 1) := by decide +kernel
theorem mj_dL_677 : decode mj_law.2.1 677 = .ok (.iaload, 1) := by decide +kernel
theorem mj_dL_678 : decode mj_law.2.1 678 = .ok (.aload_n 0, 1) := by decide +kernel
theorem mj_dL_679 : decode mj_law.2.1 679 = .ok (.iload_n 3, 1) := by decide +kernel
theorem mj_dL_680 : decode mj_law.2.1 680 = .ok (.iconst 2, 1) := by decide +kernel
theorem mj_dL_681 : decode mj_law.2.1 681 = .ok (.iadd, 1) := by decide +kernel
theorem mj_dL_682 : decode mj_law.2.1 682 = .ok (.iaload, 1) := by decide +kernel
theorem mj_dL_683 : decode mj_law.2.1 683 = .ok (.aload_n 0, 1) := by decide +kernel
theorem mj_dL_684 : decode mj_law.2.1 684 = .ok (.iload_n 3, 1) := by decide +kernel
theorem mj_dL_685 : decode mj_law.2.1 685 = .ok (.iconst 3, 1) := by decide +kernel
theorem mj_dL_686 : decode mj_law.2.1 686 = .ok (.iadd, 1) := by decide +kernel
theorem mj_dL_687 : decode mj_law.2.1 687 = .ok (.iaload, 1) := by decide +kernel
theorem mj_dL_688 : decode mj_law.2.1 688 = .ok (.invokevirtual 89, 3) := by decide +kernel
theorem mj_dL_691 : decode mj_law.2.1 691 = .ok (.if_icmp .eq 390, 3) := by decide +kernel
theorem mj_dL_696 : decode mj_law.2.1 696 = .ok (.aload_n 1, 1) := by decide +kernel
theorem mj_dL_697 : decode mj_law.2.1 697 = .ok (.aload_n 0, 1) := by decide +kernel
theorem mj_dL_698 : decode mj_law.2.1 698 = .ok (.iload_n 3, 1) := by decide +kernel
theorem mj_dL_699 : decode mj_law.2.1 699 = .ok (.iconst 1, 1) := by decide +kernel
theorem mj_dL_700 : decode mj_law.2.1 700 = .ok (.iadd, 1) := by decide +kernel
theorem mj_dL_701 : decode mj_law.2.1 701 = .ok (.iaload, 1) := by decide +kernel
theorem mj_dL_702 : decode mj_law.2.1 702 = .ok (.aload_n 0, 1) := by decide +kernel
theorem mj_dL_703 : decode mj_law.2.1 703 = .ok (.iload_n 3, 1) := by decide +kernel
theorem mj_dL_704 : decode mj_law.2.1 704 = .ok (.iconst 2, 1) := by decide +kernel
theorem mj_dL_705 : decode mj_law.2.1 705 = .ok (.iadd, 1) := by decide +kernel
theorem mj_dL_706 : decode mj_law.2.1 706 = .ok (.iaload, 1) := by decide +kernel
theorem mj_dL_707 : decode mj_law.2.1 707 = .ok (.invokevirtual 90, 3) := by decide +kernel
theorem mj_dL_710 : decode mj_law.2.1 710 = .ok (.aload_n 2, 1) := by decide +kernel
theorem mj_dL_711 : decode mj_law.2.1 711 = .ok (.aload_n 0, 1) := by decide +kernel
theorem mj_dL_712 : decode mj_law.2.1 712 = .ok (.iload_n 3, 1) := by decide +kernel
theorem mj_dL_713 : decode mj_law.2.1 713 = .ok (.iconst 1, 1) := by decide +kernel
theorem mj_dL_714 : decode mj_law.2.1 714 = .ok (.iadd, 1) := by decide +kernel
theorem mj_dL_715 : decode mj_law.2.1 715 = .ok (.iaload, 1) := by decide +kernel
theorem mj_dL_716 : decode mj_law.2.1 716 = .ok (.aload_n 0, 1) := by decide +kernel
theorem mj_dL_717 : decode mj_law.2.1 717 = .ok (.iload_n 3, 1) := by decide +kernel
theorem mj_dL_718 : decode mj_law.2.1 718 = .ok (.iconst 2, 1) := by decide +kernel
theorem mj_dL_719 : decode mj_law.2.1 719 = .ok (.iadd, 1) := by decide +kernel
theorem mj_dL_720 : decode mj_law.2.1 720 = .ok (.iaload, 1) := by decide +kernel
theorem mj_dL_721 : decode mj_law.2.1 721 = .ok (.invokevirtual 93, 3) := by decide +kernel
theorem mj_dL_724 : decode mj_law.2.1 724 = .ok (.if_icmp .eq 357, 3) := by decide +kernel
theorem mj_dL_729 : decode mj_law.2.1 729 = .ok (.aload_n 1, 1) := by decide +kernel
theorem mj_dL_730 : decode mj_law.2.1 730 = .ok (.aload_n 0, 1) := by decide +kernel
theorem mj_dL_731 : decode mj_law.2.1 731 = .ok (.iload_n 3, 1) := by decide +kernel
theorem mj_dL_732 : decode mj_law.2.1 732 = .ok (.iconst 1, 1) := by decide +kernel
theorem mj_dL_733 : decode mj_law.2.1 733 = .ok (.iadd, 1) := by decide +kernel
theorem mj_dL_734 : decode mj_law.2.1 734 = .ok (.iaload, 1) := by decide +kernel
theorem mj_dL_735 : decode mj_law.2.1 735 = .ok (.aload_n 0, 1) := by decide +kernel
theorem mj_dL_736 : decode mj_law.2.1 736 = .ok (.iload_n 3, 1) := by decide +kernel
theorem mj_dL_737 : decode mj_law.2.1 737 = .ok (.iconst 2, 1) := by decide +kernel
theorem mj_dL_738 : decode mj_law.2.1 738 = .ok (.iadd, 1) := by decide +kernel
theorem mj_dL_739 : decode mj_law.2.1 739 = .ok (.iaload, 1) := by decide +kernel
theorem mj_dL_740 : decode mj_law.2.1 740 = .ok (.aload_n 0, 1) := by decide +kernel
theorem mj_dL_741 : decode mj_law.2.1 741 = .ok (.iload_n 3, 1) := by decide +kernel
theorem mj_dL_742 : decode mj_law.2.1 742 = .ok (.iconst 3, 1) := by decide +kernel
theorem mj_dL_743 : decode mj_law.2.1 743 = .ok (.iadd, 1) := by decide +kernel
theorem mj_dL_744 : decode mj_law.2.1 744 = .ok (.iaload, 1) := by decide +kernel
theorem mj_dL_745 : decode mj_law.2.1 745 = .ok (.invokevirtual 94, 3) := by decide +kernel
theorem mj_dL_748 : decode mj_law.2.1 748 = .ok (.aload_n 2, 1) := by decide +kernel
theorem mj_dL_749 : decode mj_law.2.1 749 = .ok (.aload_n 0, 1) := by decide +kernel
theorem mj_dL_750 : decode mj_law.2.1 750 = .ok (.iload_n 3, 1) := by decide +kernel
theorem mj_dL_751 : decode mj_law.2.1 751 = .ok (.iconst 1, 1) := by decide +kernel
theorem mj_dL_752 : decode mj_law.2.1 752 = .ok (.iadd, 1) := by decide +kernel
theorem mj_dL_753 : decode mj_law.2.1 753 = .ok (.iaload, 1) := by decide +kernel
theorem mj_dL_754 : decode mj_law.2.1 754 = .ok (.aload_n 0, 1) := by decide +kernel
theorem mj_dL_755 : decode mj_law.2.1 755 = .ok (.iload_n 3, 1) := by decide +kernel
theorem mj_dL_756 : decode mj_law.2.1 756 = .ok (.iconst 2, 1) := by decide +kernel
theorem mj_dL_757 : decode mj_law.2.1 757 = .ok (.iadd, 1) := by decide +kernel
theorem mj_dL_758 : decode mj_law.2.1 758 = .ok (.iaload, 1) := by decide +kernel
theorem mj_dL_759 : decode mj_law.2.1 759 = .ok (.aload_n 0, 1) := by decide +kernel
theorem mj_dL_760 : decode mj_law.2.1 760 = .ok (.iload_n 3, 1) := by decide +kernel
theorem mj_dL_761 : decode mj_law.2.1 761 = .ok (.iconst 3, 1) := by decide +kernel
theorem mj_dL_762 : decode mj_law.2.1 762 = .ok (.iadd, 1) := by decide +kernel
theorem mj_dL_763 : decode mj_law.2.1 763 = .ok (.iaload, 1) := by decide +kernel
theorem mj_dL_764 : decode mj_law.2.1 764 = .ok (.invokevirtual 97, 3) := by decide +kernel
theorem mj_dL_767 : decode mj_law.2.1 767 = .ok (.if_icmp .eq 314, 3) := by decide +kernel
theorem mj_dL_772 : decode mj_law.2.1 772 = .ok (.aload_n 1, 1) := by decide +kernel
theorem mj_dL_773 : decode mj_law.2.1 773 = .ok (.aload_n 0, 1) := by decide +kernel
theorem mj_dL_774 : decode mj_law.2.1 774 = .ok (.iload_n 3, 1) := by decide +kernel
theorem mj_dL_775 : decode mj_law.2.1 775 = .ok (.iconst 1, 1) := by decide +kernel
theorem mj_dL_776 : decode mj_law.2.1 776 = .ok (.iadd, 1) := by decide +kernel
theorem mj_dL_777 : decode mj_law.2.1 777 = .ok (.iaload, 1) := by decide +kernel
theorem mj_dL_778 : decode mj_law.2.1 778 = .ok (.invokevirtual 98, 3) := by decide +kernel
theorem mj_dL_781 : decode mj_law.2.1 781 = .ok (.aload_n 2, 1) := by decide +kernel
theorem mj_dL_782 : decode mj_law.2.1 782 = .ok (.aload_n 0, 1) := by decide +kernel
theorem mj_dL_783 : decode mj_law.2.1 783 = .ok (.iload_n 3, 1) := by decide +kernel
theorem mj_dL_784 : decode mj_law.2.1 784 = .ok (.iconst 1, 1) := by decide +kernel
theorem mj_dL_785 : decode mj_law.2.1 785 = .ok (.iadd, 1) := by decide +kernel
theorem mj_dL_786 : decode mj_law.2.1 786 = .ok (.iaload, 1) := by decide +kernel
theorem mj_dL_787 : decode mj_law.2.1 787 = .ok (.invokevirtual 101, 3) := by decide +kernel
theorem mj_dL_790 : decode mj_law.2.1 790 = .ok (.if_icmp .eq 291, 3) := by decide +kernel
theorem mj_dL_795 : decode mj_law.2.1 795 = .ok (.aload_n 1, 1) := by decide +kernel
theorem mj_dL_796 : decode mj_law.2.1 796 = .ok (.aload_n 0, 1) := by decide +kernel
theorem mj_dL_797 : decode mj_law.2.1 797 = .ok (.iload_n 3, 1) := by decide +kernel
theorem mj_dL_798 : decode mj_law.2.1 798 = .ok (.iconst 1, 1) := by decide +kernel
theorem mj_dL_799 : decode mj_law.2.1 799 = .ok (.iadd, 1) := by decide +kernel
theorem mj_dL_800 : decode mj_law.2.1 800 = .ok (.iaload, 1) := by decide +kernel
theorem mj_dL_801 : decode mj_law.2.1 801 = .ok (.aload_n 0, 1) := by decide +kernel
theorem mj_dL_802 : decode mj_law.2.1 802 = .ok (.iload_n 3, 1) := by decide +kernel
theorem mj_dL_803 : decode mj_law.2.1 803 = .ok (.iconst 2, 1) := by decide +kernel
theorem mj_dL_804 : decode mj_law.2.1 804 = .ok (.iadd, 1) := by decide +kernel
theorem mj_dL_805 : decode mj_law.2.1 805 = .ok (.iaload, 1) := by decide +kernel
theorem mj_dL_806 : decode mj_law.2.1 806 = .ok (.invokevirtual 102, 3) := by decide +kernel
theorem mj_dL_809 : decode mj_law.2.1 809 = .ok (.aload_n 2, 1) := by decide +kernel
theorem mj_dL_810 : decode mj_law.2.1 810 = .ok (.aload_n 0, 1) := by decide +kernel
theorem mj_dL_811 : decode mj_law.2.1 811 = .ok (.iload_n 3, 1) := by decide +kernel
theorem mj_dL_812 : decode mj_law.2.1 812 = .ok (.iconst 1, 1) := by decide +kernel
theorem mj_dL_813 : decode mj_law.2.1 813 = .ok (.iadd, 1) := by decide +kernel
theorem mj_dL_814 : decode mj_law.2.1 814 = .ok (.iaload, 1) := by decide +kernel
theorem mj_dL_815 : decode mj_law.2.1 815 = .ok (.aload_n 0, 1) := by decide +kernel
theorem mj_dL_816 : decode mj_law.2.1 816 = .ok (.iload_n 3, 1) := by decide +kernel
theorem mj_dL_817 : decode mj_law.2.1 817 = .ok (.iconst 2, 1) := by decide +kernel
theorem mj_dL_818 : decode mj_law.2.1 818 = .ok (.iadd, 1) := by decide +kernel
theorem mj_dL_819 : decode mj_law.2.1 819 = .ok (.iaload, 1) := by decide +kernel
theorem mj_dL_820 : decode mj_law.2.1 820 = .ok (.invokevirtual 105, 3) := by decide +kernel
theorem mj_dL_823 : decode mj_law.2.1 823 = .ok (.if_icmp .eq 258, 3) := by decide +kernel
theorem mj_dL_828 : decode mj_law.2.1 828 = .ok (.aload_n 1, 1) := by decide +kernel
theorem mj_dL_829 : decode mj_law.2.1 829 = .ok (.aload_n 0, 1) := by decide +kernel
theorem mj_dL_830 : decode mj_law.2.1 830 = .ok (.iload_n 3, 1) := by decide +kernel
theorem mj_dL_831 : decode mj_law.2.1 831 = .ok (.iconst 1, 1) := by decide +kernel
theorem mj_dL_832 : decode mj_law.2.1 832 = .ok (.iadd, 1) := by decide +kernel
theorem mj_dL_833 : decode mj_law.2.1 833 = .ok (.iaload, 1) := by decide +kernel
theorem mj_dL_834 : decode mj_law.2.1 834 = .ok (.aload_n 0, 1) := by decide +kernel
theorem mj_dL_835 : decode mj_law.2.1 835 = .ok (.iload_n 3, 1) := by decide +kernel
theorem mj_dL_836 : decode mj_law.2.1 836 = .ok (.iconst 2, 1) := by decide +kernel
theorem mj_dL_837 : decode mj_law.2.1 837 = .ok (.iadd, 1) := by decide +kernel
theorem mj_dL_838 : decode mj_law.2.1 838 = .ok (.iaload, 1) := by decide +kernel
theorem mj_dL_839 : decode mj_law.2.1 839 = .ok (.invokevirtual 106, 3) := by decide +kernel
theorem mj_dL_842 : decode mj_law.2.1 842 = .ok (.aload_n 2, 1) := by decide +kernel
theorem mj_dL_843 : decode mj_law.2.1 843 = .ok (.aload_n 0, 1) := by decide +kernel
theorem mj_dL_844 : decode mj_law.2.1 844 = .ok (.iload_n 3, 1) := by decide +kernel
theorem mj_dL_845 : decode mj_law.2.1 845 = .ok (.iconst 1, 1) := by decide +kernel
theorem mj_dL_846 : decode mj_law.2.1 846 = .ok (.iadd, 1) := by decide +kernel
theorem mj_dL_847 : decode mj_law.2.1 847 = .ok (.iaload, 1) := by decide +kernel
theorem mj_dL_848 : decode mj_law.2.1 848 = .ok (.aload_n 0, 1) := by decide +kernel
theorem mj_dL_849 : decode mj_law.2.1 849 = .ok (.iload_n 3, 1) := by decide +kernel
theorem mj_dL_850 : decode mj_law.2.1 850 = .ok (.iconst 2, 1) := by decide +kernel
theorem mj_dL_851 : decode mj_law.2.1 851 = .ok (.iadd, 1) := by decide +kernel
theorem mj_dL_852 : decode mj_law.2.1 852 = .ok (.iaload, 1) := by decide +kernel
theorem mj_dL_853 : decode mj_law.2.1 853 = .ok (.invokevirtual 109, 3) := by decide +kernel
theorem mj_dL_856 : decode mj_law.2.1 856 = .ok (.if_icmp .eq 225, 3) := by decide +kernel
theorem mj_dL_861 : decode mj_law.2.1 861 = .ok (.aload_n 1, 1) := by decide +kernel
theorem mj_dL_862 : decode mj_law.2.1 862 = .ok (.aload_n 0, 1) := by decide +kernel
theorem mj_dL_863 : decode mj_law.2.1 863 = .ok (.iload_n 3, 1) := by decide +kernel
theorem mj_dL_864 : decode mj_law.2.1 864 = .ok (.iconst 1, 1) := by decide +kernel
theorem mj_dL_865 : decode mj_law.2.1 865 = .ok (.iadd, 1) := by decide +kernel
theorem mj_dL_866 : decode mj_law.2.1 866 = .ok (.iaload, 1) := by decide +kernel
theorem mj_dL_867 : decode mj_law.2.1 867 = .ok (.aload_n 0, 1) := by decide +kernel
theorem mj_dL_868 : decode mj_law.2.1 868 = .ok (.iload_n 3, 1) := by decide +kernel
theorem mj_dL_869 : decode mj_law.2.1 869 = .ok (.iconst 2, 1) := by decide +kernel
theorem mj_dL_870 : decode mj_law.2.1 870 = .ok (.iadd, 1) := by decide +kernel
theorem mj_dL_871 : decode mj_law.2.1 871 = .ok (.iaload, 1) := by decide +kernel
theorem mj_dL_872 : decode mj_law.2.1 872 = .ok (.aload_n 0, 1) := by decide +kernel
theorem mj_dL_873 : decode mj_law.2.1 873 = .ok (.iload_n 3, 1) := by decide +kernel
theorem mj_dL_874 : decode mj_law.2.1 874 = .ok (.iconst 3, 1) := by decide +kernel
theorem mj_dL_875 : decode mj_law.2.1 875 = .ok (.iadd, 1) := by decide +kernel
theorem mj_dL_876 : decode mj_law.2.1 876 = .ok (.iaload, 1) := by decide +kernel
theorem mj_dL_877 : decode mj_law.2.1 877 = .ok (.ifCond .eq 7, 3) := by decide +kernel
theorem mj_dL_880 : decode mj_law.2.1 880 = .ok (.iconst 1, 1) := by decide +kernel
theorem mj_dL_881 : decode mj_law.2.1 881 = .ok (.goto 4, 3) := by decide +kernel
theorem mj_dL_884 : decode mj_law.2.1 884 = .ok (.iconst 0, 1) := by decide +kernel
theorem mj_dL_885 : decode mj_law.2.1 885 = .ok (.invokevirtual 110, 3) := by decide +kernel
theorem mj_dL_888 : decode mj_law.2.1 888 = .ok (.aload_n 2, 1) := by decide +kernel
theorem mj_dL_889 : decode mj_law.2.1 889 = .ok (.aload_n 0, 1) := by decide +kernel
theorem mj_dL_890 : decode mj_law.2.1 890 = .ok (.iload_n 3, 1) := by decide +kernel
theorem mj_dL_891 : decode mj_law.2.1 891 = .ok (.iconst 1, 1) := by decide +kernel
theorem mj_dL_892 : decode mj_law.2.1 892 = .ok (.iadd, 1) := by decide +kernel
theorem mj_dL_893 : decode mj_law.2.1 893 = .ok (.iaload, 1) := by decide +kernel
theorem mj_dL_894 : decode mj_law.2.1 894 = .ok (.aload_n 0, 1) := by decide +kernel
theorem mj_dL_895 : decode mj_law.2.1 895 = .ok (.iload_n 3, 1) := by decide +kernel
theorem mj_dL_896 : decode mj_law.2.1 896 = .ok (.iconst 2, 1) := by decide +kernel
theorem mj_dL_897 : decode mj_law.2.1 897 = .ok (.iadd, 1) := by decide +kernel
theorem mj_dL_898 : decode mj_law.2.1 898 = .ok (.iaload, 1) := by decide +kernel
theorem mj_dL_899 : decode mj_law.2.1 899 = .ok (.aload_n 0, 1) := by decide +kernel
theorem mj_dL_900 : decode mj_law.2.1 900 = .ok (.iload_n 3, 1) := by decide +kernel
theorem mj_dL_901 : decode mj_law.2.1 901 = .ok (.iconst 3, 1) := by decide +kernel
theorem mj_dL_902 : decode mj_law.2.1 902 = .ok (.iadd, 1) := by decide +kernel
theorem mj_dL_903 : decode mj_law.2.1 903 = .ok (.iaload, 1) := by decide +kernel
theorem mj_dL_904 : decode mj_law.2.1 904 = .ok (.ifCond .eq 7, 3) := by decide +kernel
theorem mj_dL_907 : decode mj_law.2.1 907 = .ok (.iconst 1, 1) := by decide +kernel
theorem mj_dL_908 : decode mj_law.2.1 908 = .ok (.goto 4, 3) := by decide +kernel
theorem mj_dL_911 : decode mj_law.2.1 911 = .ok (.iconst 0, 1) := by decide +kernel
theorem mj_dL_912 : decode mj_law.2.1 912 = .ok (.invokevirtual 114, 3) := by decide +kernel
theorem mj_dL_915 : decode mj_law.2.1 915 = .ok (.if_icmp .eq 166, 3) := by decide +kernel
theorem mj_dL_920 : decode mj_law.2.1 920 = .ok (.aload_n 1, 1) := by decide +kernel
theorem mj_dL_921 : decode mj_law.2.1 921 = .ok (.aload_n 0, 1) := by decide +kernel
theorem mj_dL_922 : decode mj_law.2.1 922 = .ok (.iload_n 3, 1) := by decide +kernel
theorem mj_dL_923 : decode mj_law.2.1 923 = .ok (.iconst 1, 1) := by decide +kernel
theorem mj_dL_924 : decode mj_law.2.1 924 = .ok (.iadd, 1) := by decide +kernel
theorem mj_dL_925 : decode mj_law.2.1 925 = .ok (.iaload, 1) := by decide +kernel
theorem mj_dL_926 : decode mj_law.2.1 926 = .ok (.aload_n 0, 1) := by decide +kernel
theorem mj_dL_927 : decode mj_law.2.1 927 = .ok (.iload_n 3, 1) := by decide +kernel
theorem mj_dL_928 : decode mj_law.2.1 928 = .ok (.iconst 2, 1) := by decide +kernel
theorem mj_dL_929 : decode mj_law.2.1 929 = .ok (.iadd, 1) := by decide +kernel
theorem mj_dL_930 : decode mj_law.2.1 930 = .ok (.iaload, 1) := by decide +kernel
theorem mj_dL_931 : decode mj_law.2.1 931 = .ok (.invokevirtual 115, 3) := by decide +kernel
theorem mj_dL_934 : decode mj_law.2.1 934 = .ok (.aload_n 2, 1) := by decide +kernel
theorem mj_dL_935 : decode mj_law.2.1 935 = .ok (.aload_n 0, 1) := by decide +kernel
theorem mj_dL_936 : decode mj_law.2.1 936 = .ok (.iload_n 3, 1) := by decide +kernel
theorem mj_dL_937 : decode mj_law.2.1 937 = .ok (.iconst 1, 1) := by decide +kernel
theorem mj_dL_938 : decode mj_law.2.1 938 = .ok (.iadd, 1) := by decide +kernel
theorem mj_dL_939 : decode mj_law.2.1 939 = .ok (.iaload, 1) := by decide +kernel
theorem mj_dL_940 : decode mj_law.2.1 940 = .ok (.aload_n 0, 1) := by decide +kernel
theorem mj_dL_941 : decode mj_law.2.1 941 = .ok (.iload_n 3, 1) := by decide +kernel
theorem mj_dL_942 : decode mj_law.2.1 942 = .ok (.iconst 2, 1) := by decide +kernel
theorem mj_dL_943 : decode mj_law.2.1 943 = .ok (.iadd, 1) := by decide +kernel
theorem mj_dL_944 : decode mj_law.2.1 944 = .ok (.iaload, 1) := by decide +kernel
theorem mj_dL_945 : decode mj_law.2.1 945 = .ok (.invokevirtual 118, 3) := by decide +kernel
theorem mj_dL_948 : decode mj_law.2.1 948 = .ok (.if_icmp .eq 133, 3) := by decide +kernel
theorem mj_dL_953 : decode mj_law.2.1 953 = .ok (.aload_n 1, 1) := by decide +kernel
theorem mj_dL_954 : decode mj_law.2.1 954 = .ok (.aload_n 0, 1) := by decide +kernel
theorem mj_dL_955 : decode mj_law.2.1 955 = .ok (.iload_n 3, 1) := by decide +kernel
theorem mj_dL_956 : decode mj_law.2.1 956 = .ok (.iconst 1, 1) := by decide +kernel
theorem mj_dL_957 : decode mj_law.2.1 957 = .ok (.iadd, 1) := by decide +kernel
theorem mj_dL_958 : decode mj_law.2.1 958 = .ok (.iaload, 1) := by decide +kernel
theorem mj_dL_959 : decode mj_law.2.1 959 = .ok (.aload_n 0, 1) := by decide +kernel
theorem mj_dL_960 : decode mj_law.2.1 960 = .ok (.iload_n 3, 1) := by decide +kernel
theorem mj_dL_961 : decode mj_law.2.1 961 = .ok (.iconst 2, 1) := by decide +kernel
theorem mj_dL_962 : decode mj_law.2.1 962 = .ok (.iadd, 1) := by decide +kernel
theorem mj_dL_963 : decode mj_law.2.1 963 = .ok (.iaload, 1) := by decide +kernel
theorem mj_dL_964 : decode mj_law.2.1 964 = .ok (.invokevirtual 119, 3) := by decide +kernel
theorem mj_dL_967 : decode mj_law.2.1 967 = .ok (.aload_n 2, 1) := by decide +kernel
theorem mj_dL_968 : decode mj_law.2.1 968 = .ok (.aload_n 0, 1) := by decide +kernel
theorem mj_dL_969 : decode mj_law.2.1 969 = .ok (.iload_n 3, 1) := by decide +kernel
theorem mj_dL_970 : decode mj_law.2.1 970 = .ok (.iconst 1, 1) := by decide +kernel
theorem mj_dL_971 : decode mj_law.2.1 971 = .ok (.iadd, 1) := by decide +kernel
theorem mj_dL_972 : decode mj_law.2.1 972 = .ok (.iaload, 1) := by decide +kernel
theorem mj_dL_973 : decode mj_law.2.1 973 = .ok (.aload_n 0, 1) := by decide +kernel
theorem mj_dL_974 : decode mj_law.2.1 974 = .ok (.iload_n 3, 1) := by decide +kernel
theorem mj_dL_975 : decode mj_law.2.1 975 = .ok (.iconst 2, 1) := by decide +kernel
theorem mj_dL_976 : decode mj_law.2.1 976 = .ok (.iadd, 1) := by decide +kernel
theorem mj_dL_977 : decode mj_law.2.1 977 = .ok (.iaload, 1) := by decide +kernel
theorem mj_dL_978 : decode mj_law.2.1 978 = .ok (.invokevirtual 122, 3) := by decide +kernel
theorem mj_dL_981 : decode mj_law.2.1 981 = .ok (.if_icmp .eq 100, 3) := by decide +kernel
theorem mj_dL_986 : decode mj_law.2.1 986 = .ok (.aload_n 1, 1) := by decide +kernel
theorem mj_dL_987 : decode mj_law.2.1 987 = .ok (.invokevirtual 123, 3) := by decide +kernel
theorem mj_dL_990 : decode mj_law.2.1 990 = .ok (.aload_n 2, 1) := by decide +kernel
theorem mj_dL_991 : decode mj_law.2.1 991 = .ok (.invokevirtual 126, 3) := by decide +kernel
theorem mj_dL_994 : decode mj_law.2.1 994 = .ok (.if_icmp .eq 87, 3) := by decide +kernel
theorem mj_dL_999 : decode mj_law.2.1 999 = .ok (.aload_n 1, 1) := by decide +kernel
theorem mj_dL_1000 : decode mj_law.2.1 1000 = .ok (.invokevirtual 127, 3) := by decide +kernel
theorem mj_dL_1003 : decode mj_law.2.1 1003 = .ok (.aload_n 2, 1) := by decide +kernel
theorem mj_dL_1004 : decode mj_law.2.1 1004 = .ok (.invokevirtual 130, 3) := by decide +kernel
theorem mj_dL_1007 : decode mj_law.2.1 1007 = .ok (.if_icmp .eq 74, 3) := by decide +kernel
theorem mj_dL_1012 : decode mj_law.2.1 1012 = .ok (.aload_n 1, 1) := by decide +kernel
theorem mj_dL_1013 : decode mj_law.2.1 1013 = .ok (.aload_n 0, 1) := by decide +kernel
theorem mj_dL_1014 : decode mj_law.2.1 1014 = .ok (.iload_n 3, 1) := by decide +kernel
theorem mj_dL_1015 : decode mj_law.2.1 1015 = .ok (.iconst 1, 1) := by decide +kernel
theorem mj_dL_1016 : decode mj_law.2.1 1016 = .ok (.iadd, 1) := by decide +kernel
theorem mj_dL_1017 : decode mj_law.2.1 1017 = .ok (.iaload, 1) := by decide +kernel
theorem mj_dL_1018 : decode mj_law.2.1 1018 = .ok (.invokevirtual 131, 3) := by decide +kernel
theorem mj_dL_1021 : decode mj_law.2.1 1021 = .ok (.aload_n 2, 1) := by decide +kernel
theorem mj_dL_1022 : decode mj_law.2.1 1022 = .ok (.aload_n 0, 1) := by decide +kernel
theorem mj_dL_1023 : decode mj_law.2.1 1023 = .ok (.iload_n 3, 1) := by decide +kernel
theorem mj_dL_1024 : decode mj_law.2.1 1024 = .ok (.iconst 1, 1) := by decide +kernel
theorem mj_dL_1025 : decode mj_law.2.1 1025 = .ok (.iadd, 1) := by decide +kernel
theorem mj_dL_1026 : decode mj_law.2.1 1026 = .ok (.iaload, 1) := by decide +kernel
theorem mj_dL_1027 : decode mj_law.2.1 1027 = .ok (.invokevirtual 134, 3) := by decide +kernel
theorem mj_dL_1030 : decode mj_law.2.1 1030 = .ok (.if_icmp .eq 51, 3) := by decide +kernel
theorem mj_dL_1035 : decode mj_law.2.1 1035 = .ok (.aload_n 1, 1) := by decide +kernel
theorem mj_dL_1036 : decode mj_law.2.1 1036 = .ok (.aload_n 0, 1) := by decide +kernel
theorem mj_dL_1037 : decode mj_law.2.1 1037 = .ok (.iload_n 3, 1) := by decide +kernel
theorem mj_dL_1038 : decode mj_law.2.1 1038 = .ok (.iconst 1, 1) := by decide +kernel
theorem mj_dL_1039 : decode mj_law.2.1 1039 = .ok (.iadd, 1) := by decide +kernel
theorem mj_dL_1040 : decode mj_law.2.1 1040 = .ok (.iaload, 1) := by decide +kernel
theorem mj_dL_1041 : decode mj_law.2.1 1041 = .ok (.invokevirtual 135, 3) := by decide +kernel
theorem mj_dL_1044 : decode mj_law.2.1 1044 = .ok (.aload_n 2, 1) := by decide +kernel
theorem mj_dL_1045 : decode mj_law.2.1 1045 = .ok (.aload_n 0, 1) := by decide +kernel
theorem mj_dL_1046 : decode mj_law.2.1 1046 = .ok (.iload_n 3, 1) := by decide +kernel
theorem mj_dL_1047 : decode mj_law.2.1 1047 = .ok (.iconst 1, 1) := by decide +kernel
theorem mj_dL_1048 : decode mj_law.2.1 1048 = .ok (.iadd, 1) := by decide +kernel
theorem mj_dL_1049 : decode mj_law.2.1 1049 = .ok (.iaload, 1) := by decide +kernel
theorem mj_dL_1050 : decode mj_law.2.1 1050 = .ok (.invokevirtual 138, 3) := by decide +kernel
theorem mj_dL_1053 : decode mj_law.2.1 1053 = .ok (.if_icmp .eq 28, 3) := by decide +kernel
theorem mj_dL_1058 : decode mj_law.2.1 1058 = .ok (.aload_n 1, 1) := by decide +kernel
theorem mj_dL_1059 : decode mj_law.2.1 1059 = .ok (.aload_n 0, 1) := by decide +kernel
theorem mj_dL_1060 : decode mj_law.2.1 1060 = .ok (.iload_n 3, 1) := by decide +kernel
theorem mj_dL_1061 : decode mj_law.2.1 1061 = .ok (.iconst 1, 1) := by decide +kernel
theorem mj_dL_1062 : decode mj_law.2.1 1062 = .ok (.iadd, 1) := by decide +kernel
theorem mj_dL_1063 : decode mj_law.2.1 1063 = .ok (.iaload, 1) := by decide +kernel
theorem mj_dL_1064 : decode mj_law.2.1 1064 = .ok (.invokevirtual 139, 3) := by decide +kernel
theorem mj_dL_1067 : decode mj_law.2.1 1067 = .ok (.aload_n 2, 1) := by decide +kernel
theorem mj_dL_1068 : decode mj_law.2.1 1068 = .ok (.aload_n 0, 1) := by decide +kernel
theorem mj_dL_1069 : decode mj_law.2.1 1069 = .ok (.iload_n 3, 1) := by decide +kernel
theorem mj_dL_1070 : decode mj_law.2.1 1070 = .ok (.iconst 1, 1) := by decide +kernel
theorem mj_dL_1071 : decode mj_law.2.1 1071 = .ok (.iadd, 1) := by decide +kernel
theorem mj_dL_1072 : decode mj_law.2.1 1072 = .ok (.iaload, 1) := by decide +kernel
theorem mj_dL_1073 : decode mj_law.2.1 1073 = .ok (.invokevirtual 142, 3) := by decide +kernel
theorem mj_dL_1076 : decode mj_law.2.1 1076 = .ok (.if_icmp .eq 5, 3) := by decide +kernel
theorem mj_dL_1081 : decode mj_law.2.1 1081 = .ok (.iinc 3 5, 3) := by decide +kernel
theorem mj_dL_1084 : decode mj_law.2.1 1084 = .ok (.goto (-1066), 3) := by decide +kernel
theorem mj_dL_1087 : decode mj_law.2.1 1087 = .ok (.iconst 1, 1) := by decide +kernel
theorem mj_dL_1088 : decode mj_law.2.1 1088 = .ok (.ireturn, 1) := by decide +kernel
