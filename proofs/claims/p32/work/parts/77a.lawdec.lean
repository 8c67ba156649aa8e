theorem mj_dL_0 : decode mj_law.2.1 0 = .ok (.new 7, 3) := by decide +kernel
theorem mj_dL_3 : decode mj_law.2.1 3 = .ok (.dup, 1) := by decide +kernel
theorem mj_dL_4 : decode mj_law.2.1 4 = .ok (.invokespecial 9, 3) := by decide +kernel
theorem mj_dL_7 : decode mj_law.2.1 7 = .ok (.astore_n 1, 1) := by decide +kernel
theorem mj_dL_8 : decode mj_law.2.1 8 = .ok (.new 10, 3) := by decide +kernel
theorem mj_dL_11 : decode mj_law.2.1 11 = .ok (.dup, 1) := by decide +kernel
theorem mj_dL_12 : decode mj_law.2.1 12 = .ok (.invokespecial 12, 3) := by decide +kernel
theorem mj_dL_15 : decode mj_law.2.1 15 = .ok (.astore_n 2, 1) := by decide +kernel
theorem mj_dL_16 : decode mj_law.2.1 16 = .ok (.iconst 0, 1) := by decide +kernel
theorem mj_dL_17 : decode mj_law.2.1 17 = .ok (.istore_n 3, 1) := by decide +kernel
theorem mj_dL_18 : decode mj_law.2.1 18 = .ok (.iload_n 3, 1) := by decide +kernel
theorem mj_dL_19 : decode mj_law.2.1 19 = .ok (.aload_n 0, 1) := by decide +kernel
theorem mj_dL_20 : decode mj_law.2.1 20 = .ok (.arraylength, 1) := by decide +kernel
theorem mj_dL_21 : decode mj_law.2.1 21 = .ok (.iconst 5, 1) := by decide +kernel
theorem mj_dL_22 : decode mj_law.2.1 22 = .ok (.isub, 1) := by decide +kernel
theorem mj_dL_23 : decode mj_law.2.1 23 = .ok (.if_icmp .gt 1064, 3) := by decide +kernel
theorem mj_dL_26 : decode mj_law.2.1 26 = .ok (.aload_n 0, 1) := by decide +kernel
theorem mj_dL_27 : decode mj_law.2.1 27 = .ok (.iload_n 3, 1) := by decide +kernel
theorem mj_dL_28 : decode mj_law.2.1 28 = .ok (.iaload, 1) := by decide +kernel
theorem mj_dL_29 : decode mj_law.2.1 29 = .ok (.bipush 31, 2) := by decide +kernel
theorem mj_dL_31 : decode mj_law.2.1 31 = .ok (.iand, 1) := by decide +kernel
theorem mj_dL_32 : decode mj_law.2.1 32 = .ok (.tableswitch 1049 0 30 #[140, 163, 176, 189, 212, 245, 278, 311, 334, 367, 380, 403, 436, 489, 532, 555, 578, 621, 664, 697, 740, 763, 796, 829, 888, 921, 954, 967, 980, 1003, 1026], 140) := by decide +kernel
theorem mj_dL_172 : decode mj_law.2.1 172 = .ok (.aload_n 1, 1) := by decide +kernel
theorem mj_dL_173 : decode mj_law.2.1 173 = .ok (.aload_n 0, 1) := by decide +kernel
theorem mj_dL_174 : decode mj_law.2.1 174 = .ok (.iload_n 3, 1) := by decide +kernel
theorem mj_dL_175 : decode mj_law.2.1 175 = .ok (.iconst 1, 1) := by decide +kernel
theorem mj_dL_176 : decode mj_law.2.1 176 = .ok (.iadd, 1) := by decide +kernel
theorem mj_dL_177 : decode mj_law.2.1 177 = .ok (.iaload, 1) := by decide +kernel
theorem mj_dL_178 : decode mj_law.2.1 178 = .ok (.invokevirtual 13, 3) := by decide +kernel
theorem mj_dL_181 : decode mj_law.2.1 181 = .ok (.pop, 1) := by decide +kernel
theorem mj_dL_182 : decode mj_law.2.1 182 = .ok (.aload_n 2, 1) := by decide +kernel
theorem mj_dL_183 : decode mj_law.2.1 183 = .ok (.aload_n 0, 1) := by decide +kernel
theorem mj_dL_184 : decode mj_law.2.1 184 = .ok (.iload_n 3, 1) := by decide +kernel
theorem mj_dL_185 : decode mj_law.2.1 185 = .ok (.iconst 1, 1) := by decide +kernel
theorem mj_dL_186 : decode mj_law.2.1 186 = .ok (.iadd, 1) := by decide +kernel
theorem mj_dL_187 : decode mj_law.2.1 187 = .ok (.iaload, 1) := by decide +kernel
theorem mj_dL_188 : decode mj_law.2.1 188 = .ok (.invokevirtual 17, 3) := by decide +kernel
theorem mj_dL_191 : decode mj_law.2.1 191 = .ok (.pop, 1) := by decide +kernel
theorem mj_dL_192 : decode mj_law.2.1 192 = .ok (.goto 889, 3) := by decide +kernel
theorem mj_dL_195 : decode mj_law.2.1 195 = .ok (.aload_n 1, 1) := by decide +kernel
theorem mj_dL_196 : decode mj_law.2.1 196 = .ok (.invokevirtual 18, 3) := by decide +kernel
theorem mj_dL_199 : decode mj_law.2.1 199 = .ok (.pop, 1) := by decide +kernel
theorem mj_dL_200 : decode mj_law.2.1 200 = .ok (.aload_n 2, 1) := by decide +kernel
theorem mj_dL_201 : decode mj_law.2.1 201 = .ok (.invokevirtual 22, 3) := by decide +kernel
theorem mj_dL_204 : decode mj_law.2.1 204 = .ok (.pop, 1) := by decide +kernel
theorem mj_dL_205 : decode mj_law.2.1 205 = .ok (.goto 876, 3) := by decide +kernel
theorem mj_dL_208 : decode mj_law.2.1 208 = .ok (.aload_n 1, 1) := by decide +kernel
theorem mj_dL_209 : decode mj_law.2.1 209 = .ok (.invokevirtual 23, 3) := by decide +kernel
theorem mj_dL_212 : decode mj_law.2.1 212 = .ok (.pop, 1) := by decide +kernel
theorem mj_dL_213 : decode mj_law.2.1 213 = .ok (.aload_n 2, 1) := by decide +kernel
theorem mj_dL_214 : decode mj_law.2.1 214 = .ok (.invokevirtual 26, 3) := by decide +kernel
theorem mj_dL_217 : decode mj_law.2.1 217 = .ok (.pop, 1) := by decide +kernel
theorem mj_dL_218 : decode mj_law.2.1 218 = .ok (.goto 863, 3) := by decide +kernel
theorem mj_dL_221 : decode mj_law.2.1 221 = .ok (.aload_n 1, 1) := by decide +kernel
theorem mj_dL_222 : decode mj_law.2.1 222 = .ok (.aload_n 0, 1) := by decide +kernel
theorem mj_dL_223 : decode mj_law.2.1 223 = .ok (.iload_n 3, 1) := by decide +kernel
theorem mj_dL_224 : decode mj_law.2.1 224 = .ok (.iconst 1, 1) := by decide +kernel
theorem mj_dL_225 : decode mj_law.2.1 225 = .ok (.iadd, 1) := by decide +kernel
theorem mj_dL_226 : decode mj_law.2.1 226 = .ok (.iaload, 1) := by decide +kernel
theorem mj_dL_227 : decode mj_law.2.1 227 = .ok (.invokevirtual 27, 3) := by decide +kernel
theorem mj_dL_230 : decode mj_law.2.1 230 = .ok (.pop, 1) := by decide +kernel
theorem mj_dL_231 : decode mj_law.2.1 231 = .ok (.aload_n 2, 1) := by decide +kernel
theorem mj_dL_232 : decode mj_law.2.1 232 = .ok (.aload_n 0, 1) := by decide +kernel
theorem mj_dL_233 : decode mj_law.2.1 233 = .ok (.iload_n 3, 1) := by decide +kernel
theorem mj_dL_234 : decode mj_law.2.1 234 = .ok (.iconst 1, 1) := by decide +kernel
theorem mj_dL_235 : decode mj_law.2.1 235 = .ok (.iadd, 1) := by decide +kernel
theorem mj_dL_236 : decode mj_law.2.1 236 = .ok (.iaload, 1) := by decide +kernel
theorem mj_dL_237 : decode mj_law.2.1 237 = .ok (.invokevirtual 30, 3) := by decide +kernel
theorem mj_dL_240 : decode mj_law.2.1 240 = .ok (.pop, 1) := by decide +kernel
theorem mj_dL_241 : decode mj_law.2.1 241 = .ok (.goto 840, 3) := by decide +kernel
theorem mj_dL_244 : decode mj_law.2.1 244 = .ok (.aload_n 1, 1) := by decide +kernel
theorem mj_dL_245 : decode mj_law.2.1 245 = .ok (.aload_n 0, 1) := by decide +kernel
theorem mj_dL_246 : decode mj_law.2.1 246 = .ok (.iload_n 3, 1) := by decide +kernel
theorem mj_dL_247 : decode mj_law.2.1 247 = .ok (.iconst 1, 1) := by decide +kernel
theorem mj_dL_248 : decode mj_law.2.1 248 = .ok (.iadd, 1) := by decide +kernel
theorem mj_dL_249 : decode mj_law.2.1 249 = .ok (.iaload, 1) := by decide +kernel
theorem mj_dL_250 : decode mj_law.2.1 250 = .ok (.aload_n 0, 1) := by decide +kernel
theorem mj_dL_251 : decode mj_law.2.1 251 = .ok (.iload_n 3, 1) := by decide +kernel
theorem mj_dL_252 : decode mj_law.2.1 252 = .ok (.iconst 2, 1) := by decide +kernel
theorem mj_dL_253 : decode mj_law.2.1 253 = .ok (.iadd, 1) := by decide +kernel
theorem mj_dL_254 : decode mj_law.2.1 254 = .ok (.iaload, 1) := by decide +kernel
theorem mj_dL_255 : decode mj_law.2.1 255 = .ok (.invokevirtual 31, 3) := by decide +kernel
theorem mj_dL_258 : decode mj_law.2.1 258 = .ok (.pop, 1) := by decide +kernel
theorem mj_dL_259 : decode mj_law.2.1 259 = .ok (.aload_n 2, 1) := by decide +kernel
theorem mj_dL_260 : decode mj_law.2.1 260 = .ok (.aload_n 0, 1) := by decide +kernel
theorem mj_dL_261 : decode mj_law.2.1 261 = .ok (.iload_n 3, 1) := by decide +kernel
theorem mj_dL_262 : decode mj_law.2.1 262 = .ok (.iconst 1, 1) := by decide +kernel
theorem mj_dL_263 : decode mj_law.2.1 263 = .ok (.iadd, 1) := by decide +kernel
theorem mj_dL_264 : decode mj_law.2.1 264 = .ok (.iaload, 1) := by decide +kernel
theorem mj_dL_265 : decode mj_law.2.1 265 = .ok (.aload_n 0, 1) := by decide +kernel
theorem mj_dL_266 : decode mj_law.2.1 266 = .ok (.iload_n 3, 1) := by decide +kernel
theorem mj_dL_267 : decode mj_law.2.1 267 = .ok (.iconst 2, 1) := by decide +kernel
theorem mj_dL_268 : decode mj_law.2.1 268 = .ok (.iadd, 1) := by decide +kernel
theorem mj_dL_269 : decode mj_law.2.1 269 = .ok (.iaload, 1) := by decide +kernel
theorem mj_dL_270 : decode mj_law.2.1 270 = .ok (.invokevirtual 35, 3) := by decide +kernel
theorem mj_dL_273 : decode mj_law.2.1 273 = .ok (.pop, 1) := by decide +kernel
theorem mj_dL_274 : decode mj_law.2.1 274 = .ok (.goto 807, 3) := by decide +kernel
theorem mj_dL_277 : decode mj_law.2.1 277 = .ok (.aload_n 1, 1) := by decide +kernel
theorem mj_dL_278 : decode mj_law.2.1 278 = .ok (.aload_n 0, 1) := by decide +kernel
theorem mj_dL_279 : decode mj_law.2.1 279 = .ok (.iload_n 3, 1) := by decide +kernel
theorem mj_dL_280 : decode mj_law.2.1 280 = .ok (.iconst 1, 1) := by decide +kernel
theorem mj_dL_281 : decode mj_law.2.1 281 = .ok (.iadd, 1) := by decide +kernel
theorem mj_dL_282 : decode mj_law.2.1 282 = .ok (.iaload, 1) := by decide +kernel
theorem mj_dL_283 : decode mj_law.2.1 283 = .ok (.aload_n 0, 1) := by decide +kernel
theorem mj_dL_284 : decode mj_law.2.1 284 = .ok (.iload_n 3, 1) := by decide +kernel
theorem mj_dL_285 : decode mj_law.2.1 285 = .ok (.iconst 2, 1) := by decide +kernel
theorem mj_dL_286 : decode mj_law.2.1 286 = .ok (.iadd, 1) := by decide +kernel
theorem mj_dL_287 : decode mj_law.2.1 287 = .ok (.iaload, 1) := by decide +kernel
theorem mj_dL_288 : decode mj_law.2.1 288 = .ok (.invokevirtual 36, 3) := by decide +kernel
theorem mj_dL_291 : decode mj_law.2.1 291 = .ok (.pop, 1) := by decide +kernel
theorem mj_dL_292 : decode mj_law.2.1 292 = .ok (.aload_n 2, 1) := by decide +kernel
theorem mj_dL_293 : decode mj_law.2.1 293 = .ok (.aload_n 0, 1) := by decide +kernel
theorem mj_dL_294 : decode mj_law.2.1 294 = .ok (.iload_n 3, 1) := by decide +kernel
theorem mj_dL_295 : decode mj_law.2.1 295 = .ok (.iconst 1, 1) := by decide +kernel
theorem mj_dL_296 : decode mj_law.2.1 296 = .ok (.iadd, 1) := by decide +kernel
theorem mj_dL_297 : decode mj_law.2.1 297 = .ok (.iaload, 1) := by decide +kernel
theorem mj_dL_298 : decode mj_law.2.1 298 = .ok (.aload_n 0, 1) := by decide +kernel
theorem mj_dL_299 : decode mj_law.2.1 299 = .ok (.iload_n 3, 1) := by decide +kernel
theorem mj_dL_300 : decode mj_law.2.1 300 = .ok (.iconst 2, 1) := by decide +kernel
theorem mj_dL_301 : decode mj_law.2.1 301 = .ok (.iadd, 1) := by decide +kernel
theorem mj_dL_302 : decode mj_law.2.1 302 = .ok (.iaload, 1) := by decide +kernel
theorem mj_dL_303 : decode mj_law.2.1 303 = .ok (.invokevirtual 39, 3) := by decide +kernel
theorem mj_dL_306 : decode mj_law.2.1 306 = .ok (.pop, 1) := by decide +kernel
theorem mj_dL_307 : decode mj_law.2.1 307 = .ok (.goto 774, 3) := by decide +kernel
theorem mj_dL_310 : decode mj_law.2.1 310 = .ok (.aload_n 1, 1) := by decide +kernel
theorem mj_dL_311 : decode mj_law.2.1 311 = .ok (.aload_n 0, 1) := by decide +kernel
theorem mj_dL_312 : decode mj_law.2.1 312 = .ok (.iload_n 3, 1) := by decide +kernel
theorem mj_dL_313 : decode mj_law.2.1 313 = .ok (.iconst 1, 1) := by decide +kernel
theorem mj_dL_314 : decode mj_law.2.1 314 = .ok (.iadd, 1) := by decide +kernel
theorem mj_dL_315 : decode mj_law.2.1 315 = .ok (.iaload, 1) := by decide +kernel
theorem mj_dL_316 : decode mj_law.2.1 316 = .ok (.aload_n 0, 1) := by decide +kernel
theorem mj_dL_317 : decode mj_law.2.1 317 = .ok (.iload_n 3, 1) := by decide +kernel
theorem mj_dL_318 : decode mj_law.2.1 318 = .ok (.iconst 2, 1) := by decide +kernel
theorem mj_dL_319 : decode mj_law.2.1 319 = .ok (.iadd, 1) := by decide +kernel
theorem mj_dL_320 : decode mj_law.2.1 320 = .ok (.iaload, 1) := by decide +kernel
theorem mj_dL_321 : decode mj_law.2.1 321 = .ok (.invokevirtual 40, 3) := by decide +kernel
theorem mj_dL_324 : decode mj_law.2.1 324 = .ok (.pop, 1) := by decide +kernel
theorem mj_dL_325 : decode mj_law.2.1 325 = .ok (.aload_n 2, 1) := by decide +kernel
theorem mj_dL_326 : decode mj_law.2.1 326 = .ok (.aload_n 0, 1) := by decide +kernel
theorem mj_dL_327 : decode mj_law.2.1 327 = .ok (.iload_n 3, 1) := by decide +kernel
theorem mj_dL_328 : decode mj_law.2.1 328 = .ok (.iconst 1, 1) := by decide +kernel
theorem mj_dL_329 : decode mj_law.2.1 329 = .ok (.iadd, 1) := by decide +kernel
theorem mj_dL_330 : decode mj_law.2.1 330 = .ok (.iaload, 1) := by decide +kernel
theorem mj_dL_331 : decode mj_law.2.1 331 = .ok (.aload_n 0, 1) := by decide +kernel
theorem mj_dL_332 : decode mj_law.2.1 332 = .ok (.iload_n 3, 1) := by decide +kernel
theorem mj_dL_333 : decode mj_law.2.1 333 = .ok (.iconst 2, 1) := by decide +kernel
theorem mj_dL_334 : decode mj_law.2.1 334 = .ok (.iadd, 1) := by decide +kernel
theorem mj_dL_335 : decode mj_law.2.1 335 = .ok (.iaload, 1) := by decide +kernel
theorem mj_dL_336 : decode mj_law.2.1 336 = .ok (.invokevirtual 43, 3) := by decide +kernel
theorem mj_dL_339 : decode mj_law.2.1 339 = .ok (.pop, 1) := by decide +kernel
theorem mj_dL_340 : decode mj_law.2.1 340 = .ok (.goto 741, 3) := by decide +kernel
theorem mj_dL_343 : decode mj_law.2.1 343 = .ok (.aload_n 1, 1) := by decide +kernel
theorem mj_dL_344 : decode mj_law.2.1 344 = .ok (.aload_n 0, 1) := by decide +kernel
theorem mj_dL_345 : decode mj_law.2.1 345 = .ok (.iload_n 3, 1) := by decide +kernel
theorem mj_dL_346 : decode mj_law.2.1 346 = .ok (.iconst 1, 1) := by decide +kernel
theorem mj_dL_347 : decode mj_law.2.1 347 = .ok (.iadd, 1) := by decide +kernel
theorem mj_dL_348 : decode mj_law.2.1 348 = .ok (.iaload, 1) := by decide +kernel
theorem mj_dL_349 : decode mj_law.2.1 349 = .ok (.invokevirtual 44, 3) := by decide +kernel
theorem mj_dL_352 : decode mj_law.2.1 352 = .ok (.pop, 1) := by decide +kernel
theorem mj_dL_353 : decode mj_law.2.1 353 = .ok (.aload_n 2, 1) := by decide +kernel
theorem mj_dL_354 : decode mj_law.2.1 354 = .ok (.aload_n 0, 1) := by decide +kernel
theorem mj_dL_355 : decode mj_law.2.1 355 = .ok (.iload_n 3, 1) := by decide +kernel
theorem mj_dL_356 : decode mj_law.2.1 356 = .ok (.iconst 1, 1) := by decide +kernel
theorem mj_dL_357 : decode mj_law.2.1 357 = .ok (.iadd, 1) := by decide +kernel
theorem mj_dL_358 : decode mj_law.2.1 358 = .ok (.iaload, 1) := by decide +kernel
theorem mj_dL_359 : decode mj_law.2.1 359 = .ok (.invokevirtual 47, 3) := by decide +kernel
theorem mj_dL_362 : decode mj_law.2.1 362 = .ok (.pop, 1) := by decide +kernel
theorem mj_dL_363 : decode mj_law.2.1 363 = .ok (.goto 718, 3) := by decide +kernel
theorem mj_dL_366 : decode mj_law.2.1 366 = .ok (.aload_n 1, 1) := by decide +kernel
theorem mj_dL_367 : decode mj_law.2.1 367 = .ok (.aload_n 0, 1) := by decide +kernel
theorem mj_dL_368 : decode mj_law.2.1 368 = .ok (.iload_n 3, 1) := by decide +kernel
theorem mj_dL_369 : decode mj_law.2.1 369 = .ok (.iconst 1, 1) := by decide +kernel
theorem mj_dL_370 : decode mj_law.2.1 370 = .ok (.iadd, 1) := by decide +kernel
theorem mj_dL_371 : decode mj_law.2.1 371 = .ok (.iaload, 1) := by decide +kernel
theorem mj_dL_372 : decode mj_law.2.1 372 = .ok (.aload_n 0, 1) := by decide +kernel
theorem mj_dL_373 : decode mj_law.2.1 373 = .ok (.iload_n 3, 1) := by decide +kernel
theorem mj_dL_374 : decode mj_law.2.1 374 = .ok (.iconst 2, 1) := by decide +kernel
theorem mj_dL_375 : decode mj_law.2.1 375 = .ok (.iadd, 1) := by decide +kernel
theorem mj_dL_376 : decode mj_law.2.1 376 = .ok (.iaload, 1) := by decide +kernel
theorem mj_dL_377 : decode mj_law.2.1 377 = .ok (.invokevirtual 48, 3) := by decide +kernel
theorem mj_dL_380 : decode mj_law.2.1 380 = .ok (.pop, 1) := by decide +kernel
theorem mj_dL_381 : decode mj_law.2.1 381 = .ok (.aload_n 2, 1) := by decide +kernel
theorem mj_dL_382 : decode mj_law.2.1 382 = .ok (.aload_n 0, 1) := by decide +kernel
theorem mj_dL_383 : decode mj_law.2.1 383 = .ok (.iload_n 3, 1) := by decide +kernel
theorem mj_dL_384 : decode mj_law.2.1 384 = .ok (.iconst 1, 1) := by decide +kernel
theorem mj_dL_385 : decode mj_law.2.1 385 = .ok (.iadd, 1) := by decide +kernel
theorem mj_dL_386 : decode mj_law.2.1 386 = .ok (.iaload, 1) := by decide +kernel
theorem mj_dL_387 : decode mj_law.2.1 387 = .ok (.aload_n 0, 1) := by decide +kernel
theorem mj_dL_388 : decode mj_law.2.1 388 = .ok (.iload_n 3, 1) := by decide +kernel
theorem mj_dL_389 : decode mj_law.2.1 389 = .ok (.iconst 2, 1) := by decide +kernel
