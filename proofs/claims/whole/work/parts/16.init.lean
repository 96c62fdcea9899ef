theorem dL_law_0 : decode cL_law 0 = .ok (.new 7, 3) := by decide +kernel
theorem dL_law_3 : decode cL_law 3 = .ok (.dup, 1) := by decide +kernel
theorem dL_law_4 : decode cL_law 4 = .ok (.invokespecial 9, 3) := by decide +kernel
theorem dL_law_7 : decode cL_law 7 = .ok (.astore_n 1, 1) := by decide +kernel
theorem dL_law_8 : decode cL_law 8 = .ok (.new 10, 3) := by decide +kernel
theorem dL_law_11 : decode cL_law 11 = .ok (.dup, 1) := by decide +kernel
theorem dL_law_12 : decode cL_law 12 = .ok (.invokespecial 12, 3) := by decide +kernel
theorem dL_law_15 : decode cL_law 15 = .ok (.astore_n 2, 1) := by decide +kernel
theorem dL_law_16 : decode cL_law 16 = .ok (.iconst 0, 1) := by decide +kernel
theorem dL_law_17 : decode cL_law 17 = .ok (.istore_n 3, 1) := by decide +kernel
theorem dL_law_18 : decode cL_law 18 = .ok (.iload_n 3, 1) := by decide +kernel
theorem dL_law_19 : decode cL_law 19 = .ok (.aload_n 0, 1) := by decide +kernel
theorem dL_law_20 : decode cL_law 20 = .ok (.arraylength, 1) := by decide +kernel
theorem dL_law_21 : decode cL_law 21 = .ok (.bipush 6, 2) := by decide +kernel
theorem dL_law_23 : decode cL_law 23 = .ok (.isub, 1) := by decide +kernel
theorem dL_law_24 : decode cL_law 24 = .ok (.if_icmp .gt 1196, 3) := by decide +kernel
theorem dL_law_27 : decode cL_law 27 = .ok (.aload_n 0, 1) := by decide +kernel
theorem dL_law_28 : decode cL_law 28 = .ok (.iload_n 3, 1) := by decide +kernel
theorem dL_law_29 : decode cL_law 29 = .ok (.iaload, 1) := by decide +kernel
theorem dL_law_30 : decode cL_law 30 = .ok (.bipush 31, 2) := by decide +kernel
theorem dL_law_32 : decode cL_law 32 = .ok (.iand, 1) := by decide +kernel
theorem dL_law_33 : decode cL_law 33 = .ok (.tableswitch 1181 0 31 #[143, 186, 245, 268, 301, 364, 387, 410, 443, 466, 499, 532, 565, 608, 651, 674, 707, 740, 753, 796, 839, 872, 915, 948, 1017, 1050, 1063, 1086, 1109, 1122, 1135, 1158], 143) := by decide +kernel
theorem dL_law_176 : decode cL_law 176 = .ok (.aload_n 1, 1) := by decide +kernel
theorem dL_law_177 : decode cL_law 177 = .ok (.aload_n 0, 1) := by decide +kernel
theorem dL_law_178 : decode cL_law 178 = .ok (.iload_n 3, 1) := by decide +kernel
theorem dL_law_179 : decode cL_law 179 = .ok (.iconst 1, 1) := by decide +kernel
theorem dL_law_180 : decode cL_law 180 = .ok (.iadd, 1) := by decide +kernel
theorem dL_law_181 : decode cL_law 181 = .ok (.iaload, 1) := by decide +kernel
theorem dL_law_182 : decode cL_law 182 = .ok (.aload_n 0, 1) := by decide +kernel
theorem dL_law_183 : decode cL_law 183 = .ok (.iload_n 3, 1) := by decide +kernel
theorem dL_law_184 : decode cL_law 184 = .ok (.iconst 2, 1) := by decide +kernel
theorem dL_law_185 : decode cL_law 185 = .ok (.iadd, 1) := by decide +kernel
theorem dL_law_186 : decode cL_law 186 = .ok (.iaload, 1) := by decide +kernel
theorem dL_law_187 : decode cL_law 187 = .ok (.aload_n 0, 1) := by decide +kernel
theorem dL_law_188 : decode cL_law 188 = .ok (.iload_n 3, 1) := by decide +kernel
theorem dL_law_189 : decode cL_law 189 = .ok (.iconst 3, 1) := by decide +kernel
theorem dL_law_190 : decode cL_law 190 = .ok (.iadd, 1) := by decide +kernel
theorem dL_law_191 : decode cL_law 191 = .ok (.iaload, 1) := by decide +kernel
theorem dL_law_192 : decode cL_law 192 = .ok (.invokevirtual 13, 3) := by decide +kernel
theorem dL_law_195 : decode cL_law 195 = .ok (.aload_n 2, 1) := by decide +kernel
theorem dL_law_196 : decode cL_law 196 = .ok (.aload_n 0, 1) := by decide +kernel
theorem dL_law_197 : decode cL_law 197 = .ok (.iload_n 3, 1) := by decide +kernel
theorem dL_law_198 : decode cL_law 198 = .ok (.iconst 1, 1) := by decide +kernel
theorem dL_law_199 : decode cL_law 199 = .ok (.iadd, 1) := by decide +kernel
theorem dL_law_200 : decode cL_law 200 = .ok (.iaload, 1) := by decide +kernel
theorem dL_law_201 : decode cL_law 201 = .ok (.aload_n 0, 1) := by decide +kernel
theorem dL_law_202 : decode cL_law 202 = .ok (.iload_n 3, 1) := by decide +kernel
theorem dL_law_203 : decode cL_law 203 = .ok (.iconst 2, 1) := by decide +kernel
theorem dL_law_204 : decode cL_law 204 = .ok (.iadd, 1) := by decide +kernel
theorem dL_law_205 : decode cL_law 205 = .ok (.iaload, 1) := by decide +kernel
theorem dL_law_206 : decode cL_law 206 = .ok (.aload_n 0, 1) := by decide +kernel
theorem dL_law_207 : decode cL_law 207 = .ok (.iload_n 3, 1) := by decide +kernel
theorem dL_law_208 : decode cL_law 208 = .ok (.iconst 3, 1) := by decide +kernel
theorem dL_law_209 : decode cL_law 209 = .ok (.iadd, 1) := by decide +kernel
theorem dL_law_210 : decode cL_law 210 = .ok (.iaload, 1) := by decide +kernel
theorem dL_law_211 : decode cL_law 211 = .ok (.invokevirtual 17, 3) := by decide +kernel
theorem dL_law_214 : decode cL_law 214 = .ok (.if_icmp .eq 1000, 3) := by decide +kernel
theorem dL_law_217 : decode cL_law 217 = .ok (.iconst 0, 1) := by decide +kernel
theorem dL_law_218 : decode cL_law 218 = .ok (.ireturn, 1) := by decide +kernel
theorem dL_law_219 : decode cL_law 219 = .ok (.aload_n 1, 1) := by decide +kernel
theorem dL_law_220 : decode cL_law 220 = .ok (.aload_n 0, 1) := by decide +kernel
theorem dL_law_221 : decode cL_law 221 = .ok (.iload_n 3, 1) := by decide +kernel
theorem dL_law_222 : decode cL_law 222 = .ok (.iconst 1, 1) := by decide +kernel
theorem dL_law_223 : decode cL_law 223 = .ok (.iadd, 1) := by decide +kernel
theorem dL_law_224 : decode cL_law 224 = .ok (.iaload, 1) := by decide +kernel
theorem dL_law_225 : decode cL_law 225 = .ok (.aload_n 0, 1) := by decide +kernel
theorem dL_law_226 : decode cL_law 226 = .ok (.iload_n 3, 1) := by decide +kernel
theorem dL_law_227 : decode cL_law 227 = .ok (.iconst 2, 1) := by decide +kernel
theorem dL_law_228 : decode cL_law 228 = .ok (.iadd, 1) := by decide +kernel
theorem dL_law_229 : decode cL_law 229 = .ok (.iaload, 1) := by decide +kernel
theorem dL_law_230 : decode cL_law 230 = .ok (.aload_n 0, 1) := by decide +kernel
theorem dL_law_231 : decode cL_law 231 = .ok (.iload_n 3, 1) := by decide +kernel
theorem dL_law_232 : decode cL_law 232 = .ok (.iconst 3, 1) := by decide +kernel
theorem dL_law_233 : decode cL_law 233 = .ok (.iadd, 1) := by decide +kernel
theorem dL_law_234 : decode cL_law 234 = .ok (.iaload, 1) := by decide +kernel
theorem dL_law_235 : decode cL_law 235 = .ok (.ifCond .eq 7, 3) := by decide +kernel
theorem dL_law_238 : decode cL_law 238 = .ok (.iconst 1, 1) := by decide +kernel
theorem dL_law_239 : decode cL_law 239 = .ok (.goto 4, 3) := by decide +kernel
theorem dL_law_242 : decode cL_law 242 = .ok (.iconst 0, 1) := by decide +kernel
theorem dL_law_243 : decode cL_law 243 = .ok (.invokevirtual 18, 3) := by decide +kernel
theorem dL_law_246 : decode cL_law 246 = .ok (.aload_n 2, 1) := by decide +kernel
theorem dL_law_247 : decode cL_law 247 = .ok (.aload_n 0, 1) := by decide +kernel
theorem dL_law_248 : decode cL_law 248 = .ok (.iload_n 3, 1) := by decide +kernel
theorem dL_law_249 : decode cL_law 249 = .ok (.iconst 1, 1) := by decide +kernel
theorem dL_law_250 : decode cL_law 250 = .ok (.iadd, 1) := by decide +kernel
theorem dL_law_251 : decode cL_law 251 = .ok (.iaload, 1) := by decide +kernel
theorem dL_law_252 : decode cL_law 252 = .ok (.aload_n 0, 1) := by decide +kernel
theorem dL_law_253 : decode cL_law 253 = .ok (.iload_n 3, 1) := by decide +kernel
theorem dL_law_254 : decode cL_law 254 = .ok (.iconst 2, 1) := by decide +kernel
theorem dL_law_255 : decode cL_law 255 = .ok (.iadd, 1) := by decide +kernel
theorem dL_law_256 : decode cL_law 256 = .ok (.iaload, 1) := by decide +kernel
theorem dL_law_257 : decode cL_law 257 = .ok (.aload_n 0, 1) := by decide +kernel
theorem dL_law_258 : decode cL_law 258 = .ok (.iload_n 3, 1) := by decide +kernel
theorem dL_law_259 : decode cL_law 259 = .ok (.iconst 3, 1) := by decide +kernel
theorem dL_law_260 : decode cL_law 260 = .ok (.iadd, 1) := by decide +kernel
theorem dL_law_261 : decode cL_law 261 = .ok (.iaload, 1) := by decide +kernel
theorem dL_law_262 : decode cL_law 262 = .ok (.ifCond .eq 7, 3) := by decide +kernel
theorem dL_law_265 : decode cL_law 265 = .ok (.iconst 1, 1) := by decide +kernel
theorem dL_law_266 : decode cL_law 266 = .ok (.goto 4, 3) := by decide +kernel
theorem dL_law_269 : decode cL_law 269 = .ok (.iconst 0, 1) := by decide +kernel
theorem dL_law_270 : decode cL_law 270 = .ok (.invokevirtual 22, 3) := by decide +kernel
theorem dL_law_273 : decode cL_law 273 = .ok (.if_icmp .eq 941, 3) := by decide +kernel
theorem dL_law_276 : decode cL_law 276 = .ok (.iconst 0, 1) := by decide +kernel
theorem dL_law_277 : decode cL_law 277 = .ok (.ireturn, 1) := by decide +kernel
theorem dL_law_278 : decode cL_law 278 = .ok (.aload_n 1, 1) := by decide +kernel
theorem dL_law_279 : decode cL_law 279 = .ok (.aload_n 0, 1) := by decide +kernel
theorem dL_law_280 : decode cL_law 280 = .ok (.iload_n 3, 1) := by decide +kernel
theorem dL_law_281 : decode cL_law 281 = .ok (.iconst 1, 1) := by decide +kernel
theorem dL_law_282 : decode cL_law 282 = .ok (.iadd, 1) := by decide +kernel
theorem dL_law_283 : decode cL_law 283 = .ok (.iaload, 1) := by decide +kernel
theorem dL_law_284 : decode cL_law 284 = .ok (.invokevirtual 23, 3) := by decide +kernel
theorem dL_law_287 : decode cL_law 287 = .ok (.aload_n 2, 1) := by decide +kernel
theorem dL_law_288 : decode cL_law 288 = .ok (.aload_n 0, 1) := by decide +kernel
theorem dL_law_289 : decode cL_law 289 = .ok (.iload_n 3, 1) := by decide +kernel
theorem dL_law_290 : decode cL_law 290 = .ok (.iconst 1, 1) := by decide +kernel
theorem dL_law_291 : decode cL_law 291 = .ok (.iadd, 1) := by decide +kernel
theorem dL_law_292 : decode cL_law 292 = .ok (.iaload, 1) := by decide +kernel
theorem dL_law_293 : decode cL_law 293 = .ok (.invokevirtual 27, 3) := by decide +kernel
theorem dL_law_296 : decode cL_law 296 = .ok (.if_icmp .eq 918, 3) := by decide +kernel
theorem dL_law_299 : decode cL_law 299 = .ok (.iconst 0, 1) := by decide +kernel
theorem dL_law_300 : decode cL_law 300 = .ok (.ireturn, 1) := by decide +kernel
theorem dL_law_301 : decode cL_law 301 = .ok (.aload_n 1, 1) := by decide +kernel
theorem dL_law_302 : decode cL_law 302 = .ok (.aload_n 0, 1) := by decide +kernel
theorem dL_law_303 : decode cL_law 303 = .ok (.iload_n 3, 1) := by decide +kernel
theorem dL_law_304 : decode cL_law 304 = .ok (.iconst 1, 1) := by decide +kernel
theorem dL_law_305 : decode cL_law 305 = .ok (.iadd, 1) := by decide +kernel
theorem dL_law_306 : decode cL_law 306 = .ok (.iaload, 1) := by decide +kernel
theorem dL_law_307 : decode cL_law 307 = .ok (.aload_n 0, 1) := by decide +kernel
theorem dL_law_308 : decode cL_law 308 = .ok (.iload_n 3, 1) := by decide +kernel
theorem dL_law_309 : decode cL_law 309 = .ok (.iconst 2, 1) := by decide +kernel
theorem dL_law_310 : decode cL_law 310 = .ok (.iadd, 1) := by decide +kernel
theorem dL_law_311 : decode cL_law 311 = .ok (.iaload, 1) := by decide +kernel
theorem dL_law_312 : decode cL_law 312 = .ok (.invokevirtual 28, 3) := by decide +kernel
theorem dL_law_315 : decode cL_law 315 = .ok (.aload_n 2, 1) := by decide +kernel
theorem dL_law_316 : decode cL_law 316 = .ok (.aload_n 0, 1) := by decide +kernel
theorem dL_law_317 : decode cL_law 317 = .ok (.iload_n 3, 1) := by decide +kernel
theorem dL_law_318 : decode cL_law 318 = .ok (.iconst 1, 1) := by decide +kernel
theorem dL_law_319 : decode cL_law 319 = .ok (.iadd, 1) := by decide +kernel
theorem dL_law_320 : decode cL_law 320 = .ok (.iaload, 1) := by decide +kernel
theorem dL_law_321 : decode cL_law 321 = .ok (.aload_n 0, 1) := by decide +kernel
theorem dL_law_322 : decode cL_law 322 = .ok (.iload_n 3, 1) := by decide +kernel
theorem dL_law_323 : decode cL_law 323 = .ok (.iconst 2, 1) := by decide +kernel
theorem dL_law_324 : decode cL_law 324 = .ok (.iadd, 1) := by decide +kernel
theorem dL_law_325 : decode cL_law 325 = .ok (.iaload, 1) := by decide +kernel
theorem dL_law_326 : decode cL_law 326 = .ok (.invokevirtual 32, 3) := by decide +kernel
theorem dL_law_329 : decode cL_law 329 = .ok (.if_icmp .eq 885, 3) := by decide +kernel
theorem dL_law_332 : decode cL_law 332 = .ok (.iconst 0, 1) := by decide +kernel
theorem dL_law_333 : decode cL_law 333 = .ok (.ireturn, 1) := by decide +kernel
theorem dL_law_334 : decode cL_law 334 = .ok (.aload_n 1, 1) := by decide +kernel
theorem dL_law_335 : decode cL_law 335 = .ok (.aload_n 0, 1) := by decide +kernel
theorem dL_law_336 : decode cL_law 336 = .ok (.iload_n 3, 1) := by decide +kernel
theorem dL_law_337 : decode cL_law 337 = .ok (.iconst 1, 1) := by decide +kernel
theorem dL_law_338 : decode cL_law 338 = .ok (.iadd, 1) := by decide +kernel
theorem dL_law_339 : decode cL_law 339 = .ok (.iaload, 1) := by decide +kernel
theorem dL_law_340 : decode cL_law 340 = .ok (.aload_n 0, 1) := by decide +kernel
theorem dL_law_341 : decode cL_law 341 = .ok (.iload_n 3, 1) := by decide +kernel
theorem dL_law_342 : decode cL_law 342 = .ok (.iconst 2, 1) := by decide +kernel
theorem dL_law_343 : decode cL_law 343 = .ok (.iadd, 1) := by decide +kernel
theorem dL_law_344 : decode cL_law 344 = .ok (.iaload, 1) := by decide +kernel
theorem dL_law_345 : decode cL_law 345 = .ok (.aload_n 0, 1) := by decide +kernel
theorem dL_law_346 : decode cL_law 346 = .ok (.iload_n 3, 1) := by decide +kernel
theorem dL_law_347 : decode cL_law 347 = .ok (.iconst 3, 1) := by decide +kernel
theorem dL_law_348 : decode cL_law 348 = .ok (.iadd, 1) := by decide +kernel
theorem dL_law_349 : decode cL_law 349 = .ok (.iaload, 1) := by decide +kernel
theorem dL_law_350 : decode cL_law 350 = .ok (.aload_n 0, 1) := by decide +kernel
theorem dL_law_351 : decode cL_law 351 = .ok (.iload_n 3, 1) := by decide +kernel
theorem dL_law_352 : decode cL_law 352 = .ok (.iconst 4, 1) := by decide +kernel
theorem dL_law_353 : decode cL_law 353 = .ok (.iadd, 1) := by decide +kernel
theorem dL_law_354 : decode cL_law 354 = .ok (.iaload, 1) := by decide +kernel
theorem dL_law_355 : decode cL_law 355 = .ok (.aload_n 0, 1) := by decide +kernel
theorem dL_law_356 : decode cL_law 356 = .ok (.iload_n 3, 1) := by decide +kernel
theorem dL_law_357 : decode cL_law 357 = .ok (.iconst 5, 1) := by decide +kernel
theorem dL_law_358 : decode cL_law 358 = .ok (.iadd, 1) := by decide +kernel
theorem dL_law_359 : decode cL_law 359 = .ok (.iaload, 1) := by decide +kernel
theorem dL_law_360 : decode cL_law 360 = .ok (.invokevirtual 33, 3) := by decide +kernel
theorem dL_law_363 : decode cL_law 363 = .ok (.aload_n 2, 1) := by decide +kernel
theorem dL_law_364 : decode cL_law 364 = .ok (.aload_n 0, 1) := by decide +kernel
theorem dL_law_365 : decode cL_law 365 = .ok (.iload_n 3, 1) := by decide +kernel
theorem dL_law_366 : decode cL_law 366 = .ok (.iconst 1, 1) := by decide +kernel
theorem dL_law_367 : decode cL_law 367 = .ok (.iadd, 1) := by decide +kernel
theorem dL_law_368 : decode cL_law 368 = .ok (.iaload, 1) := by decide +kernel
theorem dL_law_369 : decode cL_law 369 = .ok (.aload_n 0, 1) := by decide +kernel
theorem dL_law_370 : decode cL_law 370 = .ok (.iload_n 3, 1) := by decide +kernel
theorem dL_law_371 : decode cL_law 371 = .ok (.iconst 2, 1) := by decide +kernel
theorem dL_law_372 : decode cL_law 372 = .ok (.iadd, 1) := by decide +kernel
theorem dL_law_373 : decode cL_law 373 = .ok (.iaload, 1) := by decide +kernel
theorem dL_law_374 : decode cL_law 374 = .ok (.aload_n 0, 1) := by decide +kernel
theorem dL_law_375 : decode cL_law 375 = .ok (.iload_n 3, 1) := by decide +kernel
theorem dL_law_376 : decode cL_law 376 = .ok (.iconst 3, 1) := by decide +kernel
theorem dL_law_377 : decode cL_law 377 = .ok (.iadd, 1) := by decide +kernel
theorem dL_law_378 : decode cL_law 378 = .ok (.iaload, 1) := by decide +kernel
theorem dL_law_379 : decode cL_law 379 = .ok (.aload_n 0, 1) := by decide +kernel
theorem dL_law_380 : decode cL_law 380 = .ok (.iload_n 3, 1) := by decide +kernel
theorem dL_law_381 : decode cL_law 381 = .ok (.iconst 4, 1) := by decide +kernel
theorem dL_law_382 : decode cL_law 382 = .ok (.iadd, 1) := by decide +kernel
theorem dL_law_383 : decode cL_law 383 = .ok (.iaload, 1) := by decide +kernel
theorem dL_law_384 : decode cL_law 384 = .ok (.aload_n 0, 1) := by decide +kernel
theorem dL_law_385 : decode cL_law 385 = .ok (.iload_n 3, 1) := by decide +kernel
theorem dL_law_386 : decode cL_law 386 = .ok (.iconst 5, 1) := by decide +kernel
theorem dL_law_387 : decode cL_law 387 = .ok (.iadd, 1) := by decide +kernel
theorem dL_law_388 : decode cL_law 388 = .ok (.iaload, 1) := by decide +kernel
theorem dL_law_389 : decode cL_law 389 = .ok (.invokevirtual 37, 3) := by decide +kernel
theorem dL_law_392 : decode cL_law 392 = .ok (.if_icmp .eq 822, 3) := by decide +kernel
theorem dL_law_395 : decode cL_law 395 = .ok (.iconst 0, 1) := by decide +kernel
theorem dL_law_396 : decode cL_law 396 = .ok (.ireturn, 1) := by decide +kernel
theorem dL_law_397 : decode cL_law 397 = .ok (.aload_n 1, 1) := by decide +kernel
theorem dL_law_398 : decode cL_law 398 = .ok (.aload_n 0, 1) := by decide +kernel
theorem dL_law_399 : decode cL_law 399 = .ok (.iload_n 3, 1) := by decide +kernel
theorem dL_law_400 : decode cL_law 400 = .ok (.iconst 1, 1) := by decide +kernel
theorem dL_law_401 : decode cL_law 401 = .ok (.iadd, 1) := by decide +kernel
theorem dL_law_402 : decode cL_law 402 = .ok (.iaload, 1) := by decide +kernel
theorem dL_law_403 : decode cL_law 403 = .ok (.invokevirtual 38, 3) := by decide +kernel
theorem dL_law_406 : decode cL_law 406 = .ok (.aload_n 2, 1) := by decide +kernel
theorem dL_law_407 : decode cL_law 407 = .ok (.aload_n 0, 1) := by decide +kernel
theorem dL_law_408 : decode cL_law 408 = .ok (.iload_n 3, 1) := by decide +kernel
theorem dL_law_409 : decode cL_law 409 = .ok (.iconst 1, 1) := by decide +kernel
theorem dL_law_410 : decode cL_law 410 = .ok (.iadd, 1) := by decide +kernel
theorem dL_law_411 : decode cL_law 411 = .ok (.iaload, 1) := by decide +kernel
theorem dL_law_412 : decode cL_law 412 = .ok (.invokevirtual 42, 3) := by decide +kernel
theorem dL_law_415 : decode cL_law 415 = .ok (.if_icmp .eq 799, 3) := by decide +kernel
theorem dL_law_418 : decode cL_law 418 = .ok (.iconst 0, 1) := by decide +kernel
theorem dL_law_419 : decode cL_law 419 = .ok (.ireturn, 1) := by decide +kernel
theorem dL_law_420 : decode cL_law 420 = .ok (.aload_n 1, 1) := by decide +kernel
theorem dL_law_421 : decode cL_law 421 = .ok (.aload_n 0, 1) := by decide +kernel
theorem dL_law_422 : decode cL_law 422 = .ok (.iload_n 3, 1) := by decide +kernel
theorem dL_law_423 : decode cL_law 423 = .ok (.iconst 1, 1) := by decide +kernel
theorem dL_law_424 : decode cL_law 424 = .ok (.iadd, 1) := by decide +kernel
theorem dL_law_425 : decode cL_law 425 = .ok (.iaload, 1) := by decide +kernel
theorem dL_law_426 : decode cL_law 426 = .ok (.invokevirtual 43, 3) := by decide +kernel
theorem dL_law_429 : decode cL_law 429 = .ok (.aload_n 2, 1) := by decide +kernel
theorem dL_law_430 : decode cL_law 430 = .ok (.aload_n 0, 1) := by decide +kernel
theorem dL_law_431 : decode cL_law 431 = .ok (.iload_n 3, 1) := by decide +kernel
theorem dL_law_432 : decode cL_law 432 = .ok (.iconst 1, 1) := by decide +kernel
theorem dL_law_433 : decode cL_law 433 = .ok (.iadd, 1) := by decide +kernel
theorem dL_law_434 : decode cL_law 434 = .ok (.iaload, 1) := by decide +kernel
theorem dL_law_435 : decode cL_law 435 = .ok (.invokevirtual 46, 3) := by decide +kernel
theorem dL_law_438 : decode cL_law 438 = .ok (.if_icmp .eq 776, 3) := by decide +kernel
theorem dL_law_441 : decode cL_law 441 = .ok (.iconst 0, 1) := by decide +kernel
theorem dL_law_442 : decode cL_law 442 = .ok (.ireturn, 1) := by decide +kernel
theorem dL_law_443 : decode cL_law 443 = .ok (.aload_n 1, 1) := by decide +kernel
theorem dL_law_444 : decode cL_law 444 = .ok (.aload_n 0, 1) := by decide +kernel
theorem dL_law_445 : decode cL_law 445 = .ok (.iload_n 3, 1) := by decide +kernel
theorem dL_law_446 : decode cL_law 446 = .ok (.iconst 1, 1) := by decide +kernel
theorem dL_law_447 : decode cL_law 447 = .ok (.iadd, 1) := by decide +kernel
theorem dL_law_448 : decode cL_law 448 = .ok (.iaload, 1) := by decide +kernel
theorem dL_law_449 : decode cL_law 449 = .ok (.aload_n 0, 1) := by decide +kernel
theorem dL_law_450 : decode cL_law 450 = .ok (.iload_n 3, 1) := by decide +kernel
theorem dL_law_451 : decode cL_law 451 = .ok (.iconst 2, 1) := by decide +kernel
theorem dL_law_452 : decode cL_law 452 = .ok (.iadd, 1) := by decide +kernel
theorem dL_law_453 : decode cL_law 453 = .ok (.iaload, 1) := by decide +kernel
theorem dL_law_454 : decode cL_law 454 = .ok (.invokevirtual 47, 3) := by decide +kernel
theorem dL_law_457 : decode cL_law 457 = .ok (.aload_n 2, 1) := by decide +kernel
theorem dL_law_458 : decode cL_law 458 = .ok (.aload_n 0, 1) := by decide +kernel
theorem dL_law_459 : decode cL_law 459 = .ok (.iload_n 3, 1) := by decide +kernel
theorem dL_law_460 : decode cL_law 460 = .ok (.iconst 1, 1) := by decide +kernel
theorem dL_law_461 : decode cL_law 461 = .ok (.iadd, 1) := by decide +kernel
theorem dL_law_462 : decode cL_law 462 = .ok (.iaload, 1) := by decide +kernel
theorem dL_law_463 : decode cL_law 463 = .ok (.aload_n 0, 1) := by decide +kernel
theorem dL_law_464 : decode cL_law 464 = .ok (.iload_n 3, 1) := by decide +kernel
theorem dL_law_465 : decode cL_law 465 = .ok (.iconst 2, 1) := by decide +kernel
theorem dL_law_466 : decode cL_law 466 = .ok (.iadd, 1) := by decide +kernel
theorem dL_law_467 : decode cL_law 467 = .ok (.iaload, 1) := by decide +kernel
theorem dL_law_468 : decode cL_law 468 = .ok (.invokevirtual 51, 3) := by decide +kernel
theorem dL_law_471 : decode cL_law 471 = .ok (.if_icmp .eq 743, 3) := by decide +kernel
theorem dL_law_474 : decode cL_law 474 = .ok (.iconst 0, 1) := by decide +kernel
theorem dL_law_475 : decode cL_law 475 = .ok (.ireturn, 1) := by decide +kernel
theorem dL_law_476 : decode cL_law 476 = .ok (.aload_n 1, 1) := by decide +kernel
theorem dL_law_477 : decode cL_law 477 = .ok (.aload_n 0, 1) := by decide +kernel
theorem dL_law_478 : decode cL_law 478 = .ok (.iload_n 3, 1) := by decide +kernel
theorem dL_law_479 : decode cL_law 479 = .ok (.iconst 1, 1) := by decide +kernel
theorem dL_law_480 : decode cL_law 480 = .ok (.iadd, 1) := by decide +kernel
theorem dL_law_481 : decode cL_law 481 = .ok (.iaload, 1) := by decide +kernel
theorem dL_law_482 : decode cL_law 482 = .ok (.invokevirtual 52, 3) := by decide +kernel
theorem dL_law_485 : decode cL_law 485 = .ok (.aload_n 2, 1) := by decide +kernel
theorem dL_law_486 : decode cL_law 486 = .ok (.aload_n 0, 1) := by decide +kernel
theorem dL_law_487 : decode cL_law 487 = .ok (.iload_n 3, 1) := by decide +kernel
theorem dL_law_488 : decode cL_law 488 = .ok (.iconst 1, 1) := by decide +kernel
theorem dL_law_489 : decode cL_law 489 = .ok (.iadd, 1) := by decide +kernel
theorem dL_law_490 : decode cL_law 490 = .ok (.iaload, 1) := by decide +kernel
theorem dL_law_491 : decode cL_law 491 = .ok (.invokevirtual 55, 3) := by decide +kernel
theorem dL_law_494 : decode cL_law 494 = .ok (.if_icmp .eq 720, 3) := by decide +kernel
theorem dL_law_497 : decode cL_law 497 = .ok (.iconst 0, 1) := by decide +kernel
theorem dL_law_498 : decode cL_law 498 = .ok (.ireturn, 1) := by decide +kernel
theorem dL_law_499 : decode cL_law 499 = .ok (.aload_n 1, 1) := by decide +kernel
theorem dL_law_500 : decode cL_law 500 = .ok (.aload_n 0, 1) := by decide +kernel
theorem dL_law_501 : decode cL_law 501 = .ok (.iload_n 3, 1) := by decide +kernel
theorem dL_law_502 : decode cL_law 502 = .ok (.iconst 1, 1) := by decide +kernel
theorem dL_law_503 : decode cL_law 503 = .ok (.iadd, 1) := by decide +kernel
theorem dL_law_504 : decode cL_law 504 = .ok (.iaload, 1) := by decide +kernel
theorem dL_law_505 : decode cL_law 505 = .ok (.aload_n 0, 1) := by decide +kernel
theorem dL_law_506 : decode cL_law 506 = .ok (.iload_n 3, 1) := by decide +kernel
theorem dL_law_507 : decode cL_law 507 = .ok (.iconst 2, 1) := by decide +kernel
theorem dL_law_508 : decode cL_law 508 = .ok (.iadd, 1) := by decide +kernel
theorem dL_law_509 : decode cL_law 509 = .ok (.iaload, 1) := by decide +kernel
theorem dL_law_510 : decode cL_law 510 = .ok (.invokevirtual 56, 3) := by decide +kernel
theorem dL_law_513 : decode cL_law 513 = .ok (.aload_n 2, 1) := by decide +kernel
theorem dL_law_514 : decode cL_law 514 = .ok (.aload_n 0, 1) := by decide +kernel
theorem dL_law_515 : decode cL_law 515 = .ok (.iload_n 3, 1) := by decide +kernel
theorem dL_law_516 : decode cL_law 516 = .ok (.iconst 1, 1) := by decide +kernel
theorem dL_law_517 : decode cL_law 517 = .ok (.iadd, 1) := by decide +kernel
theorem dL_law_518 : decode cL_law 518 = .ok (.iaload, 1) := by decide +kernel
theorem dL_law_519 : decode cL_law 519 = .ok (.aload_n 0, 1) := by decide +kernel
theorem dL_law_520 : decode cL_law 520 = .ok (.iload_n 3, 1) := by decide +kernel
theorem dL_law_521 : decode cL_law 521 = .ok (.iconst 2, 1) := by decide +kernel
theorem dL_law_522 : decode cL_law 522 = .ok (.iadd, 1) := by decide +kernel
theorem dL_law_523 : decode cL_law 523 = .ok (.iaload, 1) := by decide +kernel
theorem dL_law_524 : decode cL_law 524 = .ok (.invokevirtual 59, 3) := by decide +kernel
theorem dL_law_527 : decode cL_law 527 = .ok (.if_icmp .eq 687, 3) := by decide +kernel
theorem dL_law_530 : decode cL_law 530 = .ok (.iconst 0, 1) := by decide +kernel
theorem dL_law_531 : decode cL_law 531 = .ok (.ireturn, 1) := by decide +kernel
theorem dL_law_532 : decode cL_law 532 = .ok (.aload_n 1, 1) := by decide +kernel
theorem dL_law_533 : decode cL_law 533 = .ok (.aload_n 0, 1) := by decide +kernel
theorem dL_law_534 : decode cL_law 534 = .ok (.iload_n 3, 1) := by decide +kernel
theorem dL_law_535 : decode cL_law 535 = .ok (.iconst 1, 1) := by decide +kernel
theorem dL_law_536 : decode cL_law 536 = .ok (.iadd, 1) := by decide +kernel
theorem dL_law_537 : decode cL_law 537 = .ok (.iaload, 1) := by decide +kernel
theorem dL_law_538 : decode cL_law 538 = .ok (.aload_n 0, 1) := by decide +kernel
theorem dL_law_539 : decode cL_law 539 = .ok (.iload_n 3, 1) := by decide +kernel
theorem dL_law_540 : decode cL_law 540 = .ok (.iconst 2, 1) := by decide +kernel
theorem dL_law_541 : decode cL_law 541 = .ok (.iadd, 1) := by decide +kernel
theorem dL_law_542 : decode cL_law 542 = .ok (.iaload, 1) := by decide +kernel
theorem dL_law_543 : decode cL_law 543 = .ok (.invokevirtual 60, 3) := by decide +kernel
theorem dL_law_546 : decode cL_law 546 = .ok (.aload_n 2, 1) := by decide +kernel
theorem dL_law_547 : decode cL_law 547 = .ok (.aload_n 0, 1) := by decide +kernel
theorem dL_law_548 : decode cL_law 548 = .ok (.iload_n 3, 1) := by decide +kernel
theorem dL_law_549 : decode cL_law 549 = .ok (.iconst 1, 1) := by decide +kernel
theorem dL_law_550 : decode cL_law 550 = .ok (.iadd, 1) := by decide +kernel
theorem dL_law_551 : decode cL_law 551 = .ok (.iaload, 1) := by decide +kernel
theorem dL_law_552 : decode cL_law 552 = .ok (.aload_n 0, 1) := by decide +kernel
theorem dL_law_553 : decode cL_law 553 = .ok (.iload_n 3, 1) := by decide +kernel
theorem dL_law_554 : decode cL_law 554 = .ok (.iconst 2, 1) := by decide +kernel
theorem dL_law_555 : decode cL_law 555 = .ok (.iadd, 1) := by decide +kernel
theorem dL_law_556 : decode cL_law 556 = .ok (.iaload, 1) := by decide +kernel
theorem dL_law_557 : decode cL_law 557 = .ok (.invokevirtual 63, 3) := by decide +kernel
theorem dL_law_560 : decode cL_law 560 = .ok (.if_icmp .eq 654, 3) := by decide +kernel
theorem dL_law_563 : decode cL_law 563 = .ok (.iconst 0, 1) := by decide +kernel
theorem dL_law_564 : decode cL_law 564 = .ok (.ireturn, 1) := by decide +kernel
theorem dL_law_565 : decode cL_law 565 = .ok (.aload_n 1, 1) := by decide +kernel
theorem dL_law_566 : decode cL_law 566 = .ok (.aload_n 0, 1) := by decide +kernel
theorem dL_law_567 : decode cL_law 567 = .ok (.iload_n 3, 1) := by decide +kernel
theorem dL_law_568 : decode cL_law 568 = .ok (.iconst 1, 1) := by decide +kernel
theorem dL_law_569 : decode cL_law 569 = .ok (.iadd, 1) := by decide +kernel
theorem dL_law_570 : decode cL_law 570 = .ok (.iaload, 1) := by decide +kernel
theorem dL_law_571 : decode cL_law 571 = .ok (.aload_n 0, 1) := by decide +kernel
theorem dL_law_572 : decode cL_law 572 = .ok (.iload_n 3, 1) := by decide +kernel
theorem dL_law_573 : decode cL_law 573 = .ok (.iconst 2, 1) := by decide +kernel
theorem dL_law_574 : decode cL_law 574 = .ok (.iadd, 1) := by decide +kernel
theorem dL_law_575 : decode cL_law 575 = .ok (.iaload, 1) := by decide +kernel
theorem dL_law_576 : decode cL_law 576 = .ok (.invokevirtual 64, 3) := by decide +kernel
theorem dL_law_579 : decode cL_law 579 = .ok (.aload_n 2, 1) := by decide +kernel
theorem dL_law_580 : decode cL_law 580 = .ok (.aload_n 0, 1) := by decide +kernel
theorem dL_law_581 : decode cL_law 581 = .ok (.iload_n 3, 1) := by decide +kernel
theorem dL_law_582 : decode cL_law 582 = .ok (.iconst 1, 1) := by decide +kernel
theorem dL_law_583 : decode cL_law 583 = .ok (.iadd, 1) := by decide +kernel
theorem dL_law_584 : decode cL_law 584 = .ok (.iaload, 1) := by decide +kernel
theorem dL_law_585 : decode cL_law 585 = .ok (.aload_n 0, 1) := by decide +kernel
theorem dL_law_586 : decode cL_law 586 = .ok (.iload_n 3, 1) := by decide +kernel
theorem dL_law_587 : decode cL_law 587 = .ok (.iconst 2, 1) := by decide +kernel
theorem dL_law_588 : decode cL_law 588 = .ok (.iadd, 1) := by decide +kernel
theorem dL_law_589 : decode cL_law 589 = .ok (.iaload, 1) := by decide +kernel
theorem dL_law_590 : decode cL_law 590 = .ok (.invokevirtual 67, 3) := by decide +kernel
theorem dL_law_593 : decode cL_law 593 = .ok (.if_icmp .eq 621, 3) := by decide +kernel
theorem dL_law_596 : decode cL_law 596 = .ok (.iconst 0, 1) := by decide +kernel
theorem dL_law_597 : decode cL_law 597 = .ok (.ireturn, 1) := by decide +kernel
theorem dL_law_598 : decode cL_law 598 = .ok (.aload_n 1, 1) := by decide +kernel
theorem dL_law_599 : decode cL_law 599 = .ok (.aload_n 0, 1) := by decide +kernel
theorem dL_law_600 : decode cL_law 600 = .ok (.iload_n 3, 1) := by decide +kernel
theorem dL_law_601 : decode cL_law 601 = .ok (.iconst 1, 1) := by decide +kernel
theorem dL_law_602 : decode cL_law 602 = .ok (.iadd, 1) := by decide +kernel
theorem dL_law_603 : decode cL_law 603 = .ok (.iaload, 1) := by decide +kernel
theorem dL_law_604 : decode cL_law 604 = .ok (.aload_n 0, 1) := by decide +kernel
theorem dL_law_605 : decode cL_law 605 = .ok (.iload_n 3, 1) := by decide +kernel
theorem dL_law_606 : decode cL_law 606 = .ok (.iconst 2, 1) := by decide +kernel
theorem dL_law_607 : decode cL_law 607 = .ok (.iadd, 1) := by decide +kernel
theorem dL_law_608 : decode cL_law 608 = .ok (.iaload, 1) := by decide +kernel
theorem dL_law_609 : decode cL_law 609 = .ok (.aload_n 0, 1) := by decide +kernel
theorem dL_law_610 : decode cL_law 610 = .ok (.iload_n 3, 1) := by decide +kernel
theorem dL_law_611 : decode cL_law 611 = .ok (.iconst 3, 1) := by decide +kernel
theorem dL_law_612 : decode cL_law 612 = .ok (.iadd, 1) := by decide +kernel
theorem dL_law_613 : decode cL_law 613 = .ok (.iaload, 1) := by decide +kernel
theorem dL_law_614 : decode cL_law 614 = .ok (.invokevirtual 68, 3) := by decide +kernel
theorem dL_law_617 : decode cL_law 617 = .ok (.aload_n 2, 1) := by decide +kernel
theorem dL_law_618 : decode cL_law 618 = .ok (.aload_n 0, 1) := by decide +kernel
theorem dL_law_619 : decode cL_law 619 = .ok (.iload_n 3, 1) := by decide +kernel
theorem dL_law_620 : decode cL_law 620 = .ok (.iconst 1, 1) := by decide +kernel
theorem dL_law_621 : decode cL_law 621 = .ok (.iadd, 1) := by decide +kernel
theorem dL_law_622 : decode cL_law 622 = .ok (.iaload, 1) := by decide +kernel
theorem dL_law_623 : decode cL_law 623 = .ok (.aload_n 0, 1) := by decide +kernel
theorem dL_law_624 : decode cL_law 624 = .ok (.iload_n 3, 1) := by decide +kernel
theorem dL_law_625 : decode cL_law 625 = .ok (.iconst 2, 1) := by decide +kernel
theorem dL_law_626 : decode cL_law 626 = .ok (.iadd, 1) := by decide +kernel
theorem dL_law_627 : decode cL_law 627 = .ok (.iaload, 1) := by decide +kernel
theorem dL_law_628 : decode cL_law 628 = .ok (.aload_n 0, 1) := by decide +kernel
theorem dL_law_629 : decode cL_law 629 = .ok (.iload_n 3, 1) := by decide +kernel
theorem dL_law_630 : decode cL_law 630 = .ok (.iconst 3, 1) := by decide +kernel
theorem dL_law_631 : decode cL_law 631 = .ok (.iadd, 1) := by decide +kernel
theorem dL_law_632 : decode cL_law 632 = .ok (.iaload, 1) := by decide +kernel
theorem dL_law_633 : decode cL_law 633 = .ok (.invokevirtual 72, 3) := by decide +kernel
theorem dL_law_636 : decode cL_law 636 = .ok (.if_icmp .eq 578, 3) := by decide +kernel
theorem dL_law_639 : decode cL_law 639 = .ok (.iconst 0, 1) := by decide +kernel
theorem dL_law_640 : decode cL_law 640 = .ok (.ireturn, 1) := by decide +kernel
theorem dL_law_641 : decode cL_law 641 = .ok (.aload_n 1, 1) := by decide +kernel
theorem dL_law_642 : decode cL_law 642 = .ok (.aload_n 0, 1) := by decide +kernel
theorem dL_law_643 : decode cL_law 643 = .ok (.iload_n 3, 1) := by decide +kernel
theorem dL_law_644 : decode cL_law 644 = .ok (.iconst 1, 1) := by decide +kernel
theorem dL_law_645 : decode cL_law 645 = .ok (.iadd, 1) := by decide +kernel
theorem dL_law_646 : decode cL_law 646 = .ok (.iaload, 1) := by decide +kernel
theorem dL_law_647 : decode cL_law 647 = .ok (.aload_n 0, 1) := by decide +kernel
theorem dL_law_648 : decode cL_law 648 = .ok (.iload_n 3, 1) := by decide +kernel
theorem dL_law_649 : decode cL_law 649 = .ok (.iconst 2, 1) := by decide +kernel
theorem dL_law_650 : decode cL_law 650 = .ok (.iadd, 1) := by decide +kernel
theorem dL_law_651 : decode cL_law 651 = .ok (.iaload, 1) := by decide +kernel
theorem dL_law_652 : decode cL_law 652 = .ok (.aload_n 0, 1) := by decide +kernel
theorem dL_law_653 : decode cL_law 653 = .ok (.iload_n 3, 1) := by decide +kernel
theorem dL_law_654 : decode cL_law 654 = .ok (.iconst 3, 1) := by decide +kernel
theorem dL_law_655 : decode cL_law 655 = .ok (.iadd, 1) := by decide +kernel
theorem dL_law_656 : decode cL_law 656 = .ok (.iaload, 1) := by decide +kernel
theorem dL_law_657 : decode cL_law 657 = .ok (.invokevirtual 73, 3) := by decide +kernel
theorem dL_law_660 : decode cL_law 660 = .ok (.aload_n 2, 1) := by decide +kernel
theorem dL_law_661 : decode cL_law 661 = .ok (.aload_n 0, 1) := by decide +kernel
theorem dL_law_662 : decode cL_law 662 = .ok (.iload_n 3, 1) := by decide +kernel
theorem dL_law_663 : decode cL_law 663 = .ok (.iconst 1, 1) := by decide +kernel
theorem dL_law_664 : decode cL_law 664 = .ok (.iadd, 1) := by decide +kernel
theorem dL_law_665 : decode cL_law 665 = .ok (.iaload, 1) := by decide +kernel
theorem dL_law_666 : decode cL_law 666 = .ok (.aload_n 0, 1) := by decide +kernel
theorem dL_law_667 : decode cL_law 667 = .ok (.iload_n 3, 1) := by decide +kernel
theorem dL_law_668 : decode cL_law 668 = .ok (.iconst 2, 1) := by decide +kernel
theorem dL_law_669 : decode cL_law 669 = .ok (.iadd, 1) := by decide +kernel
theorem dL_law_670 : decode cL_law 670 = .ok (.iaload, 1) := by decide +kernel
theorem dL_law_671 : decode cL_law 671 = .ok (.aload_n 0, 1) := by decide +kernel
theorem dL_law_672 : decode cL_law 672 = .ok (.iload_n 3, 1) := by decide +kernel
theorem dL_law_673 : decode cL_law 673 = .ok (.iconst 3, 1) := by decide +kernel
theorem dL_law_674 : decode cL_law 674 = .ok (.iadd, 1) := by decide +kernel
theorem dL_law_675 : decode cL_law 675 = .ok (.iaload, 1) := by decide +kernel
theorem dL_law_676 : decode cL_law 676 = .ok (.invokevirtual 76, 3) := by decide +kernel
theorem dL_law_679 : decode cL_law 679 = .ok (.if_icmp .eq 535, 3) := by decide +kernel
theorem dL_law_682 : decode cL_law 682 = .ok (.iconst 0, 1) := by decide +kernel
theorem dL_law_683 : decode cL_law 683 = .ok (.ireturn, 1) := by decide +kernel
theorem dL_law_684 : decode cL_law 684 = .ok (.aload_n 1, 1) := by decide +kernel
theorem dL_law_685 : decode cL_law 685 = .ok (.aload_n 0, 1) := by decide +kernel
theorem dL_law_686 : decode cL_law 686 = .ok (.iload_n 3, 1) := by decide +kernel
theorem dL_law_687 : decode cL_law 687 = .ok (.iconst 1, 1) := by decide +kernel
theorem dL_law_688 : decode cL_law 688 = .ok (.iadd, 1) := by decide +kernel
theorem dL_law_689 : decode cL_law 689 = .ok (.iaload, 1) := by decide +kernel
theorem dL_law_690 : decode cL_law 690 = .ok (.invokevirtual 77, 3) := by decide +kernel
theorem dL_law_693 : decode cL_law 693 = .ok (.aload_n 2, 1) := by decide +kernel
theorem dL_law_694 : decode cL_law 694 = .ok (.aload_n 0, 1) := by decide +kernel
theorem dL_law_695 : decode cL_law 695 = .ok (.iload_n 3, 1) := by decide +kernel
theorem dL_law_696 : decode cL_law 696 = .ok (.iconst 1, 1) := by decide +kernel
theorem dL_law_697 : decode cL_law 697 = .ok (.iadd, 1) := by decide +kernel
theorem dL_law_698 : decode cL_law 698 = .ok (.iaload, 1) := by decide +kernel
theorem dL_law_699 : decode cL_law 699 = .ok (.invokevirtual 80, 3) := by decide +kernel
theorem dL_law_702 : decode cL_law 702 = .ok (.if_icmp .eq 512, 3) := by decide +kernel
theorem dL_law_705 : decode cL_law 705 = .ok (.iconst 0, 1) := by decide +kernel
theorem dL_law_706 : decode cL_law 706 = .ok (.ireturn, 1) := by decide +kernel
theorem dL_law_707 : decode cL_law 707 = .ok (.aload_n 1, 1) := by decide +kernel
theorem dL_law_708 : decode cL_law 708 = .ok (.aload_n 0, 1) := by decide +kernel
theorem dL_law_709 : decode cL_law 709 = .ok (.iload_n 3, 1) := by decide +kernel
theorem dL_law_710 : decode cL_law 710 = .ok (.iconst 1, 1) := by decide +kernel
theorem dL_law_711 : decode cL_law 711 = .ok (.iadd, 1) := by decide +kernel
theorem dL_law_712 : decode cL_law 712 = .ok (.iaload, 1) := by decide +kernel
theorem dL_law_713 : decode cL_law 713 = .ok (.aload_n 0, 1) := by decide +kernel
theorem dL_law_714 : decode cL_law 714 = .ok (.iload_n 3, 1) := by decide +kernel
theorem dL_law_715 : decode cL_law 715 = .ok (.iconst 2, 1) := by decide +kernel
theorem dL_law_716 : decode cL_law 716 = .ok (.iadd, 1) := by decide +kernel
theorem dL_law_717 : decode cL_law 717 = .ok (.iaload, 1) := by decide +kernel
theorem dL_law_718 : decode cL_law 718 = .ok (.invokevirtual 81, 3) := by decide +kernel
theorem dL_law_721 : decode cL_law 721 = .ok (.aload_n 2, 1) := by decide +kernel
theorem dL_law_722 : decode cL_law 722 = .ok (.aload_n 0, 1) := by decide +kernel
theorem dL_law_723 : decode cL_law 723 = .ok (.iload_n 3, 1) := by decide +kernel
theorem dL_law_724 : decode cL_law 724 = .ok (.iconst 1, 1) := by decide +kernel
theorem dL_law_725 : decode cL_law 725 = .ok (.iadd, 1) := by decide +kernel
theorem dL_law_726 : decode cL_law 726 = .ok (.iaload, 1) := by decide +kernel
theorem dL_law_727 : decode cL_law 727 = .ok (.aload_n 0, 1) := by decide +kernel
theorem dL_law_728 : decode cL_law 728 = .ok (.iload_n 3, 1) := by decide +kernel
theorem dL_law_729 : decode cL_law 729 = .ok (.iconst 2, 1) := by decide +kernel
theorem dL_law_730 : decode cL_law 730 = .ok (.iadd, 1) := by decide +kernel
theorem dL_law_731 : decode cL_law 731 = .ok (.iaload, 1) := by decide +kernel
theorem dL_law_732 : decode cL_law 732 = .ok (.invokevirtual 84, 3) := by decide +kernel
theorem dL_law_735 : decode cL_law 735 = .ok (.if_icmp .eq 479, 3) := by decide +kernel
theorem dL_law_738 : decode cL_law 738 = .ok (.iconst 0, 1) := by decide +kernel
theorem dL_law_739 : decode cL_law 739 = .ok (.ireturn, 1) := by decide +kernel
theorem dL_law_740 : decode cL_law 740 = .ok (.aload_n 1, 1) := by decide +kernel
theorem dL_law_741 : decode cL_law 741 = .ok (.aload_n 0, 1) := by decide +kernel
theorem dL_law_742 : decode cL_law 742 = .ok (.iload_n 3, 1) := by decide +kernel
theorem dL_law_743 : decode cL_law 743 = .ok (.iconst 1, 1) := by decide +kernel
theorem dL_law_744 : decode cL_law 744 = .ok (.iadd, 1) := by decide +kernel
theorem dL_law_745 : decode cL_law 745 = .ok (.iaload, 1) := by decide +kernel
theorem dL_law_746 : decode cL_law 746 = .ok (.aload_n 0, 1) := by decide +kernel
theorem dL_law_747 : decode cL_law 747 = .ok (.iload_n 3, 1) := by decide +kernel
theorem dL_law_748 : decode cL_law 748 = .ok (.iconst 2, 1) := by decide +kernel
theorem dL_law_749 : decode cL_law 749 = .ok (.iadd, 1) := by decide +kernel
theorem dL_law_750 : decode cL_law 750 = .ok (.iaload, 1) := by decide +kernel
theorem dL_law_751 : decode cL_law 751 = .ok (.invokevirtual 85, 3) := by decide +kernel
theorem dL_law_754 : decode cL_law 754 = .ok (.aload_n 2, 1) := by decide +kernel
theorem dL_law_755 : decode cL_law 755 = .ok (.aload_n 0, 1) := by decide +kernel
theorem dL_law_756 : decode cL_law 756 = .ok (.iload_n 3, 1) := by decide +kernel
theorem dL_law_757 : decode cL_law 757 = .ok (.iconst 1, 1) := by decide +kernel
theorem dL_law_758 : decode cL_law 758 = .ok (.iadd, 1) := by decide +kernel
theorem dL_law_759 : decode cL_law 759 = .ok (.iaload, 1) := by decide +kernel
theorem dL_law_760 : decode cL_law 760 = .ok (.aload_n 0, 1) := by decide +kernel
theorem dL_law_761 : decode cL_law 761 = .ok (.iload_n 3, 1) := by decide +kernel
theorem dL_law_762 : decode cL_law 762 = .ok (.iconst 2, 1) := by decide +kernel
theorem dL_law_763 : decode cL_law 763 = .ok (.iadd, 1) := by decide +kernel
theorem dL_law_764 : decode cL_law 764 = .ok (.iaload, 1) := by decide +kernel
theorem dL_law_765 : decode cL_law 765 = .ok (.invokevirtual 88, 3) := by decide +kernel
theorem dL_law_768 : decode cL_law 768 = .ok (.if_icmp .eq 446, 3) := by decide +kernel
theorem dL_law_771 : decode cL_law 771 = .ok (.iconst 0, 1) := by decide +kernel
theorem dL_law_772 : decode cL_law 772 = .ok (.ireturn, 1) := by decide +kernel
theorem dL_law_773 : decode cL_law 773 = .ok (.aload_n 1, 1) := by decide +kernel
theorem dL_law_774 : decode cL_law 774 = .ok (.invokevirtual 89, 3) := by decide +kernel
theorem dL_law_777 : decode cL_law 777 = .ok (.aload_n 2, 1) := by decide +kernel
theorem dL_law_778 : decode cL_law 778 = .ok (.invokevirtual 93, 3) := by decide +kernel
theorem dL_law_781 : decode cL_law 781 = .ok (.if_icmp .eq 433, 3) := by decide +kernel
theorem dL_law_784 : decode cL_law 784 = .ok (.iconst 0, 1) := by decide +kernel
theorem dL_law_785 : decode cL_law 785 = .ok (.ireturn, 1) := by decide +kernel
theorem dL_law_786 : decode cL_law 786 = .ok (.aload_n 1, 1) := by decide +kernel
theorem dL_law_787 : decode cL_law 787 = .ok (.aload_n 0, 1) := by decide +kernel
theorem dL_law_788 : decode cL_law 788 = .ok (.iload_n 3, 1) := by decide +kernel
theorem dL_law_789 : decode cL_law 789 = .ok (.iconst 1, 1) := by decide +kernel
theorem dL_law_790 : decode cL_law 790 = .ok (.iadd, 1) := by decide +kernel
theorem dL_law_791 : decode cL_law 791 = .ok (.iaload, 1) := by decide +kernel
theorem dL_law_792 : decode cL_law 792 = .ok (.aload_n 0, 1) := by decide +kernel
theorem dL_law_793 : decode cL_law 793 = .ok (.iload_n 3, 1) := by decide +kernel
theorem dL_law_794 : decode cL_law 794 = .ok (.iconst 2, 1) := by decide +kernel
theorem dL_law_795 : decode cL_law 795 = .ok (.iadd, 1) := by decide +kernel
theorem dL_law_796 : decode cL_law 796 = .ok (.iaload, 1) := by decide +kernel
theorem dL_law_797 : decode cL_law 797 = .ok (.aload_n 0, 1) := by decide +kernel
theorem dL_law_798 : decode cL_law 798 = .ok (.iload_n 3, 1) := by decide +kernel
theorem dL_law_799 : decode cL_law 799 = .ok (.iconst 3, 1) := by decide +kernel
theorem dL_law_800 : decode cL_law 800 = .ok (.iadd, 1) := by decide +kernel
theorem dL_law_801 : decode cL_law 801 = .ok (.iaload, 1) := by decide +kernel
theorem dL_law_802 : decode cL_law 802 = .ok (.invokevirtual 94, 3) := by decide +kernel
theorem dL_law_805 : decode cL_law 805 = .ok (.aload_n 2, 1) := by decide +kernel
theorem dL_law_806 : decode cL_law 806 = .ok (.aload_n 0, 1) := by decide +kernel
theorem dL_law_807 : decode cL_law 807 = .ok (.iload_n 3, 1) := by decide +kernel
theorem dL_law_808 : decode cL_law 808 = .ok (.iconst 1, 1) := by decide +kernel
theorem dL_law_809 : decode cL_law 809 = .ok (.iadd, 1) := by decide +kernel
theorem dL_law_810 : decode cL_law 810 = .ok (.iaload, 1) := by decide +kernel
theorem dL_law_811 : decode cL_law 811 = .ok (.aload_n 0, 1) := by decide +kernel
theorem dL_law_812 : decode cL_law 812 = .ok (.iload_n 3, 1) := by decide +kernel
theorem dL_law_813 : decode cL_law 813 = .ok (.iconst 2, 1) := by decide +kernel
theorem dL_law_814 : decode cL_law 814 = .ok (.iadd, 1) := by decide +kernel
theorem dL_law_815 : decode cL_law 815 = .ok (.iaload, 1) := by decide +kernel
theorem dL_law_816 : decode cL_law 816 = .ok (.aload_n 0, 1) := by decide +kernel
theorem dL_law_817 : decode cL_law 817 = .ok (.iload_n 3, 1) := by decide +kernel
theorem dL_law_818 : decode cL_law 818 = .ok (.iconst 3, 1) := by decide +kernel
theorem dL_law_819 : decode cL_law 819 = .ok (.iadd, 1) := by decide +kernel
theorem dL_law_820 : decode cL_law 820 = .ok (.iaload, 1) := by decide +kernel
theorem dL_law_821 : decode cL_law 821 = .ok (.invokevirtual 97, 3) := by decide +kernel
theorem dL_law_824 : decode cL_law 824 = .ok (.if_icmp .eq 390, 3) := by decide +kernel
theorem dL_law_827 : decode cL_law 827 = .ok (.iconst 0, 1) := by decide +kernel
theorem dL_law_828 : decode cL_law 828 = .ok (.ireturn, 1) := by decide +kernel
theorem dL_law_829 : decode cL_law 829 = .ok (.aload_n 1, 1) := by decide +kernel
theorem dL_law_830 : decode cL_law 830 = .ok (.aload_n 0, 1) := by decide +kernel
theorem dL_law_831 : decode cL_law 831 = .ok (.iload_n 3, 1) := by decide +kernel
theorem dL_law_832 : decode cL_law 832 = .ok (.iconst 1, 1) := by decide +kernel
theorem dL_law_833 : decode cL_law 833 = .ok (.iadd, 1) := by decide +kernel
theorem dL_law_834 : decode cL_law 834 = .ok (.iaload, 1) := by decide +kernel
theorem dL_law_835 : decode cL_law 835 = .ok (.aload_n 0, 1) := by decide +kernel
theorem dL_law_836 : decode cL_law 836 = .ok (.iload_n 3, 1) := by decide +kernel
theorem dL_law_837 : decode cL_law 837 = .ok (.iconst 2, 1) := by decide +kernel
theorem dL_law_838 : decode cL_law 838 = .ok (.iadd, 1) := by decide +kernel
theorem dL_law_839 : decode cL_law 839 = .ok (.iaload, 1) := by decide +kernel
theorem dL_law_840 : decode cL_law 840 = .ok (.aload_n 0, 1) := by decide +kernel
theorem dL_law_841 : decode cL_law 841 = .ok (.iload_n 3, 1) := by decide +kernel
theorem dL_law_842 : decode cL_law 842 = .ok (.iconst 3, 1) := by decide +kernel
theorem dL_law_843 : decode cL_law 843 = .ok (.iadd, 1) := by decide +kernel
theorem dL_law_844 : decode cL_law 844 = .ok (.iaload, 1) := by decide +kernel
theorem dL_law_845 : decode cL_law 845 = .ok (.invokevirtual 98, 3) := by decide +kernel
theorem dL_law_848 : decode cL_law 848 = .ok (.aload_n 2, 1) := by decide +kernel
theorem dL_law_849 : decode cL_law 849 = .ok (.aload_n 0, 1) := by decide +kernel
theorem dL_law_850 : decode cL_law 850 = .ok (.iload_n 3, 1) := by decide +kernel
theorem dL_law_851 : decode cL_law 851 = .ok (.iconst 1, 1) := by decide +kernel
theorem dL_law_852 : decode cL_law 852 = .ok (.iadd, 1) := by decide +kernel
theorem dL_law_853 : decode cL_law 853 = .ok (.iaload, 1) := by decide +kernel
theorem dL_law_854 : decode cL_law 854 = .ok (.aload_n 0, 1) := by decide +kernel
theorem dL_law_855 : decode cL_law 855 = .ok (.iload_n 3, 1) := by decide +kernel
theorem dL_law_856 : decode cL_law 856 = .ok (.iconst 2, 1) := by decide +kernel
theorem dL_law_857 : decode cL_law 857 = .ok (.iadd, 1) := by decide +kernel
theorem dL_law_858 : decode cL_law 858 = .ok (.iaload, 1) := by decide +kernel
theorem dL_law_859 : decode cL_law 859 = .ok (.aload_n 0, 1) := by decide +kernel
theorem dL_law_860 : decode cL_law 860 = .ok (.iload_n 3, 1) := by decide +kernel
theorem dL_law_861 : decode cL_law 861 = .ok (.iconst 3, 1) := by decide +kernel
theorem dL_law_862 : decode cL_law 862 = .ok (.iadd, 1) := by decide +kernel
theorem dL_law_863 : decode cL_law 863 = .ok (.iaload, 1) := by decide +kernel
theorem dL_law_864 : decode cL_law 864 = .ok (.invokevirtual 101, 3) := by decide +kernel
theorem dL_law_867 : decode cL_law 867 = .ok (.if_icmp .eq 347, 3) := by decide +kernel
theorem dL_law_870 : decode cL_law 870 = .ok (.iconst 0, 1) := by decide +kernel
theorem dL_law_871 : decode cL_law 871 = .ok (.ireturn, 1) := by decide +kernel
theorem dL_law_872 : decode cL_law 872 = .ok (.aload_n 1, 1) := by decide +kernel
theorem dL_law_873 : decode cL_law 873 = .ok (.aload_n 0, 1) := by decide +kernel
theorem dL_law_874 : decode cL_law 874 = .ok (.iload_n 3, 1) := by decide +kernel
theorem dL_law_875 : decode cL_law 875 = .ok (.iconst 1, 1) := by decide +kernel
theorem dL_law_876 : decode cL_law 876 = .ok (.iadd, 1) := by decide +kernel
theorem dL_law_877 : decode cL_law 877 = .ok (.iaload, 1) := by decide +kernel
theorem dL_law_878 : decode cL_law 878 = .ok (.aload_n 0, 1) := by decide +kernel
theorem dL_law_879 : decode cL_law 879 = .ok (.iload_n 3, 1) := by decide +kernel
theorem dL_law_880 : decode cL_law 880 = .ok (.iconst 2, 1) := by decide +kernel
theorem dL_law_881 : decode cL_law 881 = .ok (.iadd, 1) := by decide +kernel
theorem dL_law_882 : decode cL_law 882 = .ok (.iaload, 1) := by decide +kernel
theorem dL_law_883 : decode cL_law 883 = .ok (.invokevirtual 102, 3) := by decide +kernel
theorem dL_law_886 : decode cL_law 886 = .ok (.aload_n 2, 1) := by decide +kernel
theorem dL_law_887 : decode cL_law 887 = .ok (.aload_n 0, 1) := by decide +kernel
theorem dL_law_888 : decode cL_law 888 = .ok (.iload_n 3, 1) := by decide +kernel
theorem dL_law_889 : decode cL_law 889 = .ok (.iconst 1, 1) := by decide +kernel
theorem dL_law_890 : decode cL_law 890 = .ok (.iadd, 1) := by decide +kernel
theorem dL_law_891 : decode cL_law 891 = .ok (.iaload, 1) := by decide +kernel
theorem dL_law_892 : decode cL_law 892 = .ok (.aload_n 0, 1) := by decide +kernel
theorem dL_law_893 : decode cL_law 893 = .ok (.iload_n 3, 1) := by decide +kernel
theorem dL_law_894 : decode cL_law 894 = .ok (.iconst 2, 1) := by decide +kernel
theorem dL_law_895 : decode cL_law 895 = .ok (.iadd, 1) := by decide +kernel
theorem dL_law_896 : decode cL_law 896 = .ok (.iaload, 1) := by decide +kernel
theorem dL_law_897 : decode cL_law 897 = .ok (.invokevirtual 105, 3) := by decide +kernel
theorem dL_law_900 : decode cL_law 900 = .ok (.if_icmp .eq 314, 3) := by decide +kernel
theorem dL_law_903 : decode cL_law 903 = .ok (.iconst 0, 1) := by decide +kernel
theorem dL_law_904 : decode cL_law 904 = .ok (.ireturn, 1) := by decide +kernel
theorem dL_law_905 : decode cL_law 905 = .ok (.aload_n 1, 1) := by decide +kernel
theorem dL_law_906 : decode cL_law 906 = .ok (.aload_n 0, 1) := by decide +kernel
theorem dL_law_907 : decode cL_law 907 = .ok (.iload_n 3, 1) := by decide +kernel
theorem dL_law_908 : decode cL_law 908 = .ok (.iconst 1, 1) := by decide +kernel
theorem dL_law_909 : decode cL_law 909 = .ok (.iadd, 1) := by decide +kernel
theorem dL_law_910 : decode cL_law 910 = .ok (.iaload, 1) := by decide +kernel
theorem dL_law_911 : decode cL_law 911 = .ok (.aload_n 0, 1) := by decide +kernel
theorem dL_law_912 : decode cL_law 912 = .ok (.iload_n 3, 1) := by decide +kernel
theorem dL_law_913 : decode cL_law 913 = .ok (.iconst 2, 1) := by decide +kernel
theorem dL_law_914 : decode cL_law 914 = .ok (.iadd, 1) := by decide +kernel
theorem dL_law_915 : decode cL_law 915 = .ok (.iaload, 1) := by decide +kernel
theorem dL_law_916 : decode cL_law 916 = .ok (.aload_n 0, 1) := by decide +kernel
theorem dL_law_917 : decode cL_law 917 = .ok (.iload_n 3, 1) := by decide +kernel
theorem dL_law_918 : decode cL_law 918 = .ok (.iconst 3, 1) := by decide +kernel
theorem dL_law_919 : decode cL_law 919 = .ok (.iadd, 1) := by decide +kernel
theorem dL_law_920 : decode cL_law 920 = .ok (.iaload, 1) := by decide +kernel
theorem dL_law_921 : decode cL_law 921 = .ok (.invokevirtual 106, 3) := by decide +kernel
theorem dL_law_924 : decode cL_law 924 = .ok (.aload_n 2, 1) := by decide +kernel
theorem dL_law_925 : decode cL_law 925 = .ok (.aload_n 0, 1) := by decide +kernel
theorem dL_law_926 : decode cL_law 926 = .ok (.iload_n 3, 1) := by decide +kernel
theorem dL_law_927 : decode cL_law 927 = .ok (.iconst 1, 1) := by decide +kernel
theorem dL_law_928 : decode cL_law 928 = .ok (.iadd, 1) := by decide +kernel
theorem dL_law_929 : decode cL_law 929 = .ok (.iaload, 1) := by decide +kernel
theorem dL_law_930 : decode cL_law 930 = .ok (.aload_n 0, 1) := by decide +kernel
theorem dL_law_931 : decode cL_law 931 = .ok (.iload_n 3, 1) := by decide +kernel
theorem dL_law_932 : decode cL_law 932 = .ok (.iconst 2, 1) := by decide +kernel
theorem dL_law_933 : decode cL_law 933 = .ok (.iadd, 1) := by decide +kernel
theorem dL_law_934 : decode cL_law 934 = .ok (.iaload, 1) := by decide +kernel
theorem dL_law_935 : decode cL_law 935 = .ok (.aload_n 0, 1) := by decide +kernel
theorem dL_law_936 : decode cL_law 936 = .ok (.iload_n 3, 1) := by decide +kernel
theorem dL_law_937 : decode cL_law 937 = .ok (.iconst 3, 1) := by decide +kernel
theorem dL_law_938 : decode cL_law 938 = .ok (.iadd, 1) := by decide +kernel
theorem dL_law_939 : decode cL_law 939 = .ok (.iaload, 1) := by decide +kernel
theorem dL_law_940 : decode cL_law 940 = .ok (.invokevirtual 109, 3) := by decide +kernel
theorem dL_law_943 : decode cL_law 943 = .ok (.if_icmp .eq 271, 3) := by decide +kernel
theorem dL_law_946 : decode cL_law 946 = .ok (.iconst 0, 1) := by decide +kernel
theorem dL_law_947 : decode cL_law 947 = .ok (.ireturn, 1) := by decide +kernel
theorem dL_law_948 : decode cL_law 948 = .ok (.aload_n 1, 1) := by decide +kernel
theorem dL_law_949 : decode cL_law 949 = .ok (.aload_n 0, 1) := by decide +kernel
theorem dL_law_950 : decode cL_law 950 = .ok (.iload_n 3, 1) := by decide +kernel
theorem dL_law_951 : decode cL_law 951 = .ok (.iconst 1, 1) := by decide +kernel
theorem dL_law_952 : decode cL_law 952 = .ok (.iadd, 1) := by decide +kernel
theorem dL_law_953 : decode cL_law 953 = .ok (.iaload, 1) := by decide +kernel
theorem dL_law_954 : decode cL_law 954 = .ok (.aload_n 0, 1) := by decide +kernel
theorem dL_law_955 : decode cL_law 955 = .ok (.iload_n 3, 1) := by decide +kernel
theorem dL_law_956 : decode cL_law 956 = .ok (.iconst 2, 1) := by decide +kernel
theorem dL_law_957 : decode cL_law 957 = .ok (.iadd, 1) := by decide +kernel
theorem dL_law_958 : decode cL_law 958 = .ok (.iaload, 1) := by decide +kernel
theorem dL_law_959 : decode cL_law 959 = .ok (.invokevirtual 110, 3) := by decide +kernel
theorem dL_law_962 : decode cL_law 962 = .ok (.aload_n 2, 1) := by decide +kernel
theorem dL_law_963 : decode cL_law 963 = .ok (.aload_n 0, 1) := by decide +kernel
theorem dL_law_964 : decode cL_law 964 = .ok (.iload_n 3, 1) := by decide +kernel
theorem dL_law_965 : decode cL_law 965 = .ok (.iconst 1, 1) := by decide +kernel
theorem dL_law_966 : decode cL_law 966 = .ok (.iadd, 1) := by decide +kernel
theorem dL_law_967 : decode cL_law 967 = .ok (.iaload, 1) := by decide +kernel
theorem dL_law_968 : decode cL_law 968 = .ok (.aload_n 0, 1) := by decide +kernel
theorem dL_law_969 : decode cL_law 969 = .ok (.iload_n 3, 1) := by decide +kernel
theorem dL_law_970 : decode cL_law 970 = .ok (.iconst 2, 1) := by decide +kernel
theorem dL_law_971 : decode cL_law 971 = .ok (.iadd, 1) := by decide +kernel
theorem dL_law_972 : decode cL_law 972 = .ok (.iaload, 1) := by decide +kernel
theorem dL_law_973 : decode cL_law 973 = .ok (.invokevirtual 113, 3) := by decide +kernel
theorem dL_law_976 : decode cL_law 976 = .ok (.if_icmp .eq 238, 3) := by decide +kernel
theorem dL_law_979 : decode cL_law 979 = .ok (.iconst 0, 1) := by decide +kernel
theorem dL_law_980 : decode cL_law 980 = .ok (.ireturn, 1) := by decide +kernel
theorem dL_law_981 : decode cL_law 981 = .ok (.aload_n 1, 1) := by decide +kernel
theorem dL_law_982 : decode cL_law 982 = .ok (.aload_n 0, 1) := by decide +kernel
theorem dL_law_983 : decode cL_law 983 = .ok (.iload_n 3, 1) := by decide +kernel
theorem dL_law_984 : decode cL_law 984 = .ok (.iconst 1, 1) := by decide +kernel
theorem dL_law_985 : decode cL_law 985 = .ok (.iadd, 1) := by decide +kernel
theorem dL_law_986 : decode cL_law 986 = .ok (.iaload, 1) := by decide +kernel
theorem dL_law_987 : decode cL_law 987 = .ok (.aload_n 0, 1) := by decide +kernel
theorem dL_law_988 : decode cL_law 988 = .ok (.iload_n 3, 1) := by decide +kernel
theorem dL_law_989 : decode cL_law 989 = .ok (.iconst 2, 1) := by decide +kernel
theorem dL_law_990 : decode cL_law 990 = .ok (.iadd, 1) := by decide +kernel
theorem dL_law_991 : decode cL_law 991 = .ok (.iaload, 1) := by decide +kernel
theorem dL_law_992 : decode cL_law 992 = .ok (.aload_n 0, 1) := by decide +kernel
theorem dL_law_993 : decode cL_law 993 = .ok (.iload_n 3, 1) := by decide +kernel
theorem dL_law_994 : decode cL_law 994 = .ok (.iconst 3, 1) := by decide +kernel
theorem dL_law_995 : decode cL_law 995 = .ok (.iadd, 1) := by decide +kernel
theorem dL_law_996 : decode cL_law 996 = .ok (.iaload, 1) := by decide +kernel
theorem dL_law_997 : decode cL_law 997 = .ok (.ifCond .eq 7, 3) := by decide +kernel
theorem dL_law_1000 : decode cL_law 1000 = .ok (.iconst 1, 1) := by decide +kernel
theorem dL_law_1001 : decode cL_law 1001 = .ok (.goto 4, 3) := by decide +kernel
theorem dL_law_1004 : decode cL_law 1004 = .ok (.iconst 0, 1) := by decide +kernel
theorem dL_law_1005 : decode cL_law 1005 = .ok (.aload_n 0, 1) := by decide +kernel
theorem dL_law_1006 : decode cL_law 1006 = .ok (.iload_n 3, 1) := by decide +kernel
theorem dL_law_1007 : decode cL_law 1007 = .ok (.iconst 4, 1) := by decide +kernel
theorem dL_law_1008 : decode cL_law 1008 = .ok (.iadd, 1) := by decide +kernel
theorem dL_law_1009 : decode cL_law 1009 = .ok (.iaload, 1) := by decide +kernel
theorem dL_law_1010 : decode cL_law 1010 = .ok (.invokevirtual 114, 3) := by decide +kernel
theorem dL_law_1013 : decode cL_law 1013 = .ok (.aload_n 2, 1) := by decide +kernel
theorem dL_law_1014 : decode cL_law 1014 = .ok (.aload_n 0, 1) := by decide +kernel
theorem dL_law_1015 : decode cL_law 1015 = .ok (.iload_n 3, 1) := by decide +kernel
theorem dL_law_1016 : decode cL_law 1016 = .ok (.iconst 1, 1) := by decide +kernel
theorem dL_law_1017 : decode cL_law 1017 = .ok (.iadd, 1) := by decide +kernel
theorem dL_law_1018 : decode cL_law 1018 = .ok (.iaload, 1) := by decide +kernel
theorem dL_law_1019 : decode cL_law 1019 = .ok (.aload_n 0, 1) := by decide +kernel
theorem dL_law_1020 : decode cL_law 1020 = .ok (.iload_n 3, 1) := by decide +kernel
theorem dL_law_1021 : decode cL_law 1021 = .ok (.iconst 2, 1) := by decide +kernel
theorem dL_law_1022 : decode cL_law 1022 = .ok (.iadd, 1) := by decide +kernel
theorem dL_law_1023 : decode cL_law 1023 = .ok (.iaload, 1) := by decide +kernel
theorem dL_law_1024 : decode cL_law 1024 = .ok (.aload_n 0, 1) := by decide +kernel
theorem dL_law_1025 : decode cL_law 1025 = .ok (.iload_n 3, 1) := by decide +kernel
theorem dL_law_1026 : decode cL_law 1026 = .ok (.iconst 3, 1) := by decide +kernel
theorem dL_law_1027 : decode cL_law 1027 = .ok (.iadd, 1) := by decide +kernel
theorem dL_law_1028 : decode cL_law 1028 = .ok (.iaload, 1) := by decide +kernel
theorem dL_law_1029 : decode cL_law 1029 = .ok (.ifCond .eq 7, 3) := by decide +kernel
theorem dL_law_1032 : decode cL_law 1032 = .ok (.iconst 1, 1) := by decide +kernel
theorem dL_law_1033 : decode cL_law 1033 = .ok (.goto 4, 3) := by decide +kernel
theorem dL_law_1036 : decode cL_law 1036 = .ok (.iconst 0, 1) := by decide +kernel
theorem dL_law_1037 : decode cL_law 1037 = .ok (.aload_n 0, 1) := by decide +kernel
theorem dL_law_1038 : decode cL_law 1038 = .ok (.iload_n 3, 1) := by decide +kernel
theorem dL_law_1039 : decode cL_law 1039 = .ok (.iconst 4, 1) := by decide +kernel
theorem dL_law_1040 : decode cL_law 1040 = .ok (.iadd, 1) := by decide +kernel
theorem dL_law_1041 : decode cL_law 1041 = .ok (.iaload, 1) := by decide +kernel
theorem dL_law_1042 : decode cL_law 1042 = .ok (.invokevirtual 118, 3) := by decide +kernel
theorem dL_law_1045 : decode cL_law 1045 = .ok (.if_icmp .eq 169, 3) := by decide +kernel
theorem dL_law_1048 : decode cL_law 1048 = .ok (.iconst 0, 1) := by decide +kernel
theorem dL_law_1049 : decode cL_law 1049 = .ok (.ireturn, 1) := by decide +kernel
theorem dL_law_1050 : decode cL_law 1050 = .ok (.aload_n 1, 1) := by decide +kernel
theorem dL_law_1051 : decode cL_law 1051 = .ok (.aload_n 0, 1) := by decide +kernel
theorem dL_law_1052 : decode cL_law 1052 = .ok (.iload_n 3, 1) := by decide +kernel
theorem dL_law_1053 : decode cL_law 1053 = .ok (.iconst 1, 1) := by decide +kernel
theorem dL_law_1054 : decode cL_law 1054 = .ok (.iadd, 1) := by decide +kernel
theorem dL_law_1055 : decode cL_law 1055 = .ok (.iaload, 1) := by decide +kernel
theorem dL_law_1056 : decode cL_law 1056 = .ok (.aload_n 0, 1) := by decide +kernel
theorem dL_law_1057 : decode cL_law 1057 = .ok (.iload_n 3, 1) := by decide +kernel
theorem dL_law_1058 : decode cL_law 1058 = .ok (.iconst 2, 1) := by decide +kernel
theorem dL_law_1059 : decode cL_law 1059 = .ok (.iadd, 1) := by decide +kernel
theorem dL_law_1060 : decode cL_law 1060 = .ok (.iaload, 1) := by decide +kernel
theorem dL_law_1061 : decode cL_law 1061 = .ok (.invokevirtual 119, 3) := by decide +kernel
theorem dL_law_1064 : decode cL_law 1064 = .ok (.aload_n 2, 1) := by decide +kernel
theorem dL_law_1065 : decode cL_law 1065 = .ok (.aload_n 0, 1) := by decide +kernel
theorem dL_law_1066 : decode cL_law 1066 = .ok (.iload_n 3, 1) := by decide +kernel
theorem dL_law_1067 : decode cL_law 1067 = .ok (.iconst 1, 1) := by decide +kernel
theorem dL_law_1068 : decode cL_law 1068 = .ok (.iadd, 1) := by decide +kernel
theorem dL_law_1069 : decode cL_law 1069 = .ok (.iaload, 1) := by decide +kernel
theorem dL_law_1070 : decode cL_law 1070 = .ok (.aload_n 0, 1) := by decide +kernel
theorem dL_law_1071 : decode cL_law 1071 = .ok (.iload_n 3, 1) := by decide +kernel
theorem dL_law_1072 : decode cL_law 1072 = .ok (.iconst 2, 1) := by decide +kernel
theorem dL_law_1073 : decode cL_law 1073 = .ok (.iadd, 1) := by decide +kernel
theorem dL_law_1074 : decode cL_law 1074 = .ok (.iaload, 1) := by decide +kernel
theorem dL_law_1075 : decode cL_law 1075 = .ok (.invokevirtual 122, 3) := by decide +kernel
theorem dL_law_1078 : decode cL_law 1078 = .ok (.if_icmp .eq 136, 3) := by decide +kernel
theorem dL_law_1081 : decode cL_law 1081 = .ok (.iconst 0, 1) := by decide +kernel
theorem dL_law_1082 : decode cL_law 1082 = .ok (.ireturn, 1) := by decide +kernel
theorem dL_law_1083 : decode cL_law 1083 = .ok (.aload_n 1, 1) := by decide +kernel
theorem dL_law_1084 : decode cL_law 1084 = .ok (.invokevirtual 123, 3) := by decide +kernel
theorem dL_law_1087 : decode cL_law 1087 = .ok (.aload_n 2, 1) := by decide +kernel
theorem dL_law_1088 : decode cL_law 1088 = .ok (.invokevirtual 126, 3) := by decide +kernel
theorem dL_law_1091 : decode cL_law 1091 = .ok (.if_icmp .eq 123, 3) := by decide +kernel
theorem dL_law_1094 : decode cL_law 1094 = .ok (.iconst 0, 1) := by decide +kernel
theorem dL_law_1095 : decode cL_law 1095 = .ok (.ireturn, 1) := by decide +kernel
theorem dL_law_1096 : decode cL_law 1096 = .ok (.aload_n 1, 1) := by decide +kernel
theorem dL_law_1097 : decode cL_law 1097 = .ok (.aload_n 0, 1) := by decide +kernel
theorem dL_law_1098 : decode cL_law 1098 = .ok (.iload_n 3, 1) := by decide +kernel
theorem dL_law_1099 : decode cL_law 1099 = .ok (.iconst 1, 1) := by decide +kernel
theorem dL_law_1100 : decode cL_law 1100 = .ok (.iadd, 1) := by decide +kernel
theorem dL_law_1101 : decode cL_law 1101 = .ok (.iaload, 1) := by decide +kernel
theorem dL_law_1102 : decode cL_law 1102 = .ok (.invokevirtual 127, 3) := by decide +kernel
theorem dL_law_1105 : decode cL_law 1105 = .ok (.aload_n 2, 1) := by decide +kernel
theorem dL_law_1106 : decode cL_law 1106 = .ok (.aload_n 0, 1) := by decide +kernel
theorem dL_law_1107 : decode cL_law 1107 = .ok (.iload_n 3, 1) := by decide +kernel
theorem dL_law_1108 : decode cL_law 1108 = .ok (.iconst 1, 1) := by decide +kernel
theorem dL_law_1109 : decode cL_law 1109 = .ok (.iadd, 1) := by decide +kernel
theorem dL_law_1110 : decode cL_law 1110 = .ok (.iaload, 1) := by decide +kernel
theorem dL_law_1111 : decode cL_law 1111 = .ok (.invokevirtual 130, 3) := by decide +kernel
theorem dL_law_1114 : decode cL_law 1114 = .ok (.if_icmp .eq 100, 3) := by decide +kernel
theorem dL_law_1117 : decode cL_law 1117 = .ok (.iconst 0, 1) := by decide +kernel
theorem dL_law_1118 : decode cL_law 1118 = .ok (.ireturn, 1) := by decide +kernel
theorem dL_law_1119 : decode cL_law 1119 = .ok (.aload_n 1, 1) := by decide +kernel
theorem dL_law_1120 : decode cL_law 1120 = .ok (.aload_n 0, 1) := by decide +kernel
theorem dL_law_1121 : decode cL_law 1121 = .ok (.iload_n 3, 1) := by decide +kernel
theorem dL_law_1122 : decode cL_law 1122 = .ok (.iconst 1, 1) := by decide +kernel
theorem dL_law_1123 : decode cL_law 1123 = .ok (.iadd, 1) := by decide +kernel
theorem dL_law_1124 : decode cL_law 1124 = .ok (.iaload, 1) := by decide +kernel
theorem dL_law_1125 : decode cL_law 1125 = .ok (.invokevirtual 131, 3) := by decide +kernel
theorem dL_law_1128 : decode cL_law 1128 = .ok (.aload_n 2, 1) := by decide +kernel
theorem dL_law_1129 : decode cL_law 1129 = .ok (.aload_n 0, 1) := by decide +kernel
theorem dL_law_1130 : decode cL_law 1130 = .ok (.iload_n 3, 1) := by decide +kernel
theorem dL_law_1131 : decode cL_law 1131 = .ok (.iconst 1, 1) := by decide +kernel
theorem dL_law_1132 : decode cL_law 1132 = .ok (.iadd, 1) := by decide +kernel
theorem dL_law_1133 : decode cL_law 1133 = .ok (.iaload, 1) := by decide +kernel
theorem dL_law_1134 : decode cL_law 1134 = .ok (.invokevirtual 134, 3) := by decide +kernel
theorem dL_law_1137 : decode cL_law 1137 = .ok (.if_icmp .eq 77, 3) := by decide +kernel
theorem dL_law_1140 : decode cL_law 1140 = .ok (.iconst 0, 1) := by decide +kernel
theorem dL_law_1141 : decode cL_law 1141 = .ok (.ireturn, 1) := by decide +kernel
theorem dL_law_1142 : decode cL_law 1142 = .ok (.aload_n 1, 1) := by decide +kernel
theorem dL_law_1143 : decode cL_law 1143 = .ok (.invokevirtual 135, 3) := by decide +kernel
theorem dL_law_1146 : decode cL_law 1146 = .ok (.aload_n 2, 1) := by decide +kernel
theorem dL_law_1147 : decode cL_law 1147 = .ok (.invokevirtual 138, 3) := by decide +kernel
theorem dL_law_1150 : decode cL_law 1150 = .ok (.if_icmp .eq 64, 3) := by decide +kernel
theorem dL_law_1153 : decode cL_law 1153 = .ok (.iconst 0, 1) := by decide +kernel
theorem dL_law_1154 : decode cL_law 1154 = .ok (.ireturn, 1) := by decide +kernel
theorem dL_law_1155 : decode cL_law 1155 = .ok (.aload_n 1, 1) := by decide +kernel
theorem dL_law_1156 : decode cL_law 1156 = .ok (.invokevirtual 139, 3) := by decide +kernel
theorem dL_law_1159 : decode cL_law 1159 = .ok (.aload_n 2, 1) := by decide +kernel
theorem dL_law_1160 : decode cL_law 1160 = .ok (.invokevirtual 143, 3) := by decide +kernel
theorem dL_law_1163 : decode cL_law 1163 = .ok (.if_icmp .eq 51, 3) := by decide +kernel
theorem dL_law_1166 : decode cL_law 1166 = .ok (.iconst 0, 1) := by decide +kernel
theorem dL_law_1167 : decode cL_law 1167 = .ok (.ireturn, 1) := by decide +kernel
theorem dL_law_1168 : decode cL_law 1168 = .ok (.aload_n 1, 1) := by decide +kernel
theorem dL_law_1169 : decode cL_law 1169 = .ok (.aload_n 0, 1) := by decide +kernel
theorem dL_law_1170 : decode cL_law 1170 = .ok (.iload_n 3, 1) := by decide +kernel
theorem dL_law_1171 : decode cL_law 1171 = .ok (.iconst 1, 1) := by decide +kernel
theorem dL_law_1172 : decode cL_law 1172 = .ok (.iadd, 1) := by decide +kernel
theorem dL_law_1173 : decode cL_law 1173 = .ok (.iaload, 1) := by decide +kernel
theorem dL_law_1174 : decode cL_law 1174 = .ok (.invokevirtual 144, 3) := by decide +kernel
theorem dL_law_1177 : decode cL_law 1177 = .ok (.aload_n 2, 1) := by decide +kernel
theorem dL_law_1178 : decode cL_law 1178 = .ok (.aload_n 0, 1) := by decide +kernel
theorem dL_law_1179 : decode cL_law 1179 = .ok (.iload_n 3, 1) := by decide +kernel
theorem dL_law_1180 : decode cL_law 1180 = .ok (.iconst 1, 1) := by decide +kernel
theorem dL_law_1181 : decode cL_law 1181 = .ok (.iadd, 1) := by decide +kernel
theorem dL_law_1182 : decode cL_law 1182 = .ok (.iaload, 1) := by decide +kernel
theorem dL_law_1183 : decode cL_law 1183 = .ok (.invokevirtual 147, 3) := by decide +kernel
theorem dL_law_1186 : decode cL_law 1186 = .ok (.if_icmp .eq 28, 3) := by decide +kernel
theorem dL_law_1189 : decode cL_law 1189 = .ok (.iconst 0, 1) := by decide +kernel
theorem dL_law_1190 : decode cL_law 1190 = .ok (.ireturn, 1) := by decide +kernel
theorem dL_law_1191 : decode cL_law 1191 = .ok (.aload_n 1, 1) := by decide +kernel
theorem dL_law_1192 : decode cL_law 1192 = .ok (.aload_n 0, 1) := by decide +kernel
theorem dL_law_1193 : decode cL_law 1193 = .ok (.iload_n 3, 1) := by decide +kernel
theorem dL_law_1194 : decode cL_law 1194 = .ok (.iconst 1, 1) := by decide +kernel
theorem dL_law_1195 : decode cL_law 1195 = .ok (.iadd, 1) := by decide +kernel
theorem dL_law_1196 : decode cL_law 1196 = .ok (.iaload, 1) := by decide +kernel
theorem dL_law_1197 : decode cL_law 1197 = .ok (.invokevirtual 148, 3) := by decide +kernel
theorem dL_law_1200 : decode cL_law 1200 = .ok (.aload_n 2, 1) := by decide +kernel
theorem dL_law_1201 : decode cL_law 1201 = .ok (.aload_n 0, 1) := by decide +kernel
theorem dL_law_1202 : decode cL_law 1202 = .ok (.iload_n 3, 1) := by decide +kernel
theorem dL_law_1203 : decode cL_law 1203 = .ok (.iconst 1, 1) := by decide +kernel
theorem dL_law_1204 : decode cL_law 1204 = .ok (.iadd, 1) := by decide +kernel
theorem dL_law_1205 : decode cL_law 1205 = .ok (.iaload, 1) := by decide +kernel
theorem dL_law_1206 : decode cL_law 1206 = .ok (.invokevirtual 151, 3) := by decide +kernel
theorem dL_law_1209 : decode cL_law 1209 = .ok (.if_icmp .eq 5, 3) := by decide +kernel
theorem dL_law_1212 : decode cL_law 1212 = .ok (.iconst 0, 1) := by decide +kernel
theorem dL_law_1213 : decode cL_law 1213 = .ok (.ireturn, 1) := by decide +kernel
theorem dL_law_1214 : decode cL_law 1214 = .ok (.iinc 3 6, 3) := by decide +kernel
theorem dL_law_1217 : decode cL_law 1217 = .ok (.goto (-1199), 3) := by decide +kernel
theorem dL_law_1220 : decode cL_law 1220 = .ok (.iconst 1, 1) := by decide +kernel
theorem dL_law_1221 : decode cL_law 1221 = .ok (.ireturn, 1) := by decide +kernel
def mL_law : MR := (yL_law, cL_law, 4, some .boolean)
/-! ===== making the cells: the shape is always the first L of SH ===== -/
def gz (g : Nat → Nat → Option Nat) (L : Nat) : Nat → Nat → Option Nat := fun a => if a = L then (fun _ => none) else g a
def fz (f : FF) (L : Nat) : FF := fun a => if a = L then (fun _ => 0) else f a
section WT
variable {G : GC} {M M' : MR} {d k n k' n' pc L : Nat} {ls ls' st As : List Value} {g : Nat → Nat → Option Nat} {f : FF} {Q : Option Value → HP → Prop}
theorem sh_lt {q : Nat × Nat} (hL : SH[L]? = some q) : L < SH.length := (List.getElem?_eq_some_iff.mp hL).1
theorem sh_len {q : Nat × Nat} (hL : SH[L]? = some q) : (SH.take L).length = L := by
  have := sh_lt hL
  rw [List.length_take]; omega
theorem sh_push {q : Nat × Nat} (hL : SH[L]? = some q) : hpush (SH.take L, g, f) q = (SH.take (L + 1), gz g L, fz f L) := by
  unfold hpush gz fz
  have e := sh_len hL
  simp only [e]
  rw [List.take_add_one, hL]
  rfl
theorem wt_newi {x : Int32} {N : Nat} (hd : decode (mC M) pc = .ok (.newarray .int, 2)) (hL : SH[L]? = some (0, N)) (hx : ¬ x < 0) (hN : x.toNatClampNeg = N) (hb : N ≤ 100000) (kk : WP G M d k n (pc + 2) ls (.ref L :: st) (SH.take (L + 1), gz g L, fz f L) Q) : WP G M d (k + 1) (n + N) pc ls (.int x :: st) (SH.take L, g, f) Q := by
  refine wp_newi hd ai_ok hx hN hb ?_
  rw [sh_push hL]
  show WP G M d k n (pc + 2) ls (.ref (SH.take L).length :: st) _ Q
  rw [sh_len hL]
  exact kk
theorem wt_newb {x : Int32} {N : Nat} (hd : decode (mC M) pc = .ok (.newarray .byte, 2)) (hL : SH[L]? = some (1, N)) (hx : ¬ x < 0) (hN : x.toNatClampNeg = N) (hb : N ≤ 100000) (kk : WP G M d k n (pc + 2) ls (.ref L :: st) (SH.take (L + 1), gz g L, fz f L) Q) : WP G M d (k + 1) (n + N) pc ls (.int x :: st) (SH.take L, g, f) Q := by
  refine wp_newb hd ab_ok hx hN hb ?_
  rw [sh_push hL]
  show WP G M d k n (pc + 2) ls (.ref (SH.take L).length :: st) _ Q
  rw [sh_len hL]
  exact kk
theorem wt_new {idx c N : Nat} {C : String} {T : u_T} (hd : decode (mC M) pc = .ok (.new idx, 3)) (hc : vwCl[c]? = some (C, T, nF c)) (hN : nF c = N) (hL : SH[L]? = some (c + 2, nF c)) (hl : Cond.classLink (mY M).cls idx C ∈ Tg) (hi : Cond.instantiable C (nF c) ∈ Tg) (hn : Cond.initialized C ∈ Tg) (kk : WP G M d k n (pc + 3) ls (.ref L :: st) (SH.take (L + 1), gz g L, fz f L) Q) : WP G M d (k + 1) (n + N) pc ls st (SH.take L, g, f) Q := by
  subst hN
  refine wp_new hd hc hl hi hn ?_
  rw [sh_push hL]
  show WP G M d k n (pc + 3) ls (.ref (SH.take L).length :: st) _ Q
  rw [sh_len hL]
  exact kk
theorem sh_in {i : Nat} {q : Nat × Nat} (hi : i < L) (hs : SH[i]? = some q) : (SH.take L)[i]? = some q := by rw [List.getElem?_take_of_lt hi]; exact hs
theorem wt_putr {idx c j i r : Nat} (hd : decode (mC M) pc = .ok (.putfield idx, 3)) (hl : FLp (mY M).cls idx c j ∨ (FLf (mY M).cls idx c j ∧ (mY M).name = "<init>")) (hi : i < L) (hs : SH[i]? = some (c + 2, nF c)) (ht : isR (tyAll c j) = true) (kk : WP G M d k n (pc + 3) ls st (SH.take L, upr2 g i j (some r), f) Q) : WP G M d k n pc ls (.ref r :: .ref i :: st) (SH.take L, g, f) Q := wp_putr hd hl (sh_in hi hs) ht kk
theorem wt_puti {idx c j i : Nat} {x : Int32} (hd : decode (mC M) pc = .ok (.putfield idx, 3)) (hl : FLp (mY M).cls idx c j) (hi : i < L) (hs : SH[i]? = some (c + 2, nF c)) (ht : tyAll c j = .int) (kk : WP G M d k n (pc + 3) ls st (SH.take L, g, upd2 f i j x) Q) : WP G M d k n pc ls (.int x :: .ref i :: st) (SH.take L, g, f) Q := wp_puti hd hl (sh_in hi hs) ht kk
theorem wt_getr {idx c j i r : Nat} (hd : decode (mC M) pc = .ok (.getfield idx, 3)) (hl : FLk (mY M).cls idx c j) (hi : i < L) (hs : SH[i]? = some (c + 2, nF c)) (ht : isR (tyAll c j) = true) (hr : g i j = some r) (kk : WP G M d k n (pc + 3) ls (.ref r :: st) (SH.take L, g, f) Q) : WP G M d k n pc ls (.ref i :: st) (SH.take L, g, f) Q := wp_getr hd hl (sh_in hi hs) ht hr kk
theorem wt_iast {i N j : Nat} {x z : Int32} (hd : decode (mC M) pc = .ok (.iastore, 1)) (hi : i < L) (hs : SH[i]? = some (0, N)) (hx : vp_in x N) (hj : x.toNatClampNeg = j) (kk : WP G M d k n (pc + 1) ls st (SH.take L, g, upd2 f i j z) Q) : WP G M d k n pc ls (.int z :: .int x :: .ref i :: st) (SH.take L, g, f) Q := by
  subst hj
  exact wp_iast hd (sh_in hi hs) hx kk
theorem wt_call {i : Nat} (hr0 : mR M' = none) (hn : As.length + 1 ≤ mL M') (hls : ls' = (.ref i :: As) ++ List.replicate (mL M' - (As.length + 1)) .null) : True := trivial
end WT

/-- what the constructors leave -/
def gC : Nat → Nat → Option Nat := upr2 (gz (upr2 (gz (upr2 (gz (upr2 (gz (upr2 (gz (upr2 (gz (upr2 (gz (upr2 (gz (upr2 (gz (upr2 (gz (upr2 (gz (upr2 (gz (upr2 (gz (upr2 (gz (upr2 (gz (upr2 (gz (upr2 (gz (upr2 (gz (upr2 (gz (upr2 (gz (upr2 (gz (upr2 (gz (upr2 (gz (upr2 (gz (upr2 (gz (upr2 (gz (upr2 (gz (upr2 (gz (upr2 (gz (upr2 (gz (upr2 (gz (gz (upr2 (upr2 (gz (upr2 (gz (upr2 (gz (upr2 (gz (upr2 (gz (upr2 (gz (upr2 (gz (upr2 (gz (upr2 (gz (upr2 (gz (upr2 (gz (upr2 (gz (gz (upr2 (upr2 (gz (upr2 (gz (upr2 (gz (upr2 (gz (upr2 (gz (upr2 (gz (upr2 (gz (upr2 (gz (upr2 (gz (upr2 (gz (upr2 (gz (upr2 (gz (gz (upr2 (upr2 (gz (upr2 (gz (upr2 (gz (upr2 (gz (upr2 (gz (upr2 (gz (upr2 (gz (upr2 (gz (upr2 (gz (upr2 (gz (upr2 (gz (upr2 (gz (gz (upr2 (upr2 (upr2 (upr2 (gz (upr2 (gz (upr2 (gz (upr2 (gz (upr2 (gz (upr2 (gz (gz (upr2 (upr2 (gz (upr2 (gz (gz (gz (upr2 (upr2 (upr2 (upr2 (gz (upr2 (gz (upr2 (gz (upr2 (gz (upr2 (gz (upr2 (gz (gz (gz (upr2 (upr2 (upr2 (gz (upr2 (gz (upr2 (gz (gz (upr2 (upr2 (upr2 (gz (upr2 (gz (upr2 (gz (upr2 (gz (upr2 (gz (gz (upr2 (upr2 (upr2 (gz (upr2 (gz (gz (upr2 (upr2 (gz (upr2 (gz (upr2 (gz (upr2 (gz (upr2 (gz (upr2 (gz (upr2 (gz (gz (upr2 (upr2 (gz (gz (gz (fun _ _ => none : Nat → Nat → Option Nat) 0) 1) 2) 1 0 (some 2)) 0 0 (some 1)) 3) 4) 3 0 (some 4)) 5) 3 1 (some 5)) 6) 3 2 (some 6)) 7) 3 3 (some 7)) 8) 3 4 (some 8)) 9) 3 5 (some 9)) 10) 3 6 (some 10)) 0 1 (some 3)) 11) 12) 11 1 (some 12)) 13) 11 2 (some 13)) 11 0 (some 1)) 0 2 (some 11)) 14) 15) 14 1 (some 15)) 16) 14 2 (some 16)) 17) 14 3 (some 17)) 18) 14 4 (some 18)) 19) 14 5 (some 19)) 14 0 (some 1)) 0 3 (some 14)) 20) 21) 20 1 (some 21)) 22) 20 2 (some 22)) 23) 20 3 (some 23)) 20 0 (some 1)) 0 4 (some 20)) 24) 25) 26) 25 2 (some 26)) 27) 25 3 (some 27)) 28) 25 4 (some 28)) 29) 25 5 (some 29)) 30) 25 6 (some 30)) 31) 25 7 (some 31)) 24 1 (some 25)) 24 0 (some 1)) 0 5 (some 24)) 32) 33) 34) 33 0 (some 34)) 35) 33 1 (some 35)) 32 1 (some 33)) 36) 37) 36 2 (some 37)) 38) 36 3 (some 38)) 39) 36 4 (some 39)) 40) 36 5 (some 40)) 41) 36 6 (some 41)) 42) 36 7 (some 42)) 32 2 (some 36)) 32 0 (some 3)) 0 6 (some 32)) 43) 44) 43 8 (some 44)) 45) 43 9 (some 45)) 46) 43 10 (some 46)) 47) 43 11 (some 47)) 48) 43 12 (some 48)) 49) 43 13 (some 49)) 50) 43 14 (some 50)) 51) 43 15 (some 51)) 52) 43 16 (some 52)) 53) 43 17 (some 53)) 54) 43 18 (some 54)) 55) 43 19 (some 55)) 0 7 (some 43)) 56) 57) 56 8 (some 57)) 58) 56 9 (some 58)) 59) 56 10 (some 59)) 60) 56 11 (some 60)) 61) 56 12 (some 61)) 62) 56 13 (some 62)) 63) 56 14 (some 63)) 64) 56 15 (some 64)) 65) 56 16 (some 65)) 66) 56 17 (some 66)) 67) 56 18 (some 67)) 68) 56 19 (some 68)) 0 8 (some 56)) 69) 70) 69 8 (some 70)) 71) 69 9 (some 71)) 72) 69 10 (some 72)) 73) 69 11 (some 73)) 74) 69 12 (some 74)) 75) 69 13 (some 75)) 76) 69 14 (some 76)) 77) 69 15 (some 77)) 78) 69 16 (some 78)) 79) 69 17 (some 79)) 80) 69 18 (some 80)) 81) 69 19 (some 81)) 0 9 (some 69)) 82) 83) 82 0 (some 83)) 84) 82 1 (some 84)) 85) 82 2 (some 85)) 86) 82 3 (some 86)) 87) 82 6 (some 87)) 88) 82 7 (some 88)) 89) 82 8 (some 89)) 90) 82 9 (some 90)) 91) 82 20 (some 91)) 92) 82 21 (some 92)) 93) 82 22 (some 93)) 94) 82 23 (some 94)) 95) 82 24 (some 95)) 96) 82 25 (some 96)) 97) 82 26 (some 97)) 98) 82 27 (some 98)) 99) 82 28 (some 99)) 100) 82 29 (some 100)) 101) 82 30 (some 101)) 102) 82 31 (some 102)) 103) 82 32 (some 103)) 104) 82 37 (some 104)) 105) 82 38 (some 105)) 106) 82 39 (some 106)) 107) 82 40 (some 107)) 108) 82 41 (some 108)) 109) 82 42 (some 109)) 110) 82 43 (some 110)) 111) 82 44 (some 111)) 112) 82 45 (some 112)) 113) 82 46 (some 113)
def fC : FF := upd2 (upd2 (upd2 (fz (fz (fz (fz (fz (fz (fz (fz (fz (fz (fz (fz (fz (fz (fz (fz (fz (fz (fz (fz (fz (fz (fz (fz (fz (fz (fz (fz (fz (fz (fz (fz (fz (fz (fz (fz (fz (fz (fz (fz (fz (fz (fz (fz (upd2 (fz (fz (fz (fz (fz (fz (fz (fz (fz (fz (fz (fz (fz (upd2 (fz (fz (fz (fz (fz (fz (fz (fz (fz (fz (fz (fz (fz (upd2 (fz (upd2 (upd2 (fz (fz (fz (fz (fz (fz (fz (fz (fz (fz (fz (fz (fz (fz (fz (fz (fz (fz (fz (fz (fz (fz (fz (fz (fz (fz (fz (fz (fz (fz (fz (fz (fz (fz (fz (fz (fz (fz (fz (fz (fz (fz (fz (fun _ _ => 0 : FF) 0) 1) 2) 3) 4) 5) 6) 7) 8) 9) 10) 11) 12) 13) 14) 15) 16) 17) 18) 19) 20) 21) 22) 23) 24) 25) 26) 27) 28) 29) 30) 31) 32) 33) 34) 35) 36) 37) 38) 39) 40) 41) 42) 32 3 1) 32 4 1) 43) 43 7 1) 44) 45) 46) 47) 48) 49) 50) 51) 52) 53) 54) 55) 56) 56 7 1) 57) 58) 59) 60) 61) 62) 63) 64) 65) 66) 67) 68) 69) 69 7 1) 70) 71) 72) 73) 74) 75) 76) 77) 78) 79) 80) 81) 82) 83) 84) 85) 86) 87) 88) 89) 90) 91) 92) 93) 94) 95) 96) 97) 98) 99) 100) 101) 102) 103) 104) 105) 106) 107) 108) 109) 110) 111) 112) 113) 83 390 1) 82 4 1) 82 5 1
set_option maxRecDepth 20000 in
theorem law_init {G : GC} {Q : Option Value → HP → Prop} (kk : WP G mL_law 1000 0 0 16 [.retAddr 0, .ref 0, .ref 82, .null] [] (SH.take 114, gC, fC) Q) : WP G mL_law 1000 114 8101 0 [.retAddr 0, .null, .null, .null] [] (SH.take 0, fun _ _ => none, fun _ _ => 0) Q := by
  refine wt_new (M := mL_law) (pc := 0) (k := 113) (n := 8090) (L := 0) (c := 10) (N := 11) dL_law_0 rfl rfl sh0 eL_7 i10_ok z10_ok ?_
  refine wp_dup (M := mL_law) (pc := 3) dL_law_3 ?_
  refine wp_callI (M := mL_law) (pc := 4) (M' := mX10_init) (d := 999) (k := 81) (n := 3466) (k' := 32) (n' := 4624) (As := []) (st := [.ref 0]) (ls' := [.ref 0]) dL_law_4 oX10_init rfl rfl nX10_init lL_9 vX10_init (Nat.le_of_ble_eq_true rfl) rfl (Nat.le_of_ble_eq_true rfl) ?_
  refine wp_aload_n (M := mX10_init) (pc := 0) dX10_init_0 rfl rfl ?_
  refine wp_objInit (M := mX10_init) (pc := 1) dX10_init_1 lX10_1 oi_v oi_c (Nat.le_of_ble_eq_true rfl) ?_
  refine wp_aload_n (M := mX10_init) (pc := 4) dX10_init_4 rfl rfl ?_
  refine wt_new (M := mX10_init) (pc := 5) (k := 80) (n := 3460) (L := 1) (c := 8) (N := 6) dX10_init_5 rfl rfl sh1 eX10_7 i8_ok z8_ok ?_
  refine wp_dup (M := mX10_init) (pc := 8) dX10_init_8 ?_
  refine wp_callIN (M := mX10_init) (pc := 9) (M' := mX8_init) (d := 998) (k := 1) (n := 260) (k' := 79) (n' := 3200) (As := []) (st := [.ref 1, .ref 0]) (ls' := [.ref 1]) dX10_init_9 oX8_init rfl rfl nX8_init hX10_9 vX8_init (Nat.le_of_ble_eq_true rfl) rfl (Nat.le_of_ble_eq_true rfl) ?_
  refine wp_aload_n (M := mX8_init) (pc := 0) dX8_init_0 rfl rfl ?_
  refine wp_objInit (M := mX8_init) (pc := 1) dX8_init_1 lX8_3 oi_v oi_c (Nat.le_of_ble_eq_true rfl) ?_
  refine wp_aload_n (M := mX8_init) (pc := 4) dX8_init_4 rfl rfl ?_
  refine wp_sipush (M := mX8_init) (pc := 5) dX8_init_5 (by decide : _ = (260 : Int32)) ?_
  refine wt_newi (M := mX8_init) (pc := 8) (k := 0) (n := 0) (L := 2) (N := 260) dX8_init_8 sh2 (by decide) (by decide) (by decide) ?_
  refine wt_putr (M := mX8_init) (pc := 10) dX8_init_10 (Or.inr ⟨qX8_9, rfl⟩) (by decide) sh1 rfl ?_
  refine wp_ret (M := mX8_init) (pc := 13) dX8_init_13 rfl ?_
  refine wt_putr (M := mX10_init) (pc := 12) dX10_init_12 (Or.inr ⟨qX10_10, rfl⟩) (by decide) sh0 rfl ?_
  refine wp_aload_n (M := mX10_init) (pc := 15) dX10_init_15 rfl rfl ?_
  refine wt_new (M := mX10_init) (pc := 16) (k := 78) (n := 3193) (L := 3) (c := 3) (N := 7) dX10_init_16 rfl rfl sh3 eX10_16 i3_ok z3_ok ?_
  refine wp_dup (M := mX10_init) (pc := 19) dX10_init_19 ?_
  refine wp_callIN (M := mX10_init) (pc := 20) (M' := mX3_init) (d := 998) (k := 7) (n := 224) (k' := 71) (n' := 2969) (As := []) (st := [.ref 3, .ref 0]) (ls' := [.ref 3]) dX10_init_20 oX3_init rfl rfl nX3_init hX10_18 vX3_init (Nat.le_of_ble_eq_true rfl) rfl (Nat.le_of_ble_eq_true rfl) ?_
  refine wp_aload_n (M := mX3_init) (pc := 0) dX3_init_0 rfl rfl ?_
  refine wp_objInit (M := mX3_init) (pc := 1) dX3_init_1 lX3_3 oi_v oi_c (Nat.le_of_ble_eq_true rfl) ?_
  refine wp_aload_n (M := mX3_init) (pc := 4) dX3_init_4 rfl rfl ?_
  refine wp_bipush (M := mX3_init) (pc := 5) dX3_init_5 (by decide : _ = (64 : Int32)) ?_
  refine wt_newi (M := mX3_init) (pc := 7) (k := 6) (n := 160) (L := 4) (N := 64) dX3_init_7 sh4 (by decide) (by decide) (by decide) ?_
  refine wt_putr (M := mX3_init) (pc := 9) dX3_init_9 (Or.inr ⟨qX3_9, rfl⟩) (by decide) sh3 rfl ?_
  refine wp_aload_n (M := mX3_init) (pc := 12) dX3_init_12 rfl rfl ?_
  refine wp_bipush (M := mX3_init) (pc := 13) dX3_init_13 (by decide : _ = (8 : Int32)) ?_
  refine wt_newi (M := mX3_init) (pc := 15) (k := 5) (n := 152) (L := 5) (N := 8) dX3_init_15 sh5 (by decide) (by decide) (by decide) ?_
  refine wt_putr (M := mX3_init) (pc := 17) dX3_init_17 (Or.inr ⟨qX3_15, rfl⟩) (by decide) sh3 rfl ?_
  refine wp_aload_n (M := mX3_init) (pc := 20) dX3_init_20 rfl rfl ?_
  refine wp_bipush (M := mX3_init) (pc := 21) dX3_init_21 (by decide : _ = (64 : Int32)) ?_
  refine wt_newi (M := mX3_init) (pc := 23) (k := 4) (n := 88) (L := 6) (N := 64) dX3_init_23 sh6 (by decide) (by decide) (by decide) ?_
  refine wt_putr (M := mX3_init) (pc := 25) dX3_init_25 (Or.inr ⟨qX3_18, rfl⟩) (by decide) sh3 rfl ?_
  refine wp_aload_n (M := mX3_init) (pc := 28) dX3_init_28 rfl rfl ?_
  refine wp_bipush (M := mX3_init) (pc := 29) dX3_init_29 (by decide : _ = (64 : Int32)) ?_
  refine wt_newi (M := mX3_init) (pc := 31) (k := 3) (n := 24) (L := 7) (N := 64) dX3_init_31 sh7 (by decide) (by decide) (by decide) ?_
  refine wt_putr (M := mX3_init) (pc := 33) dX3_init_33 (Or.inr ⟨qX3_21, rfl⟩) (by decide) sh3 rfl ?_
  refine wp_aload_n (M := mX3_init) (pc := 36) dX3_init_36 rfl rfl ?_
  refine wp_bipush (M := mX3_init) (pc := 37) dX3_init_37 (by decide : _ = (8 : Int32)) ?_
  refine wt_newi (M := mX3_init) (pc := 39) (k := 2) (n := 16) (L := 8) (N := 8) dX3_init_39 sh8 (by decide) (by decide) (by decide) ?_
  refine wt_putr (M := mX3_init) (pc := 41) dX3_init_41 (Or.inr ⟨qX3_24, rfl⟩) (by decide) sh3 rfl ?_
  refine wp_aload_n (M := mX3_init) (pc := 44) dX3_init_44 rfl rfl ?_
  refine wp_bipush (M := mX3_init) (pc := 45) dX3_init_45 (by decide : _ = (8 : Int32)) ?_
  refine wt_newi (M := mX3_init) (pc := 47) (k := 1) (n := 8) (L := 9) (N := 8) dX3_init_47 sh9 (by decide) (by decide) (by decide) ?_
  refine wt_putr (M := mX3_init) (pc := 49) dX3_init_49 (Or.inr ⟨qX3_27, rfl⟩) (by decide) sh3 rfl ?_
  refine wp_aload_n (M := mX3_init) (pc := 52) dX3_init_52 rfl rfl ?_
  refine wp_bipush (M := mX3_init) (pc := 53) dX3_init_53 (by decide : _ = (8 : Int32)) ?_
  refine wt_newi (M := mX3_init) (pc := 55) (k := 0) (n := 0) (L := 10) (N := 8) dX3_init_55 sh10 (by decide) (by decide) (by decide) ?_
  refine wt_putr (M := mX3_init) (pc := 57) dX3_init_57 (Or.inr ⟨qX3_30, rfl⟩) (by decide) sh3 rfl ?_
  refine wp_ret (M := mX3_init) (pc := 60) dX3_init_60 rfl ?_
  refine wt_putr (M := mX10_init) (pc := 23) dX10_init_23 (Or.inr ⟨qX10_19, rfl⟩) (by decide) sh0 rfl ?_
  refine wp_aload_n (M := mX10_init) (pc := 26) dX10_init_26 rfl rfl ?_
  refine wt_new (M := mX10_init) (pc := 27) (k := 70) (n := 2966) (L := 11) (c := 4) (N := 3) dX10_init_27 rfl rfl sh11 eX10_23 i4_ok z4_ok ?_
  refine wp_dup (M := mX10_init) (pc := 30) dX10_init_30 ?_
  refine wp_aload_n (M := mX10_init) (pc := 31) dX10_init_31 rfl rfl ?_
  refine wt_getr (M := mX10_init) (pc := 32) (r := 1) dX10_init_32 fX10_10 (by decide) sh0 rfl (by decide +kernel) ?_
  refine wp_callI (M := mX10_init) (pc := 35) (M' := mX4_init) (d := 998) (k := 2) (n := 117) (k' := 68) (n' := 2849) (As := [.ref 1]) (st := [.ref 11, .ref 0]) (ls' := [.ref 11, .ref 1]) dX10_init_35 oX4_init rfl rfl nX4_init lX10_25 vX4_init (Nat.le_of_ble_eq_true rfl) rfl (Nat.le_of_ble_eq_true rfl) ?_
  refine wp_aload_n (M := mX4_init) (pc := 0) dX4_init_0 rfl rfl ?_
  refine wp_objInit (M := mX4_init) (pc := 1) dX4_init_1 lX4_3 oi_v oi_c (Nat.le_of_ble_eq_true rfl) ?_
  refine wp_aload_n (M := mX4_init) (pc := 4) dX4_init_4 rfl rfl ?_
  refine wp_bipush (M := mX4_init) (pc := 5) dX4_init_5 (by decide : _ = (108 : Int32)) ?_
  refine wt_newi (M := mX4_init) (pc := 7) (k := 1) (n := 9) (L := 12) (N := 108) dX4_init_7 sh12 (by decide) (by decide) (by decide) ?_
  refine wt_putr (M := mX4_init) (pc := 9) dX4_init_9 (Or.inr ⟨qX4_9, rfl⟩) (by decide) sh11 rfl ?_
  refine wp_aload_n (M := mX4_init) (pc := 12) dX4_init_12 rfl rfl ?_
  refine wp_bipush (M := mX4_init) (pc := 13) dX4_init_13 (by decide : _ = (9 : Int32)) ?_
  refine wt_newi (M := mX4_init) (pc := 15) (k := 0) (n := 0) (L := 13) (N := 9) dX4_init_15 sh13 (by decide) (by decide) (by decide) ?_
  refine wt_putr (M := mX4_init) (pc := 17) dX4_init_17 (Or.inr ⟨qX4_15, rfl⟩) (by decide) sh11 rfl ?_
  refine wp_aload_n (M := mX4_init) (pc := 20) dX4_init_20 rfl rfl ?_
  refine wp_aload_n (M := mX4_init) (pc := 21) dX4_init_21 rfl rfl ?_
  refine wt_putr (M := mX4_init) (pc := 22) dX4_init_22 (Or.inr ⟨qX4_18, rfl⟩) (by decide) sh11 rfl ?_
  refine wp_ret (M := mX4_init) (pc := 25) dX4_init_25 rfl ?_
  refine wt_putr (M := mX10_init) (pc := 38) dX10_init_38 (Or.inr ⟨qX10_28, rfl⟩) (by decide) sh0 rfl ?_
  refine wp_aload_n (M := mX10_init) (pc := 41) dX10_init_41 rfl rfl ?_
  refine wt_new (M := mX10_init) (pc := 42) (k := 67) (n := 2843) (L := 14) (c := 6) (N := 6) dX10_init_42 rfl rfl sh14 eX10_32 i6_ok z6_ok ?_
  refine wp_dup (M := mX10_init) (pc := 45) dX10_init_45 ?_
  refine wp_aload_n (M := mX10_init) (pc := 46) dX10_init_46 rfl rfl ?_
  refine wt_getr (M := mX10_init) (pc := 47) (r := 1) dX10_init_47 fX10_10 (by decide) sh0 rfl (by decide +kernel) ?_
  refine wp_callI (M := mX10_init) (pc := 50) (M' := mX6_init) (d := 998) (k := 5) (n := 315) (k' := 62) (n' := 2528) (As := [.ref 1]) (st := [.ref 14, .ref 0]) (ls' := [.ref 14, .ref 1]) dX10_init_50 oX6_init rfl rfl nX6_init lX10_34 vX6_init (Nat.le_of_ble_eq_true rfl) rfl (Nat.le_of_ble_eq_true rfl) ?_
  refine wp_aload_n (M := mX6_init) (pc := 0) dX6_init_0 rfl rfl ?_
  refine wp_objInit (M := mX6_init) (pc := 1) dX6_init_1 lX6_3 oi_v oi_c (Nat.le_of_ble_eq_true rfl) ?_
  refine wp_aload_n (M := mX6_init) (pc := 4) dX6_init_4 rfl rfl ?_
  refine wp_bipush (M := mX6_init) (pc := 5) dX6_init_5 (by decide : _ = (16 : Int32)) ?_
  refine wt_newi (M := mX6_init) (pc := 7) (k := 4) (n := 299) (L := 15) (N := 16) dX6_init_7 sh15 (by decide) (by decide) (by decide) ?_
  refine wt_putr (M := mX6_init) (pc := 9) dX6_init_9 (Or.inr ⟨qX6_9, rfl⟩) (by decide) sh14 rfl ?_
  refine wp_aload_n (M := mX6_init) (pc := 12) dX6_init_12 rfl rfl ?_
  refine wp_bipush (M := mX6_init) (pc := 13) dX6_init_13 (by decide : _ = (16 : Int32)) ?_
  refine wt_newi (M := mX6_init) (pc := 15) (k := 3) (n := 283) (L := 16) (N := 16) dX6_init_15 sh16 (by decide) (by decide) (by decide) ?_
  refine wt_putr (M := mX6_init) (pc := 17) dX6_init_17 (Or.inr ⟨qX6_15, rfl⟩) (by decide) sh14 rfl ?_
  refine wp_aload_n (M := mX6_init) (pc := 20) dX6_init_20 rfl rfl ?_
  refine wp_bipush (M := mX6_init) (pc := 21) dX6_init_21 (by decide : _ = (16 : Int32)) ?_
  refine wt_newi (M := mX6_init) (pc := 23) (k := 2) (n := 267) (L := 17) (N := 16) dX6_init_23 sh17 (by decide) (by decide) (by decide) ?_
  refine wt_putr (M := mX6_init) (pc := 25) dX6_init_25 (Or.inr ⟨qX6_18, rfl⟩) (by decide) sh14 rfl ?_
  refine wp_aload_n (M := mX6_init) (pc := 28) dX6_init_28 rfl rfl ?_
  refine wp_sipush (M := mX6_init) (pc := 29) dX6_init_29 (by decide : _ = (241 : Int32)) ?_
  refine wt_newi (M := mX6_init) (pc := 32) (k := 1) (n := 26) (L := 18) (N := 241) dX6_init_32 sh18 (by decide) (by decide) (by decide) ?_
  refine wt_putr (M := mX6_init) (pc := 34) dX6_init_34 (Or.inr ⟨qX6_21, rfl⟩) (by decide) sh14 rfl ?_
  refine wp_aload_n (M := mX6_init) (pc := 37) dX6_init_37 rfl rfl ?_
  refine wp_bipush (M := mX6_init) (pc := 38) dX6_init_38 (by decide : _ = (26 : Int32)) ?_
  refine wt_newi (M := mX6_init) (pc := 40) (k := 0) (n := 0) (L := 19) (N := 26) dX6_init_40 sh19 (by decide) (by decide) (by decide) ?_
  refine wt_putr (M := mX6_init) (pc := 42) dX6_init_42 (Or.inr ⟨qX6_24, rfl⟩) (by decide) sh14 rfl ?_
  refine wp_aload_n (M := mX6_init) (pc := 45) dX6_init_45 rfl rfl ?_
  refine wp_aload_n (M := mX6_init) (pc := 46) dX6_init_46 rfl rfl ?_
  refine wt_putr (M := mX6_init) (pc := 47) dX6_init_47 (Or.inr ⟨qX6_27, rfl⟩) (by decide) sh14 rfl ?_
  refine wp_ret (M := mX6_init) (pc := 50) dX6_init_50 rfl ?_
  refine wt_putr (M := mX10_init) (pc := 53) dX10_init_53 (Or.inr ⟨qX10_35, rfl⟩) (by decide) sh0 rfl ?_
  refine wp_aload_n (M := mX10_init) (pc := 56) dX10_init_56 rfl rfl ?_
  refine wt_new (M := mX10_init) (pc := 57) (k := 61) (n := 2523) (L := 20) (c := 0) (N := 5) dX10_init_57 rfl rfl sh20 eX10_39 i0_ok z0_ok ?_
  refine wp_dup (M := mX10_init) (pc := 60) dX10_init_60 ?_
  refine wp_aload_n (M := mX10_init) (pc := 61) dX10_init_61 rfl rfl ?_
  refine wt_getr (M := mX10_init) (pc := 62) (r := 1) dX10_init_62 fX10_10 (by decide) sh0 rfl (by decide +kernel) ?_
  refine wp_callI (M := mX10_init) (pc := 65) (M' := mX0_init) (d := 998) (k := 3) (n := 60) (k' := 58) (n' := 2463) (As := [.ref 1]) (st := [.ref 20, .ref 0]) (ls' := [.ref 20, .ref 1]) dX10_init_65 oX0_init rfl rfl nX0_init lX10_41 vX0_init (Nat.le_of_ble_eq_true rfl) rfl (Nat.le_of_ble_eq_true rfl) ?_
  refine wp_aload_n (M := mX0_init) (pc := 0) dX0_init_0 rfl rfl ?_
  refine wp_objInit (M := mX0_init) (pc := 1) dX0_init_1 lX0_3 oi_v oi_c (Nat.le_of_ble_eq_true rfl) ?_
  refine wp_aload_n (M := mX0_init) (pc := 4) dX0_init_4 rfl rfl ?_
  refine wp_bipush (M := mX0_init) (pc := 5) dX0_init_5 (by decide : _ = (20 : Int32)) ?_
  refine wt_newi (M := mX0_init) (pc := 7) (k := 2) (n := 40) (L := 21) (N := 20) dX0_init_7 sh21 (by decide) (by decide) (by decide) ?_
  refine wt_putr (M := mX0_init) (pc := 9) dX0_init_9 (Or.inr ⟨qX0_9, rfl⟩) (by decide) sh20 rfl ?_
  refine wp_aload_n (M := mX0_init) (pc := 12) dX0_init_12 rfl rfl ?_
  refine wp_bipush (M := mX0_init) (pc := 13) dX0_init_13 (by decide : _ = (20 : Int32)) ?_
  refine wt_newi (M := mX0_init) (pc := 15) (k := 1) (n := 20) (L := 22) (N := 20) dX0_init_15 sh22 (by decide) (by decide) (by decide) ?_
  refine wt_putr (M := mX0_init) (pc := 17) dX0_init_17 (Or.inr ⟨qX0_15, rfl⟩) (by decide) sh20 rfl ?_
  refine wp_aload_n (M := mX0_init) (pc := 20) dX0_init_20 rfl rfl ?_
  refine wp_bipush (M := mX0_init) (pc := 21) dX0_init_21 (by decide : _ = (20 : Int32)) ?_
  refine wt_newi (M := mX0_init) (pc := 23) (k := 0) (n := 0) (L := 23) (N := 20) dX0_init_23 sh23 (by decide) (by decide) (by decide) ?_
  refine wt_putr (M := mX0_init) (pc := 25) dX0_init_25 (Or.inr ⟨qX0_18, rfl⟩) (by decide) sh20 rfl ?_
  refine wp_aload_n (M := mX0_init) (pc := 28) dX0_init_28 rfl rfl ?_
  refine wp_aload_n (M := mX0_init) (pc := 29) dX0_init_29 rfl rfl ?_
  refine wt_putr (M := mX0_init) (pc := 30) dX0_init_30 (Or.inr ⟨qX0_21, rfl⟩) (by decide) sh20 rfl ?_
  refine wp_ret (M := mX0_init) (pc := 33) dX0_init_33 rfl ?_
  refine wt_putr (M := mX10_init) (pc := 68) dX10_init_68 (Or.inr ⟨qX10_42, rfl⟩) (by decide) sh0 rfl ?_
  refine wp_aload_n (M := mX10_init) (pc := 71) dX10_init_71 rfl rfl ?_
  refine wt_new (M := mX10_init) (pc := 72) (k := 57) (n := 2461) (L := 24) (c := 2) (N := 2) dX10_init_72 rfl rfl sh24 eX10_46 i2_ok z2_ok ?_
  refine wp_dup (M := mX10_init) (pc := 75) dX10_init_75 ?_
  refine wp_aload_n (M := mX10_init) (pc := 76) dX10_init_76 rfl rfl ?_
  refine wt_getr (M := mX10_init) (pc := 77) (r := 1) dX10_init_77 fX10_10 (by decide) sh0 rfl (by decide +kernel) ?_
  refine wp_callI (M := mX10_init) (pc := 80) (M' := mX2_init) (d := 998) (k := 7) (n := 552) (k' := 50) (n' := 1909) (As := [.ref 1]) (st := [.ref 24, .ref 0]) (ls' := [.ref 24, .ref 1]) dX10_init_80 oX2_init rfl rfl nX2_init lX10_48 vX2_init (Nat.le_of_ble_eq_true rfl) rfl (Nat.le_of_ble_eq_true rfl) ?_
  refine wp_aload_n (M := mX2_init) (pc := 0) dX2_init_0 rfl rfl ?_
  refine wp_objInit (M := mX2_init) (pc := 1) dX2_init_1 lX2_3 oi_v oi_c (Nat.le_of_ble_eq_true rfl) ?_
  refine wp_aload_n (M := mX2_init) (pc := 4) dX2_init_4 rfl rfl ?_
  refine wt_new (M := mX2_init) (pc := 5) (k := 6) (n := 544) (L := 25) (c := 1) (N := 8) dX2_init_5 rfl rfl sh25 eX2_9 i1_ok z1_ok ?_
  refine wp_dup (M := mX2_init) (pc := 8) dX2_init_8 ?_
  refine wp_callIN (M := mX2_init) (pc := 9) (M' := mX1_init) (d := 997) (k := 6) (n := 544) (k' := 0) (n' := 0) (As := []) (st := [.ref 25, .ref 24]) (ls' := [.ref 25]) dX2_init_9 oX1_init rfl rfl nX1_init hX2_11 vX1_init (Nat.le_of_ble_eq_true rfl) rfl (Nat.le_of_ble_eq_true rfl) ?_
  refine wp_aload_n (M := mX1_init) (pc := 0) dX1_init_0 rfl rfl ?_
  refine wp_objInit (M := mX1_init) (pc := 1) dX1_init_1 lX1_3 oi_v oi_c (Nat.le_of_ble_eq_true rfl) ?_
  refine wp_aload_n (M := mX1_init) (pc := 4) dX1_init_4 rfl rfl ?_
  refine wp_bipush (M := mX1_init) (pc := 5) dX1_init_5 (by decide : _ = (16 : Int32)) ?_
  refine wt_newi (M := mX1_init) (pc := 7) (k := 5) (n := 528) (L := 26) (N := 16) dX1_init_7 sh26 (by decide) (by decide) (by decide) ?_
  refine wt_putr (M := mX1_init) (pc := 9) dX1_init_9 (Or.inr ⟨qX1_9, rfl⟩) (by decide) sh25 rfl ?_
  refine wp_aload_n (M := mX1_init) (pc := 12) dX1_init_12 rfl rfl ?_
  refine wp_bipush (M := mX1_init) (pc := 13) dX1_init_13 (by decide : _ = (16 : Int32)) ?_
  refine wt_newi (M := mX1_init) (pc := 15) (k := 4) (n := 512) (L := 27) (N := 16) dX1_init_15 sh27 (by decide) (by decide) (by decide) ?_
  refine wt_putr (M := mX1_init) (pc := 17) dX1_init_17 (Or.inr ⟨qX1_15, rfl⟩) (by decide) sh25 rfl ?_
  refine wp_aload_n (M := mX1_init) (pc := 20) dX1_init_20 rfl rfl ?_
  refine wp_bipush (M := mX1_init) (pc := 21) dX1_init_21 (by decide : _ = (16 : Int32)) ?_
  refine wt_newi (M := mX1_init) (pc := 23) (k := 3) (n := 496) (L := 28) (N := 16) dX1_init_23 sh28 (by decide) (by decide) (by decide) ?_
  refine wt_putr (M := mX1_init) (pc := 25) dX1_init_25 (Or.inr ⟨qX1_18, rfl⟩) (by decide) sh25 rfl ?_
  refine wp_aload_n (M := mX1_init) (pc := 28) dX1_init_28 rfl rfl ?_
  refine wp_bipush (M := mX1_init) (pc := 29) dX1_init_29 (by decide : _ = (16 : Int32)) ?_
  refine wt_newi (M := mX1_init) (pc := 31) (k := 2) (n := 480) (L := 29) (N := 16) dX1_init_31 sh29 (by decide) (by decide) (by decide) ?_
  refine wt_putr (M := mX1_init) (pc := 33) dX1_init_33 (Or.inr ⟨qX1_21, rfl⟩) (by decide) sh25 rfl ?_
  refine wp_aload_n (M := mX1_init) (pc := 36) dX1_init_36 rfl rfl ?_
  refine wp_sipush (M := mX1_init) (pc := 37) dX1_init_37 (by decide : _ = (240 : Int32)) ?_
  refine wt_newi (M := mX1_init) (pc := 40) (k := 1) (n := 240) (L := 30) (N := 240) dX1_init_40 sh30 (by decide) (by decide) (by decide) ?_
  refine wt_putr (M := mX1_init) (pc := 42) dX1_init_42 (Or.inr ⟨qX1_24, rfl⟩) (by decide) sh25 rfl ?_
  refine wp_aload_n (M := mX1_init) (pc := 45) dX1_init_45 rfl rfl ?_
  refine wp_sipush (M := mX1_init) (pc := 46) dX1_init_46 (by decide : _ = (240 : Int32)) ?_
  refine wt_newi (M := mX1_init) (pc := 49) (k := 0) (n := 0) (L := 31) (N := 240) dX1_init_49 sh31 (by decide) (by decide) (by decide) ?_
  refine wt_putr (M := mX1_init) (pc := 51) dX1_init_51 (Or.inr ⟨qX1_27, rfl⟩) (by decide) sh25 rfl ?_
  refine wp_ret (M := mX1_init) (pc := 54) dX1_init_54 rfl ?_
  refine wt_putr (M := mX2_init) (pc := 12) dX2_init_12 (Or.inl pX2_12) (by decide) sh24 rfl ?_
  refine wp_aload_n (M := mX2_init) (pc := 15) dX2_init_15 rfl rfl ?_
  refine wp_aload_n (M := mX2_init) (pc := 16) dX2_init_16 rfl rfl ?_
  refine wt_putr (M := mX2_init) (pc := 17) dX2_init_17 (Or.inr ⟨qX2_18, rfl⟩) (by decide) sh24 rfl ?_
  refine wp_ret (M := mX2_init) (pc := 20) dX2_init_20 rfl ?_
  refine wt_putr (M := mX10_init) (pc := 83) dX10_init_83 (Or.inr ⟨qX10_49, rfl⟩) (by decide) sh0 rfl ?_
  refine wp_aload_n (M := mX10_init) (pc := 86) dX10_init_86 rfl rfl ?_
  refine wt_new (M := mX10_init) (pc := 87) (k := 49) (n := 1901) (L := 32) (c := 7) (N := 8) dX10_init_87 rfl rfl sh32 eX10_53 i7_ok z7_ok ?_
  refine wp_dup (M := mX10_init) (pc := 90) dX10_init_90 ?_
  refine wp_aload_n (M := mX10_init) (pc := 91) dX10_init_91 rfl rfl ?_
  refine wt_getr (M := mX10_init) (pc := 92) (r := 3) dX10_init_92 fX10_19 (by decide) sh0 rfl (by decide +kernel) ?_
  refine wp_callI (M := mX10_init) (pc := 95) (M' := mX7_init) (d := 998) (k := 10) (n := 629) (k' := 39) (n' := 1272) (As := [.ref 3]) (st := [.ref 32, .ref 0]) (ls' := [.ref 32, .ref 3]) dX10_init_95 oX7_init rfl rfl nX7_init lX10_55 vX7_init (Nat.le_of_ble_eq_true rfl) rfl (Nat.le_of_ble_eq_true rfl) ?_
  refine wp_aload_n (M := mX7_init) (pc := 0) dX7_init_0 rfl rfl ?_
  refine wp_objInit (M := mX7_init) (pc := 1) dX7_init_1 lX7_3 oi_v oi_c (Nat.le_of_ble_eq_true rfl) ?_
  refine wp_aload_n (M := mX7_init) (pc := 4) dX7_init_4 rfl rfl ?_
  refine wt_new (M := mX7_init) (pc := 5) (k := 9) (n := 626) (L := 33) (c := 5) (N := 3) dX7_init_5 rfl rfl sh33 eX7_9 i5_ok z5_ok ?_
  refine wp_dup (M := mX7_init) (pc := 8) dX7_init_8 ?_
  refine wp_callIN (M := mX7_init) (pc := 9) (M' := mX5_init) (d := 997) (k := 2) (n := 74) (k' := 7) (n' := 552) (As := []) (st := [.ref 33, .ref 32]) (ls' := [.ref 33]) dX7_init_9 oX5_init rfl rfl nX5_init hX7_11 vX5_init (Nat.le_of_ble_eq_true rfl) rfl (Nat.le_of_ble_eq_true rfl) ?_
  refine wp_aload_n (M := mX5_init) (pc := 0) dX5_init_0 rfl rfl ?_
  refine wp_objInit (M := mX5_init) (pc := 1) dX5_init_1 lX5_3 oi_v oi_c (Nat.le_of_ble_eq_true rfl) ?_
  refine wp_aload_n (M := mX5_init) (pc := 4) dX5_init_4 rfl rfl ?_
  refine wp_bipush (M := mX5_init) (pc := 5) dX5_init_5 (by decide : _ = (10 : Int32)) ?_
  refine wt_newi (M := mX5_init) (pc := 7) (k := 1) (n := 64) (L := 34) (N := 10) dX5_init_7 sh34 (by decide) (by decide) (by decide) ?_
  refine wt_putr (M := mX5_init) (pc := 9) dX5_init_9 (Or.inr ⟨qX5_11, rfl⟩) (by decide) sh33 rfl ?_
  refine wp_aload_n (M := mX5_init) (pc := 12) dX5_init_12 rfl rfl ?_
  refine wp_bipush (M := mX5_init) (pc := 13) dX5_init_13 (by decide : _ = (64 : Int32)) ?_
  refine wt_newi (M := mX5_init) (pc := 15) (k := 0) (n := 0) (L := 35) (N := 64) dX5_init_15 sh35 (by decide) (by decide) (by decide) ?_
  refine wt_putr (M := mX5_init) (pc := 17) dX5_init_17 (Or.inr ⟨qX5_15, rfl⟩) (by decide) sh33 rfl ?_
  refine wp_ret (M := mX5_init) (pc := 20) dX5_init_20 rfl ?_
  refine wt_putr (M := mX7_init) (pc := 12) dX7_init_12 (Or.inr ⟨qX7_12, rfl⟩) (by decide) sh32 rfl ?_
  refine wp_aload_n (M := mX7_init) (pc := 15) dX7_init_15 rfl rfl ?_
  refine wt_new (M := mX7_init) (pc := 16) (k := 6) (n := 544) (L := 36) (c := 1) (N := 8) dX7_init_16 rfl rfl sh36 eX7_18 i1_ok z1_ok ?_
  refine wp_dup (M := mX7_init) (pc := 19) dX7_init_19 ?_
  refine wp_callIN (M := mX7_init) (pc := 20) (M' := mX1_init) (d := 997) (k := 6) (n := 544) (k' := 0) (n' := 0) (As := []) (st := [.ref 36, .ref 32]) (ls' := [.ref 36]) dX7_init_20 oX1_init rfl rfl nX1_init hX7_20 vX1_init (Nat.le_of_ble_eq_true rfl) rfl (Nat.le_of_ble_eq_true rfl) ?_
  refine wp_aload_n (M := mX1_init) (pc := 0) dX1_init_0 rfl rfl ?_
  refine wp_objInit (M := mX1_init) (pc := 1) dX1_init_1 lX1_3 oi_v oi_c (Nat.le_of_ble_eq_true rfl) ?_
  refine wp_aload_n (M := mX1_init) (pc := 4) dX1_init_4 rfl rfl ?_
  refine wp_bipush (M := mX1_init) (pc := 5) dX1_init_5 (by decide : _ = (16 : Int32)) ?_
  refine wt_newi (M := mX1_init) (pc := 7) (k := 5) (n := 528) (L := 37) (N := 16) dX1_init_7 sh37 (by decide) (by decide) (by decide) ?_
  refine wt_putr (M := mX1_init) (pc := 9) dX1_init_9 (Or.inr ⟨qX1_9, rfl⟩) (by decide) sh36 rfl ?_
  refine wp_aload_n (M := mX1_init) (pc := 12) dX1_init_12 rfl rfl ?_
  refine wp_bipush (M := mX1_init) (pc := 13) dX1_init_13 (by decide : _ = (16 : Int32)) ?_
  refine wt_newi (M := mX1_init) (pc := 15) (k := 4) (n := 512) (L := 38) (N := 16) dX1_init_15 sh38 (by decide) (by decide) (by decide) ?_
  refine wt_putr (M := mX1_init) (pc := 17) dX1_init_17 (Or.inr ⟨qX1_15, rfl⟩) (by decide) sh36 rfl ?_
  refine wp_aload_n (M := mX1_init) (pc := 20) dX1_init_20 rfl rfl ?_
  refine wp_bipush (M := mX1_init) (pc := 21) dX1_init_21 (by decide : _ = (16 : Int32)) ?_
  refine wt_newi (M := mX1_init) (pc := 23) (k := 3) (n := 496) (L := 39) (N := 16) dX1_init_23 sh39 (by decide) (by decide) (by decide) ?_
  refine wt_putr (M := mX1_init) (pc := 25) dX1_init_25 (Or.inr ⟨qX1_18, rfl⟩) (by decide) sh36 rfl ?_
  refine wp_aload_n (M := mX1_init) (pc := 28) dX1_init_28 rfl rfl ?_
  refine wp_bipush (M := mX1_init) (pc := 29) dX1_init_29 (by decide : _ = (16 : Int32)) ?_
  refine wt_newi (M := mX1_init) (pc := 31) (k := 2) (n := 480) (L := 40) (N := 16) dX1_init_31 sh40 (by decide) (by decide) (by decide) ?_
  refine wt_putr (M := mX1_init) (pc := 33) dX1_init_33 (Or.inr ⟨qX1_21, rfl⟩) (by decide) sh36 rfl ?_
  refine wp_aload_n (M := mX1_init) (pc := 36) dX1_init_36 rfl rfl ?_
  refine wp_sipush (M := mX1_init) (pc := 37) dX1_init_37 (by decide : _ = (240 : Int32)) ?_
  refine wt_newi (M := mX1_init) (pc := 40) (k := 1) (n := 240) (L := 41) (N := 240) dX1_init_40 sh41 (by decide) (by decide) (by decide) ?_
  refine wt_putr (M := mX1_init) (pc := 42) dX1_init_42 (Or.inr ⟨qX1_24, rfl⟩) (by decide) sh36 rfl ?_
  refine wp_aload_n (M := mX1_init) (pc := 45) dX1_init_45 rfl rfl ?_
  refine wp_sipush (M := mX1_init) (pc := 46) dX1_init_46 (by decide : _ = (240 : Int32)) ?_
  refine wt_newi (M := mX1_init) (pc := 49) (k := 0) (n := 0) (L := 42) (N := 240) dX1_init_49 sh42 (by decide) (by decide) (by decide) ?_
  refine wt_putr (M := mX1_init) (pc := 51) dX1_init_51 (Or.inr ⟨qX1_27, rfl⟩) (by decide) sh36 rfl ?_
  refine wp_ret (M := mX1_init) (pc := 54) dX1_init_54 rfl ?_
  refine wt_putr (M := mX7_init) (pc := 23) dX7_init_23 (Or.inl pX7_21) (by decide) sh32 rfl ?_
  refine wp_aload_n (M := mX7_init) (pc := 26) dX7_init_26 rfl rfl ?_
  refine wp_iconst (M := mX7_init) (pc := 27) dX7_init_27 (by decide : _ = (1 : Int32)) ?_
  refine wt_puti (M := mX7_init) (pc := 28) dX7_init_28 pX7_25 (by decide) sh32 rfl ?_
  refine wp_aload_n (M := mX7_init) (pc := 31) dX7_init_31 rfl rfl ?_
  refine wp_iconst (M := mX7_init) (pc := 32) dX7_init_32 (by decide : _ = (1 : Int32)) ?_
  refine wt_puti (M := mX7_init) (pc := 33) dX7_init_33 pX7_29 (by decide) sh32 rfl ?_
  refine wp_aload_n (M := mX7_init) (pc := 36) dX7_init_36 rfl rfl ?_
  refine wp_aload_n (M := mX7_init) (pc := 37) dX7_init_37 rfl rfl ?_
  refine wt_putr (M := mX7_init) (pc := 38) dX7_init_38 (Or.inr ⟨qX7_32, rfl⟩) (by decide) sh32 rfl ?_
  refine wp_ret (M := mX7_init) (pc := 41) dX7_init_41 rfl ?_
  refine wt_putr (M := mX10_init) (pc := 98) dX10_init_98 (Or.inr ⟨qX10_58, rfl⟩) (by decide) sh0 rfl ?_
  refine wp_aload_n (M := mX10_init) (pc := 101) dX10_init_101 rfl rfl ?_
  refine wt_new (M := mX10_init) (pc := 102) (k := 38) (n := 1252) (L := 43) (c := 9) (N := 20) dX10_init_102 rfl rfl sh43 eX10_62 i9_ok z9_ok ?_
  refine wp_dup (M := mX10_init) (pc := 105) dX10_init_105 ?_
  refine wp_callIN (M := mX10_init) (pc := 106) (M' := mX9_init) (d := 998) (k := 12) (n := 404) (k' := 26) (n' := 848) (As := []) (st := [.ref 43, .ref 0]) (ls' := [.ref 43]) dX10_init_106 oX9_init rfl rfl nX9_init hX10_64 vX9_init (Nat.le_of_ble_eq_true rfl) rfl (Nat.le_of_ble_eq_true rfl) ?_
  refine wp_aload_n (M := mX9_init) (pc := 0) dX9_init_0 rfl rfl ?_
  refine wp_objInit (M := mX9_init) (pc := 1) dX9_init_1 lX9_3 oi_v oi_c (Nat.le_of_ble_eq_true rfl) ?_
  refine wp_aload_n (M := mX9_init) (pc := 4) dX9_init_4 rfl rfl ?_
  refine wp_iconst (M := mX9_init) (pc := 5) dX9_init_5 (by decide : _ = (1 : Int32)) ?_
  refine wt_puti (M := mX9_init) (pc := 6) dX9_init_6 pX9_9 (by decide) sh43 rfl ?_
  refine wp_aload_n (M := mX9_init) (pc := 9) dX9_init_9 rfl rfl ?_
  refine wp_bipush (M := mX9_init) (pc := 10) dX9_init_10 (by decide : _ = (16 : Int32)) ?_
  refine wt_newi (M := mX9_init) (pc := 12) (k := 11) (n := 388) (L := 44) (N := 16) dX9_init_12 sh44 (by decide) (by decide) (by decide) ?_
  refine wt_putr (M := mX9_init) (pc := 14) dX9_init_14 (Or.inr ⟨qX9_15, rfl⟩) (by decide) sh43 rfl ?_
  refine wp_aload_n (M := mX9_init) (pc := 17) dX9_init_17 rfl rfl ?_
  refine wp_bipush (M := mX9_init) (pc := 18) dX9_init_18 (by decide : _ = (16 : Int32)) ?_
  refine wt_newi (M := mX9_init) (pc := 20) (k := 10) (n := 372) (L := 45) (N := 16) dX9_init_20 sh45 (by decide) (by decide) (by decide) ?_
  refine wt_putr (M := mX9_init) (pc := 22) dX9_init_22 (Or.inr ⟨qX9_19, rfl⟩) (by decide) sh43 rfl ?_
  refine wp_aload_n (M := mX9_init) (pc := 25) dX9_init_25 rfl rfl ?_
  refine wp_bipush (M := mX9_init) (pc := 26) dX9_init_26 (by decide : _ = (16 : Int32)) ?_
  refine wt_newi (M := mX9_init) (pc := 28) (k := 9) (n := 356) (L := 46) (N := 16) dX9_init_28 sh46 (by decide) (by decide) (by decide) ?_
  refine wt_putr (M := mX9_init) (pc := 30) dX9_init_30 (Or.inr ⟨qX9_22, rfl⟩) (by decide) sh43 rfl ?_
  refine wp_aload_n (M := mX9_init) (pc := 33) dX9_init_33 rfl rfl ?_
  refine wp_bipush (M := mX9_init) (pc := 34) dX9_init_34 (by decide : _ = (16 : Int32)) ?_
  refine wt_newi (M := mX9_init) (pc := 36) (k := 8) (n := 340) (L := 47) (N := 16) dX9_init_36 sh47 (by decide) (by decide) (by decide) ?_
  refine wt_putr (M := mX9_init) (pc := 38) dX9_init_38 (Or.inr ⟨qX9_25, rfl⟩) (by decide) sh43 rfl ?_
  refine wp_aload_n (M := mX9_init) (pc := 41) dX9_init_41 rfl rfl ?_
  refine wp_bipush (M := mX9_init) (pc := 42) dX9_init_42 (by decide : _ = (16 : Int32)) ?_
  refine wt_newi (M := mX9_init) (pc := 44) (k := 7) (n := 324) (L := 48) (N := 16) dX9_init_44 sh48 (by decide) (by decide) (by decide) ?_
  refine wt_putr (M := mX9_init) (pc := 46) dX9_init_46 (Or.inr ⟨qX9_28, rfl⟩) (by decide) sh43 rfl ?_
  refine wp_aload_n (M := mX9_init) (pc := 49) dX9_init_49 rfl rfl ?_
  refine wp_bipush (M := mX9_init) (pc := 50) dX9_init_50 (by decide : _ = (20 : Int32)) ?_
  refine wt_newi (M := mX9_init) (pc := 52) (k := 6) (n := 304) (L := 49) (N := 20) dX9_init_52 sh49 (by decide) (by decide) (by decide) ?_
  refine wt_putr (M := mX9_init) (pc := 54) dX9_init_54 (Or.inr ⟨qX9_31, rfl⟩) (by decide) sh43 rfl ?_
  refine wp_aload_n (M := mX9_init) (pc := 57) dX9_init_57 rfl rfl ?_
  refine wp_bipush (M := mX9_init) (pc := 58) dX9_init_58 (by decide : _ = (20 : Int32)) ?_
  refine wt_newi (M := mX9_init) (pc := 60) (k := 5) (n := 284) (L := 50) (N := 20) dX9_init_60 sh50 (by decide) (by decide) (by decide) ?_
  refine wt_putr (M := mX9_init) (pc := 62) dX9_init_62 (Or.inr ⟨qX9_34, rfl⟩) (by decide) sh43 rfl ?_
  refine wp_aload_n (M := mX9_init) (pc := 65) dX9_init_65 rfl rfl ?_
  refine wp_bipush (M := mX9_init) (pc := 66) dX9_init_66 (by decide : _ = (20 : Int32)) ?_
  refine wt_newi (M := mX9_init) (pc := 68) (k := 4) (n := 264) (L := 51) (N := 20) dX9_init_68 sh51 (by decide) (by decide) (by decide) ?_
  refine wt_putr (M := mX9_init) (pc := 70) dX9_init_70 (Or.inr ⟨qX9_37, rfl⟩) (by decide) sh43 rfl ?_
  refine wp_aload_n (M := mX9_init) (pc := 73) dX9_init_73 rfl rfl ?_
  refine wp_bipush (M := mX9_init) (pc := 74) dX9_init_74 (by decide : _ = (20 : Int32)) ?_
  refine wt_newi (M := mX9_init) (pc := 76) (k := 3) (n := 244) (L := 52) (N := 20) dX9_init_76 sh52 (by decide) (by decide) (by decide) ?_
  refine wt_putr (M := mX9_init) (pc := 78) dX9_init_78 (Or.inr ⟨qX9_40, rfl⟩) (by decide) sh43 rfl ?_
  refine wp_aload_n (M := mX9_init) (pc := 81) dX9_init_81 rfl rfl ?_
  refine wp_bipush (M := mX9_init) (pc := 82) dX9_init_82 (by decide : _ = (20 : Int32)) ?_
  refine wt_newi (M := mX9_init) (pc := 84) (k := 2) (n := 224) (L := 53) (N := 20) dX9_init_84 sh53 (by decide) (by decide) (by decide) ?_
  refine wt_putr (M := mX9_init) (pc := 86) dX9_init_86 (Or.inr ⟨qX9_43, rfl⟩) (by decide) sh43 rfl ?_
  refine wp_aload_n (M := mX9_init) (pc := 89) dX9_init_89 rfl rfl ?_
  refine wp_sipush (M := mX9_init) (pc := 90) dX9_init_90 (by decide : _ = (160 : Int32)) ?_
  refine wt_newi (M := mX9_init) (pc := 93) (k := 1) (n := 64) (L := 54) (N := 160) dX9_init_93 sh54 (by decide) (by decide) (by decide) ?_
  refine wt_putr (M := mX9_init) (pc := 95) dX9_init_95 (Or.inr ⟨qX9_46, rfl⟩) (by decide) sh43 rfl ?_
  refine wp_aload_n (M := mX9_init) (pc := 98) dX9_init_98 rfl rfl ?_
  refine wp_bipush (M := mX9_init) (pc := 99) dX9_init_99 (by decide : _ = (64 : Int32)) ?_
  refine wt_newi (M := mX9_init) (pc := 101) (k := 0) (n := 0) (L := 55) (N := 64) dX9_init_101 sh55 (by decide) (by decide) (by decide) ?_
  refine wt_putr (M := mX9_init) (pc := 103) dX9_init_103 (Or.inr ⟨qX9_49, rfl⟩) (by decide) sh43 rfl ?_
  refine wp_ret (M := mX9_init) (pc := 106) dX9_init_106 rfl ?_
  refine wt_putr (M := mX10_init) (pc := 109) dX10_init_109 (Or.inr ⟨qX10_65, rfl⟩) (by decide) sh0 rfl ?_
  refine wp_aload_n (M := mX10_init) (pc := 112) dX10_init_112 rfl rfl ?_
  refine wt_new (M := mX10_init) (pc := 113) (k := 25) (n := 828) (L := 56) (c := 9) (N := 20) dX10_init_113 rfl rfl sh56 eX10_62 i9_ok z9_ok ?_
  refine wp_dup (M := mX10_init) (pc := 116) dX10_init_116 ?_
  refine wp_callIN (M := mX10_init) (pc := 117) (M' := mX9_init) (d := 998) (k := 12) (n := 404) (k' := 13) (n' := 424) (As := []) (st := [.ref 56, .ref 0]) (ls' := [.ref 56]) dX10_init_117 oX9_init rfl rfl nX9_init hX10_64 vX9_init (Nat.le_of_ble_eq_true rfl) rfl (Nat.le_of_ble_eq_true rfl) ?_
  refine wp_aload_n (M := mX9_init) (pc := 0) dX9_init_0 rfl rfl ?_
  refine wp_objInit (M := mX9_init) (pc := 1) dX9_init_1 lX9_3 oi_v oi_c (Nat.le_of_ble_eq_true rfl) ?_
  refine wp_aload_n (M := mX9_init) (pc := 4) dX9_init_4 rfl rfl ?_
  refine wp_iconst (M := mX9_init) (pc := 5) dX9_init_5 (by decide : _ = (1 : Int32)) ?_
  refine wt_puti (M := mX9_init) (pc := 6) dX9_init_6 pX9_9 (by decide) sh56 rfl ?_
  refine wp_aload_n (M := mX9_init) (pc := 9) dX9_init_9 rfl rfl ?_
  refine wp_bipush (M := mX9_init) (pc := 10) dX9_init_10 (by decide : _ = (16 : Int32)) ?_
  refine wt_newi (M := mX9_init) (pc := 12) (k := 11) (n := 388) (L := 57) (N := 16) dX9_init_12 sh57 (by decide) (by decide) (by decide) ?_
  refine wt_putr (M := mX9_init) (pc := 14) dX9_init_14 (Or.inr ⟨qX9_15, rfl⟩) (by decide) sh56 rfl ?_
  refine wp_aload_n (M := mX9_init) (pc := 17) dX9_init_17 rfl rfl ?_
  refine wp_bipush (M := mX9_init) (pc := 18) dX9_init_18 (by decide : _ = (16 : Int32)) ?_
  refine wt_newi (M := mX9_init) (pc := 20) (k := 10) (n := 372) (L := 58) (N := 16) dX9_init_20 sh58 (by decide) (by decide) (by decide) ?_
  refine wt_putr (M := mX9_init) (pc := 22) dX9_init_22 (Or.inr ⟨qX9_19, rfl⟩) (by decide) sh56 rfl ?_
  refine wp_aload_n (M := mX9_init) (pc := 25) dX9_init_25 rfl rfl ?_
  refine wp_bipush (M := mX9_init) (pc := 26) dX9_init_26 (by decide : _ = (16 : Int32)) ?_
  refine wt_newi (M := mX9_init) (pc := 28) (k := 9) (n := 356) (L := 59) (N := 16) dX9_init_28 sh59 (by decide) (by decide) (by decide) ?_
  refine wt_putr (M := mX9_init) (pc := 30) dX9_init_30 (Or.inr ⟨qX9_22, rfl⟩) (by decide) sh56 rfl ?_
  refine wp_aload_n (M := mX9_init) (pc := 33) dX9_init_33 rfl rfl ?_
  refine wp_bipush (M := mX9_init) (pc := 34) dX9_init_34 (by decide : _ = (16 : Int32)) ?_
  refine wt_newi (M := mX9_init) (pc := 36) (k := 8) (n := 340) (L := 60) (N := 16) dX9_init_36 sh60 (by decide) (by decide) (by decide) ?_
  refine wt_putr (M := mX9_init) (pc := 38) dX9_init_38 (Or.inr ⟨qX9_25, rfl⟩) (by decide) sh56 rfl ?_
  refine wp_aload_n (M := mX9_init) (pc := 41) dX9_init_41 rfl rfl ?_
  refine wp_bipush (M := mX9_init) (pc := 42) dX9_init_42 (by decide : _ = (16 : Int32)) ?_
  refine wt_newi (M := mX9_init) (pc := 44) (k := 7) (n := 324) (L := 61) (N := 16) dX9_init_44 sh61 (by decide) (by decide) (by decide) ?_
  refine wt_putr (M := mX9_init) (pc := 46) dX9_init_46 (Or.inr ⟨qX9_28, rfl⟩) (by decide) sh56 rfl ?_
  refine wp_aload_n (M := mX9_init) (pc := 49) dX9_init_49 rfl rfl ?_
  refine wp_bipush (M := mX9_init) (pc := 50) dX9_init_50 (by decide : _ = (20 : Int32)) ?_
  refine wt_newi (M := mX9_init) (pc := 52) (k := 6) (n := 304) (L := 62) (N := 20) dX9_init_52 sh62 (by decide) (by decide) (by decide) ?_
  refine wt_putr (M := mX9_init) (pc := 54) dX9_init_54 (Or.inr ⟨qX9_31, rfl⟩) (by decide) sh56 rfl ?_
  refine wp_aload_n (M := mX9_init) (pc := 57) dX9_init_57 rfl rfl ?_
  refine wp_bipush (M := mX9_init) (pc := 58) dX9_init_58 (by decide : _ = (20 : Int32)) ?_
  refine wt_newi (M := mX9_init) (pc := 60) (k := 5) (n := 284) (L := 63) (N := 20) dX9_init_60 sh63 (by decide) (by decide) (by decide) ?_
  refine wt_putr (M := mX9_init) (pc := 62) dX9_init_62 (Or.inr ⟨qX9_34, rfl⟩) (by decide) sh56 rfl ?_
  refine wp_aload_n (M := mX9_init) (pc := 65) dX9_init_65 rfl rfl ?_
  refine wp_bipush (M := mX9_init) (pc := 66) dX9_init_66 (by decide : _ = (20 : Int32)) ?_
  refine wt_newi (M := mX9_init) (pc := 68) (k := 4) (n := 264) (L := 64) (N := 20) dX9_init_68 sh64 (by decide) (by decide) (by decide) ?_
  refine wt_putr (M := mX9_init) (pc := 70) dX9_init_70 (Or.inr ⟨qX9_37, rfl⟩) (by decide) sh56 rfl ?_
  refine wp_aload_n (M := mX9_init) (pc := 73) dX9_init_73 rfl rfl ?_
  refine wp_bipush (M := mX9_init) (pc := 74) dX9_init_74 (by decide : _ = (20 : Int32)) ?_
  refine wt_newi (M := mX9_init) (pc := 76) (k := 3) (n := 244) (L := 65) (N := 20) dX9_init_76 sh65 (by decide) (by decide) (by decide) ?_
  refine wt_putr (M := mX9_init) (pc := 78) dX9_init_78 (Or.inr ⟨qX9_40, rfl⟩) (by decide) sh56 rfl ?_
  refine wp_aload_n (M := mX9_init) (pc := 81) dX9_init_81 rfl rfl ?_
  refine wp_bipush (M := mX9_init) (pc := 82) dX9_init_82 (by decide : _ = (20 : Int32)) ?_
  refine wt_newi (M := mX9_init) (pc := 84) (k := 2) (n := 224) (L := 66) (N := 20) dX9_init_84 sh66 (by decide) (by decide) (by decide) ?_
  refine wt_putr (M := mX9_init) (pc := 86) dX9_init_86 (Or.inr ⟨qX9_43, rfl⟩) (by decide) sh56 rfl ?_
  refine wp_aload_n (M := mX9_init) (pc := 89) dX9_init_89 rfl rfl ?_
  refine wp_sipush (M := mX9_init) (pc := 90) dX9_init_90 (by decide : _ = (160 : Int32)) ?_
  refine wt_newi (M := mX9_init) (pc := 93) (k := 1) (n := 64) (L := 67) (N := 160) dX9_init_93 sh67 (by decide) (by decide) (by decide) ?_
  refine wt_putr (M := mX9_init) (pc := 95) dX9_init_95 (Or.inr ⟨qX9_46, rfl⟩) (by decide) sh56 rfl ?_
  refine wp_aload_n (M := mX9_init) (pc := 98) dX9_init_98 rfl rfl ?_
  refine wp_bipush (M := mX9_init) (pc := 99) dX9_init_99 (by decide : _ = (64 : Int32)) ?_
  refine wt_newi (M := mX9_init) (pc := 101) (k := 0) (n := 0) (L := 68) (N := 64) dX9_init_101 sh68 (by decide) (by decide) (by decide) ?_
  refine wt_putr (M := mX9_init) (pc := 103) dX9_init_103 (Or.inr ⟨qX9_49, rfl⟩) (by decide) sh56 rfl ?_
  refine wp_ret (M := mX9_init) (pc := 106) dX9_init_106 rfl ?_
  refine wt_putr (M := mX10_init) (pc := 120) dX10_init_120 (Or.inr ⟨qX10_69, rfl⟩) (by decide) sh0 rfl ?_
  refine wp_aload_n (M := mX10_init) (pc := 123) dX10_init_123 rfl rfl ?_
  refine wt_new (M := mX10_init) (pc := 124) (k := 12) (n := 404) (L := 69) (c := 9) (N := 20) dX10_init_124 rfl rfl sh69 eX10_62 i9_ok z9_ok ?_
  refine wp_dup (M := mX10_init) (pc := 127) dX10_init_127 ?_
  refine wp_callIN (M := mX10_init) (pc := 128) (M' := mX9_init) (d := 998) (k := 12) (n := 404) (k' := 0) (n' := 0) (As := []) (st := [.ref 69, .ref 0]) (ls' := [.ref 69]) dX10_init_128 oX9_init rfl rfl nX9_init hX10_64 vX9_init (Nat.le_of_ble_eq_true rfl) rfl (Nat.le_of_ble_eq_true rfl) ?_
  refine wp_aload_n (M := mX9_init) (pc := 0) dX9_init_0 rfl rfl ?_
  refine wp_objInit (M := mX9_init) (pc := 1) dX9_init_1 lX9_3 oi_v oi_c (Nat.le_of_ble_eq_true rfl) ?_
  refine wp_aload_n (M := mX9_init) (pc := 4) dX9_init_4 rfl rfl ?_
  refine wp_iconst (M := mX9_init) (pc := 5) dX9_init_5 (by decide : _ = (1 : Int32)) ?_
  refine wt_puti (M := mX9_init) (pc := 6) dX9_init_6 pX9_9 (by decide) sh69 rfl ?_
  refine wp_aload_n (M := mX9_init) (pc := 9) dX9_init_9 rfl rfl ?_
  refine wp_bipush (M := mX9_init) (pc := 10) dX9_init_10 (by decide : _ = (16 : Int32)) ?_
  refine wt_newi (M := mX9_init) (pc := 12) (k := 11) (n := 388) (L := 70) (N := 16) dX9_init_12 sh70 (by decide) (by decide) (by decide) ?_
  refine wt_putr (M := mX9_init) (pc := 14) dX9_init_14 (Or.inr ⟨qX9_15, rfl⟩) (by decide) sh69 rfl ?_
  refine wp_aload_n (M := mX9_init) (pc := 17) dX9_init_17 rfl rfl ?_
  refine wp_bipush (M := mX9_init) (pc := 18) dX9_init_18 (by decide : _ = (16 : Int32)) ?_
  refine wt_newi (M := mX9_init) (pc := 20) (k := 10) (n := 372) (L := 71) (N := 16) dX9_init_20 sh71 (by decide) (by decide) (by decide) ?_
  refine wt_putr (M := mX9_init) (pc := 22) dX9_init_22 (Or.inr ⟨qX9_19, rfl⟩) (by decide) sh69 rfl ?_
  refine wp_aload_n (M := mX9_init) (pc := 25) dX9_init_25 rfl rfl ?_
  refine wp_bipush (M := mX9_init) (pc := 26) dX9_init_26 (by decide : _ = (16 : Int32)) ?_
  refine wt_newi (M := mX9_init) (pc := 28) (k := 9) (n := 356) (L := 72) (N := 16) dX9_init_28 sh72 (by decide) (by decide) (by decide) ?_
  refine wt_putr (M := mX9_init) (pc := 30) dX9_init_30 (Or.inr ⟨qX9_22, rfl⟩) (by decide) sh69 rfl ?_
  refine wp_aload_n (M := mX9_init) (pc := 33) dX9_init_33 rfl rfl ?_
  refine wp_bipush (M := mX9_init) (pc := 34) dX9_init_34 (by decide : _ = (16 : Int32)) ?_
  refine wt_newi (M := mX9_init) (pc := 36) (k := 8) (n := 340) (L := 73) (N := 16) dX9_init_36 sh73 (by decide) (by decide) (by decide) ?_
  refine wt_putr (M := mX9_init) (pc := 38) dX9_init_38 (Or.inr ⟨qX9_25, rfl⟩) (by decide) sh69 rfl ?_
  refine wp_aload_n (M := mX9_init) (pc := 41) dX9_init_41 rfl rfl ?_
  refine wp_bipush (M := mX9_init) (pc := 42) dX9_init_42 (by decide : _ = (16 : Int32)) ?_
  refine wt_newi (M := mX9_init) (pc := 44) (k := 7) (n := 324) (L := 74) (N := 16) dX9_init_44 sh74 (by decide) (by decide) (by decide) ?_
  refine wt_putr (M := mX9_init) (pc := 46) dX9_init_46 (Or.inr ⟨qX9_28, rfl⟩) (by decide) sh69 rfl ?_
  refine wp_aload_n (M := mX9_init) (pc := 49) dX9_init_49 rfl rfl ?_
  refine wp_bipush (M := mX9_init) (pc := 50) dX9_init_50 (by decide : _ = (20 : Int32)) ?_
  refine wt_newi (M := mX9_init) (pc := 52) (k := 6) (n := 304) (L := 75) (N := 20) dX9_init_52 sh75 (by decide) (by decide) (by decide) ?_
  refine wt_putr (M := mX9_init) (pc := 54) dX9_init_54 (Or.inr ⟨qX9_31, rfl⟩) (by decide) sh69 rfl ?_
  refine wp_aload_n (M := mX9_init) (pc := 57) dX9_init_57 rfl rfl ?_
  refine wp_bipush (M := mX9_init) (pc := 58) dX9_init_58 (by decide : _ = (20 : Int32)) ?_
  refine wt_newi (M := mX9_init) (pc := 60) (k := 5) (n := 284) (L := 76) (N := 20) dX9_init_60 sh76 (by decide) (by decide) (by decide) ?_
  refine wt_putr (M := mX9_init) (pc := 62) dX9_init_62 (Or.inr ⟨qX9_34, rfl⟩) (by decide) sh69 rfl ?_
  refine wp_aload_n (M := mX9_init) (pc := 65) dX9_init_65 rfl rfl ?_
  refine wp_bipush (M := mX9_init) (pc := 66) dX9_init_66 (by decide : _ = (20 : Int32)) ?_
  refine wt_newi (M := mX9_init) (pc := 68) (k := 4) (n := 264) (L := 77) (N := 20) dX9_init_68 sh77 (by decide) (by decide) (by decide) ?_
  refine wt_putr (M := mX9_init) (pc := 70) dX9_init_70 (Or.inr ⟨qX9_37, rfl⟩) (by decide) sh69 rfl ?_
  refine wp_aload_n (M := mX9_init) (pc := 73) dX9_init_73 rfl rfl ?_
  refine wp_bipush (M := mX9_init) (pc := 74) dX9_init_74 (by decide : _ = (20 : Int32)) ?_
  refine wt_newi (M := mX9_init) (pc := 76) (k := 3) (n := 244) (L := 78) (N := 20) dX9_init_76 sh78 (by decide) (by decide) (by decide) ?_
  refine wt_putr (M := mX9_init) (pc := 78) dX9_init_78 (Or.inr ⟨qX9_40, rfl⟩) (by decide) sh69 rfl ?_
  refine wp_aload_n (M := mX9_init) (pc := 81) dX9_init_81 rfl rfl ?_
  refine wp_bipush (M := mX9_init) (pc := 82) dX9_init_82 (by decide : _ = (20 : Int32)) ?_
  refine wt_newi (M := mX9_init) (pc := 84) (k := 2) (n := 224) (L := 79) (N := 20) dX9_init_84 sh79 (by decide) (by decide) (by decide) ?_
  refine wt_putr (M := mX9_init) (pc := 86) dX9_init_86 (Or.inr ⟨qX9_43, rfl⟩) (by decide) sh69 rfl ?_
  refine wp_aload_n (M := mX9_init) (pc := 89) dX9_init_89 rfl rfl ?_
  refine wp_sipush (M := mX9_init) (pc := 90) dX9_init_90 (by decide : _ = (160 : Int32)) ?_
  refine wt_newi (M := mX9_init) (pc := 93) (k := 1) (n := 64) (L := 80) (N := 160) dX9_init_93 sh80 (by decide) (by decide) (by decide) ?_
  refine wt_putr (M := mX9_init) (pc := 95) dX9_init_95 (Or.inr ⟨qX9_46, rfl⟩) (by decide) sh69 rfl ?_
  refine wp_aload_n (M := mX9_init) (pc := 98) dX9_init_98 rfl rfl ?_
  refine wp_bipush (M := mX9_init) (pc := 99) dX9_init_99 (by decide : _ = (64 : Int32)) ?_
  refine wt_newi (M := mX9_init) (pc := 101) (k := 0) (n := 0) (L := 81) (N := 64) dX9_init_101 sh81 (by decide) (by decide) (by decide) ?_
  refine wt_putr (M := mX9_init) (pc := 103) dX9_init_103 (Or.inr ⟨qX9_49, rfl⟩) (by decide) sh69 rfl ?_
  refine wp_ret (M := mX9_init) (pc := 106) dX9_init_106 rfl ?_
  refine wt_putr (M := mX10_init) (pc := 131) dX10_init_131 (Or.inr ⟨qX10_72, rfl⟩) (by decide) sh0 rfl ?_
  refine wp_ret (M := mX10_init) (pc := 134) dX10_init_134 rfl ?_
  refine wp_astore_n (M := mL_law) (pc := 7) (ls' := [.retAddr 0, .ref 0, .null, .null]) dL_law_7 rfl (by decide) rfl ?_
  refine wt_new (M := mL_law) (pc := 8) (k := 31) (n := 4576) (L := 82) (c := 11) (N := 48) dL_law_8 rfl rfl sh82 eL_10 i11_ok z11_ok ?_
  refine wp_dup (M := mL_law) (pc := 11) dL_law_11 ?_
  refine wp_callI (M := mL_law) (pc := 12) (M' := mX11_init) (d := 999) (k := 31) (n := 4576) (k' := 0) (n' := 0) (As := []) (st := [.ref 82]) (ls' := [.ref 82]) dL_law_12 oX11_init rfl rfl nX11_init lL_12 vX11_init (Nat.le_of_ble_eq_true rfl) rfl (Nat.le_of_ble_eq_true rfl) ?_
  refine wp_aload_n (M := mX11_init) (pc := 0) dX11_init_0 rfl rfl ?_
  refine wp_objInit (M := mX11_init) (pc := 1) dX11_init_1 lX11_1 oi_v oi_c (Nat.le_of_ble_eq_true rfl) ?_
  refine wp_aload_n (M := mX11_init) (pc := 4) dX11_init_4 rfl rfl ?_
  refine wp_sipush (M := mX11_init) (pc := 5) dX11_init_5 (by decide : _ = (391 : Int32)) ?_
  refine wt_newi (M := mX11_init) (pc := 8) (k := 30) (n := 4185) (L := 83) (N := 391) dX11_init_8 sh83 (by decide) (by decide) (by decide) ?_
  refine wt_putr (M := mX11_init) (pc := 10) dX11_init_10 (Or.inr ⟨qX11_7, rfl⟩) (by decide) sh82 rfl ?_
  refine wp_aload_n (M := mX11_init) (pc := 13) dX11_init_13 rfl rfl ?_
  refine wp_sipush (M := mX11_init) (pc := 14) dX11_init_14 (by decide : _ = (391 : Int32)) ?_
  refine wt_newi (M := mX11_init) (pc := 17) (k := 29) (n := 3794) (L := 84) (N := 391) dX11_init_17 sh84 (by decide) (by decide) (by decide) ?_
  refine wt_putr (M := mX11_init) (pc := 19) dX11_init_19 (Or.inr ⟨qX11_13, rfl⟩) (by decide) sh82 rfl ?_
  refine wp_aload_n (M := mX11_init) (pc := 22) dX11_init_22 rfl rfl ?_
  refine wp_sipush (M := mX11_init) (pc := 23) dX11_init_23 (by decide : _ = (391 : Int32)) ?_
  refine wt_newi (M := mX11_init) (pc := 26) (k := 28) (n := 3403) (L := 85) (N := 391) dX11_init_26 sh85 (by decide) (by decide) (by decide) ?_
  refine wt_putr (M := mX11_init) (pc := 28) dX11_init_28 (Or.inr ⟨qX11_16, rfl⟩) (by decide) sh82 rfl ?_
  refine wp_aload_n (M := mX11_init) (pc := 31) dX11_init_31 rfl rfl ?_
  refine wp_bipush (M := mX11_init) (pc := 32) dX11_init_32 (by decide : _ = (64 : Int32)) ?_
  refine wt_newi (M := mX11_init) (pc := 34) (k := 27) (n := 3339) (L := 86) (N := 64) dX11_init_34 sh86 (by decide) (by decide) (by decide) ?_
  refine wt_putr (M := mX11_init) (pc := 36) dX11_init_36 (Or.inr ⟨qX11_19, rfl⟩) (by decide) sh82 rfl ?_
  refine wp_aload_n (M := mX11_init) (pc := 39) dX11_init_39 rfl rfl ?_
  refine wp_bipush (M := mX11_init) (pc := 40) dX11_init_40 (by decide : _ = (8 : Int32)) ?_
  refine wt_newi (M := mX11_init) (pc := 42) (k := 26) (n := 3331) (L := 87) (N := 8) dX11_init_42 sh87 (by decide) (by decide) (by decide) ?_
  refine wt_putr (M := mX11_init) (pc := 44) dX11_init_44 (Or.inr ⟨qX11_22, rfl⟩) (by decide) sh82 rfl ?_
  refine wp_aload_n (M := mX11_init) (pc := 47) dX11_init_47 rfl rfl ?_
  refine wp_bipush (M := mX11_init) (pc := 48) dX11_init_48 (by decide : _ = (8 : Int32)) ?_
  refine wt_newi (M := mX11_init) (pc := 50) (k := 25) (n := 3323) (L := 88) (N := 8) dX11_init_50 sh88 (by decide) (by decide) (by decide) ?_
  refine wt_putr (M := mX11_init) (pc := 52) dX11_init_52 (Or.inr ⟨qX11_25, rfl⟩) (by decide) sh82 rfl ?_
  refine wp_aload_n (M := mX11_init) (pc := 55) dX11_init_55 rfl rfl ?_
  refine wp_bipush (M := mX11_init) (pc := 56) dX11_init_56 (by decide : _ = (8 : Int32)) ?_
  refine wt_newi (M := mX11_init) (pc := 58) (k := 24) (n := 3315) (L := 89) (N := 8) dX11_init_58 sh89 (by decide) (by decide) (by decide) ?_
  refine wt_putr (M := mX11_init) (pc := 60) dX11_init_60 (Or.inr ⟨qX11_28, rfl⟩) (by decide) sh82 rfl ?_
  refine wp_aload_n (M := mX11_init) (pc := 63) dX11_init_63 rfl rfl ?_
  refine wp_sipush (M := mX11_init) (pc := 64) dX11_init_64 (by decide : _ = (260 : Int32)) ?_
  refine wt_newb (M := mX11_init) (pc := 67) (k := 23) (n := 3055) (L := 90) (N := 260) dX11_init_67 sh90 (by decide) (by decide) (by decide) ?_
  refine wt_putr (M := mX11_init) (pc := 69) dX11_init_69 (Or.inr ⟨qX11_31, rfl⟩) (by decide) sh82 rfl ?_
  refine wp_aload_n (M := mX11_init) (pc := 72) dX11_init_72 rfl rfl ?_
  refine wp_sipush (M := mX11_init) (pc := 73) dX11_init_73 (by decide : _ = (260 : Int32)) ?_
  refine wt_newi (M := mX11_init) (pc := 76) (k := 22) (n := 2795) (L := 91) (N := 260) dX11_init_76 sh91 (by decide) (by decide) (by decide) ?_
  refine wt_putr (M := mX11_init) (pc := 78) dX11_init_78 (Or.inr ⟨qX11_35, rfl⟩) (by decide) sh82 rfl ?_
  refine wp_aload_n (M := mX11_init) (pc := 81) dX11_init_81 rfl rfl ?_
  refine wp_sipush (M := mX11_init) (pc := 82) dX11_init_82 (by decide : _ = (260 : Int32)) ?_
  refine wt_newi (M := mX11_init) (pc := 85) (k := 21) (n := 2535) (L := 92) (N := 260) dX11_init_85 sh92 (by decide) (by decide) (by decide) ?_
  refine wt_putr (M := mX11_init) (pc := 87) dX11_init_87 (Or.inr ⟨qX11_38, rfl⟩) (by decide) sh82 rfl ?_
  refine wp_aload_n (M := mX11_init) (pc := 90) dX11_init_90 rfl rfl ?_
  refine wp_bipush (M := mX11_init) (pc := 91) dX11_init_91 (by decide : _ = (16 : Int32)) ?_
  refine wt_newi (M := mX11_init) (pc := 93) (k := 20) (n := 2519) (L := 93) (N := 16) dX11_init_93 sh93 (by decide) (by decide) (by decide) ?_
  refine wt_putr (M := mX11_init) (pc := 95) dX11_init_95 (Or.inr ⟨qX11_41, rfl⟩) (by decide) sh82 rfl ?_
  refine wp_aload_n (M := mX11_init) (pc := 98) dX11_init_98 rfl rfl ?_
  refine wp_bipush (M := mX11_init) (pc := 99) dX11_init_99 (by decide : _ = (16 : Int32)) ?_
  refine wt_newi (M := mX11_init) (pc := 101) (k := 19) (n := 2503) (L := 94) (N := 16) dX11_init_101 sh94 (by decide) (by decide) (by decide) ?_
  refine wt_putr (M := mX11_init) (pc := 103) dX11_init_103 (Or.inr ⟨qX11_44, rfl⟩) (by decide) sh82 rfl ?_
  refine wp_aload_n (M := mX11_init) (pc := 106) dX11_init_106 rfl rfl ?_
  refine wp_bipush (M := mX11_init) (pc := 107) dX11_init_107 (by decide : _ = (16 : Int32)) ?_
  refine wt_newi (M := mX11_init) (pc := 109) (k := 18) (n := 2487) (L := 95) (N := 16) dX11_init_109 sh95 (by decide) (by decide) (by decide) ?_
  refine wt_putr (M := mX11_init) (pc := 111) dX11_init_111 (Or.inr ⟨qX11_47, rfl⟩) (by decide) sh82 rfl ?_
  refine wp_aload_n (M := mX11_init) (pc := 114) dX11_init_114 rfl rfl ?_
  refine wp_bipush (M := mX11_init) (pc := 115) dX11_init_115 (by decide : _ = (16 : Int32)) ?_
  refine wt_newi (M := mX11_init) (pc := 117) (k := 17) (n := 2471) (L := 96) (N := 16) dX11_init_117 sh96 (by decide) (by decide) (by decide) ?_
  refine wt_putr (M := mX11_init) (pc := 119) dX11_init_119 (Or.inr ⟨qX11_50, rfl⟩) (by decide) sh82 rfl ?_
  refine wp_aload_n (M := mX11_init) (pc := 122) dX11_init_122 rfl rfl ?_
  refine wp_sipush (M := mX11_init) (pc := 123) dX11_init_123 (by decide : _ = (260 : Int32)) ?_
  refine wt_newi (M := mX11_init) (pc := 126) (k := 16) (n := 2211) (L := 97) (N := 260) dX11_init_126 sh97 (by decide) (by decide) (by decide) ?_
  refine wt_putr (M := mX11_init) (pc := 128) dX11_init_128 (Or.inr ⟨qX11_53, rfl⟩) (by decide) sh82 rfl ?_
  refine wp_aload_n (M := mX11_init) (pc := 131) dX11_init_131 rfl rfl ?_
  refine wp_bipush (M := mX11_init) (pc := 132) dX11_init_132 (by decide : _ = (16 : Int32)) ?_
  refine wt_newi (M := mX11_init) (pc := 134) (k := 15) (n := 2195) (L := 98) (N := 16) dX11_init_134 sh98 (by decide) (by decide) (by decide) ?_
  refine wt_putr (M := mX11_init) (pc := 136) dX11_init_136 (Or.inr ⟨qX11_56, rfl⟩) (by decide) sh82 rfl ?_
  refine wp_aload_n (M := mX11_init) (pc := 139) dX11_init_139 rfl rfl ?_
  refine wp_bipush (M := mX11_init) (pc := 140) dX11_init_140 (by decide : _ = (16 : Int32)) ?_
  refine wt_newi (M := mX11_init) (pc := 142) (k := 14) (n := 2179) (L := 99) (N := 16) dX11_init_142 sh99 (by decide) (by decide) (by decide) ?_
  refine wt_putr (M := mX11_init) (pc := 144) dX11_init_144 (Or.inr ⟨qX11_59, rfl⟩) (by decide) sh82 rfl ?_
  refine wp_aload_n (M := mX11_init) (pc := 147) dX11_init_147 rfl rfl ?_
  refine wp_bipush (M := mX11_init) (pc := 148) dX11_init_148 (by decide : _ = (16 : Int32)) ?_
  refine wt_newi (M := mX11_init) (pc := 150) (k := 13) (n := 2163) (L := 100) (N := 16) dX11_init_150 sh100 (by decide) (by decide) (by decide) ?_
  refine wt_putr (M := mX11_init) (pc := 152) dX11_init_152 (Or.inr ⟨qX11_62, rfl⟩) (by decide) sh82 rfl ?_
  refine wp_aload_n (M := mX11_init) (pc := 155) dX11_init_155 rfl rfl ?_
  refine wp_bipush (M := mX11_init) (pc := 156) dX11_init_156 (by decide : _ = (16 : Int32)) ?_
  refine wt_newi (M := mX11_init) (pc := 158) (k := 12) (n := 2147) (L := 101) (N := 16) dX11_init_158 sh101 (by decide) (by decide) (by decide) ?_
  refine wt_putr (M := mX11_init) (pc := 160) dX11_init_160 (Or.inr ⟨qX11_65, rfl⟩) (by decide) sh82 rfl ?_
  refine wp_aload_n (M := mX11_init) (pc := 163) dX11_init_163 rfl rfl ?_
  refine wp_sipush (M := mX11_init) (pc := 164) dX11_init_164 (by decide : _ = (260 : Int32)) ?_
  refine wt_newi (M := mX11_init) (pc := 167) (k := 11) (n := 1887) (L := 102) (N := 260) dX11_init_167 sh102 (by decide) (by decide) (by decide) ?_
  refine wt_putr (M := mX11_init) (pc := 169) dX11_init_169 (Or.inr ⟨qX11_68, rfl⟩) (by decide) sh82 rfl ?_
  refine wp_aload_n (M := mX11_init) (pc := 172) dX11_init_172 rfl rfl ?_
  refine wp_bipush (M := mX11_init) (pc := 173) dX11_init_173 (by decide : _ = (10 : Int32)) ?_
  refine wt_newi (M := mX11_init) (pc := 175) (k := 10) (n := 1877) (L := 103) (N := 10) dX11_init_175 sh103 (by decide) (by decide) (by decide) ?_
  refine wt_putr (M := mX11_init) (pc := 177) dX11_init_177 (Or.inr ⟨qX11_71, rfl⟩) (by decide) sh82 rfl ?_
  refine wp_aload_n (M := mX11_init) (pc := 180) dX11_init_180 rfl rfl ?_
  refine wp_bipush (M := mX11_init) (pc := 181) dX11_init_181 (by decide : _ = (64 : Int32)) ?_
  refine wt_newi (M := mX11_init) (pc := 183) (k := 9) (n := 1813) (L := 104) (N := 64) dX11_init_183 sh104 (by decide) (by decide) (by decide) ?_
  refine wt_putr (M := mX11_init) (pc := 185) dX11_init_185 (Or.inr ⟨qX11_74, rfl⟩) (by decide) sh82 rfl ?_
  refine wp_aload_n (M := mX11_init) (pc := 188) dX11_init_188 rfl rfl ?_
  refine wp_bipush (M := mX11_init) (pc := 189) dX11_init_189 (by decide : _ = (8 : Int32)) ?_
  refine wt_newi (M := mX11_init) (pc := 191) (k := 8) (n := 1805) (L := 105) (N := 8) dX11_init_191 sh105 (by decide) (by decide) (by decide) ?_
  refine wt_putr (M := mX11_init) (pc := 193) dX11_init_193 (Or.inr ⟨qX11_77, rfl⟩) (by decide) sh82 rfl ?_
  refine wp_aload_n (M := mX11_init) (pc := 196) dX11_init_196 rfl rfl ?_
  refine wp_bipush (M := mX11_init) (pc := 197) dX11_init_197 (by decide : _ = (10 : Int32)) ?_
  refine wt_newi (M := mX11_init) (pc := 199) (k := 7) (n := 1795) (L := 106) (N := 10) dX11_init_199 sh106 (by decide) (by decide) (by decide) ?_
  refine wt_putr (M := mX11_init) (pc := 201) dX11_init_201 (Or.inr ⟨qX11_80, rfl⟩) (by decide) sh82 rfl ?_
  refine wp_aload_n (M := mX11_init) (pc := 204) dX11_init_204 rfl rfl ?_
  refine wp_bipush (M := mX11_init) (pc := 205) dX11_init_205 (by decide : _ = (10 : Int32)) ?_
  refine wt_newi (M := mX11_init) (pc := 207) (k := 6) (n := 1785) (L := 107) (N := 10) dX11_init_207 sh107 (by decide) (by decide) (by decide) ?_
  refine wt_putr (M := mX11_init) (pc := 209) dX11_init_209 (Or.inr ⟨qX11_83, rfl⟩) (by decide) sh82 rfl ?_
  refine wp_aload_n (M := mX11_init) (pc := 212) dX11_init_212 rfl rfl ?_
  refine wp_sipush (M := mX11_init) (pc := 213) dX11_init_213 (by decide : _ = (241 : Int32)) ?_
  refine wt_newi (M := mX11_init) (pc := 216) (k := 5) (n := 1544) (L := 108) (N := 241) dX11_init_216 sh108 (by decide) (by decide) (by decide) ?_
  refine wt_putr (M := mX11_init) (pc := 218) dX11_init_218 (Or.inr ⟨qX11_86, rfl⟩) (by decide) sh82 rfl ?_
  refine wp_aload_n (M := mX11_init) (pc := 221) dX11_init_221 rfl rfl ?_
  refine wp_sipush (M := mX11_init) (pc := 222) dX11_init_222 (by decide : _ = (1446 : Int32)) ?_
  refine wt_newi (M := mX11_init) (pc := 225) (k := 4) (n := 98) (L := 109) (N := 1446) dX11_init_225 sh109 (by decide) (by decide) (by decide) ?_
  refine wt_putr (M := mX11_init) (pc := 227) dX11_init_227 (Or.inr ⟨qX11_89, rfl⟩) (by decide) sh82 rfl ?_
  refine wp_aload_n (M := mX11_init) (pc := 230) dX11_init_230 rfl rfl ?_
  refine wp_bipush (M := mX11_init) (pc := 231) dX11_init_231 (by decide : _ = (16 : Int32)) ?_
  refine wt_newi (M := mX11_init) (pc := 233) (k := 3) (n := 82) (L := 110) (N := 16) dX11_init_233 sh110 (by decide) (by decide) (by decide) ?_
  refine wt_putr (M := mX11_init) (pc := 235) dX11_init_235 (Or.inr ⟨qX11_92, rfl⟩) (by decide) sh82 rfl ?_
  refine wp_aload_n (M := mX11_init) (pc := 238) dX11_init_238 rfl rfl ?_
  refine wp_bipush (M := mX11_init) (pc := 239) dX11_init_239 (by decide : _ = (26 : Int32)) ?_
  refine wt_newi (M := mX11_init) (pc := 241) (k := 2) (n := 56) (L := 111) (N := 26) dX11_init_241 sh111 (by decide) (by decide) (by decide) ?_
  refine wt_putr (M := mX11_init) (pc := 243) dX11_init_243 (Or.inr ⟨qX11_95, rfl⟩) (by decide) sh82 rfl ?_
  refine wp_aload_n (M := mX11_init) (pc := 246) dX11_init_246 rfl rfl ?_
  refine wp_bipush (M := mX11_init) (pc := 247) dX11_init_247 (by decide : _ = (48 : Int32)) ?_
  refine wt_newb (M := mX11_init) (pc := 249) (k := 1) (n := 8) (L := 112) (N := 48) dX11_init_249 sh112 (by decide) (by decide) (by decide) ?_
  refine wt_putr (M := mX11_init) (pc := 251) dX11_init_251 (Or.inr ⟨qX11_98, rfl⟩) (by decide) sh82 rfl ?_
  refine wp_aload_n (M := mX11_init) (pc := 254) dX11_init_254 rfl rfl ?_
  refine wp_bipush (M := mX11_init) (pc := 255) dX11_init_255 (by decide : _ = (8 : Int32)) ?_
  refine wt_newi (M := mX11_init) (pc := 257) (k := 0) (n := 0) (L := 113) (N := 8) dX11_init_257 sh113 (by decide) (by decide) (by decide) ?_
  refine wt_putr (M := mX11_init) (pc := 259) dX11_init_259 (Or.inr ⟨qX11_101, rfl⟩) (by decide) sh82 rfl ?_
  refine wp_aload_n (M := mX11_init) (pc := 262) dX11_init_262 rfl rfl ?_
  refine wt_getr (M := mX11_init) (pc := 263) (r := 83) dX11_init_263 fX11_7 (by decide) sh82 rfl (by decide +kernel) ?_
  refine wp_sipush (M := mX11_init) (pc := 266) dX11_init_266 (by decide : _ = (390 : Int32)) ?_
  refine wp_iconst (M := mX11_init) (pc := 269) dX11_init_269 (by decide : _ = (1 : Int32)) ?_
  refine wt_iast (M := mX11_init) (pc := 270) (j := 390) dX11_init_270 (by decide) sh83 (vin (by decide)) rfl ?_
  refine wp_aload_n (M := mX11_init) (pc := 271) dX11_init_271 rfl rfl ?_
  refine wp_iconst (M := mX11_init) (pc := 272) dX11_init_272 (by decide : _ = (1 : Int32)) ?_
  refine wt_puti (M := mX11_init) (pc := 273) dX11_init_273 pX11_104 (by decide) sh82 rfl ?_
  refine wp_aload_n (M := mX11_init) (pc := 276) dX11_init_276 rfl rfl ?_
  refine wp_iconst (M := mX11_init) (pc := 277) dX11_init_277 (by decide : _ = (1 : Int32)) ?_
  refine wt_puti (M := mX11_init) (pc := 278) dX11_init_278 pX11_108 (by decide) sh82 rfl ?_
  refine wp_ret (M := mX11_init) (pc := 281) dX11_init_281 rfl ?_
  refine wp_astore_n (M := mL_law) (pc := 15) (ls' := [.retAddr 0, .ref 0, .ref 82, .null]) dL_law_15 rfl (by decide) rfl ?_
  exact kk
