theorem dL_law_0 : decode code 0 = .ok (.new 7, 3) := by decide +kernel
theorem dL_law_3 : decode code 3 = .ok (.dup, 1) := by decide +kernel
theorem dL_law_4 : decode code 4 = .ok (.invokespecial 9, 3) := by decide +kernel
theorem dL_law_7 : decode code 7 = .ok (.astore_n 1, 1) := by decide +kernel
theorem dL_law_8 : decode code 8 = .ok (.new 10, 3) := by decide +kernel
theorem dL_law_11 : decode code 11 = .ok (.dup, 1) := by decide +kernel
theorem dL_law_12 : decode code 12 = .ok (.invokespecial 12, 3) := by decide +kernel
theorem dL_law_15 : decode code 15 = .ok (.astore_n 2, 1) := by decide +kernel
theorem dL_law_16 : decode code 16 = .ok (.iconst 0, 1) := by decide +kernel
theorem dL_law_17 : decode code 17 = .ok (.istore_n 3, 1) := by decide +kernel
theorem dL_law_18 : decode code 18 = .ok (.iload_n 3, 1) := by decide +kernel
theorem dL_law_19 : decode code 19 = .ok (.aload_n 0, 1) := by decide +kernel
theorem dL_law_20 : decode code 20 = .ok (.arraylength, 1) := by decide +kernel
theorem dL_law_21 : decode code 21 = .ok (.bipush 6, 2) := by decide +kernel
theorem dL_law_23 : decode code 23 = .ok (.isub, 1) := by decide +kernel
theorem dL_law_24 : decode code 24 = .ok (.if_icmp .gt 976, 3) := by decide +kernel
theorem dL_law_27 : decode code 27 = .ok (.aload_n 0, 1) := by decide +kernel
theorem dL_law_28 : decode code 28 = .ok (.iload_n 3, 1) := by decide +kernel
theorem dL_law_29 : decode code 29 = .ok (.iaload, 1) := by decide +kernel
theorem dL_law_30 : decode code 30 = .ok (.bipush 31, 2) := by decide +kernel
theorem dL_law_32 : decode code 32 = .ok (.iand, 1) := by decide +kernel
theorem dL_law_33 : decode code 33 = .ok (.tableswitch 961 0 27 #[127, 190, 213, 226, 239, 262, 295, 328, 371, 404, 417, 450, 473, 486, 519, 542, 575, 638, 661, 684, 717, 760, 793, 826, 849, 892, 915, 938], 127) := by decide +kernel
theorem dL_law_160 : decode code 160 = .ok (.aload_n 1, 1) := by decide +kernel
theorem dL_law_161 : decode code 161 = .ok (.aload_n 0, 1) := by decide +kernel
theorem dL_law_162 : decode code 162 = .ok (.iload_n 3, 1) := by decide +kernel
theorem dL_law_163 : decode code 163 = .ok (.iconst 1, 1) := by decide +kernel
theorem dL_law_164 : decode code 164 = .ok (.iadd, 1) := by decide +kernel
theorem dL_law_165 : decode code 165 = .ok (.iaload, 1) := by decide +kernel
theorem dL_law_166 : decode code 166 = .ok (.aload_n 0, 1) := by decide +kernel
theorem dL_law_167 : decode code 167 = .ok (.iload_n 3, 1) := by decide +kernel
theorem dL_law_168 : decode code 168 = .ok (.iconst 2, 1) := by decide +kernel
theorem dL_law_169 : decode code 169 = .ok (.iadd, 1) := by decide +kernel
theorem dL_law_170 : decode code 170 = .ok (.iaload, 1) := by decide +kernel
theorem dL_law_171 : decode code 171 = .ok (.aload_n 0, 1) := by decide +kernel
theorem dL_law_172 : decode code 172 = .ok (.iload_n 3, 1) := by decide +kernel
theorem dL_law_173 : decode code 173 = .ok (.iconst 3, 1) := by decide +kernel
theorem dL_law_174 : decode code 174 = .ok (.iadd, 1) := by decide +kernel
theorem dL_law_175 : decode code 175 = .ok (.iaload, 1) := by decide +kernel
theorem dL_law_176 : decode code 176 = .ok (.aload_n 0, 1) := by decide +kernel
theorem dL_law_177 : decode code 177 = .ok (.iload_n 3, 1) := by decide +kernel
theorem dL_law_178 : decode code 178 = .ok (.iconst 4, 1) := by decide +kernel
theorem dL_law_179 : decode code 179 = .ok (.iadd, 1) := by decide +kernel
theorem dL_law_180 : decode code 180 = .ok (.iaload, 1) := by decide +kernel
theorem dL_law_181 : decode code 181 = .ok (.aload_n 0, 1) := by decide +kernel
theorem dL_law_182 : decode code 182 = .ok (.iload_n 3, 1) := by decide +kernel
theorem dL_law_183 : decode code 183 = .ok (.iconst 5, 1) := by decide +kernel
theorem dL_law_184 : decode code 184 = .ok (.iadd, 1) := by decide +kernel
theorem dL_law_185 : decode code 185 = .ok (.iaload, 1) := by decide +kernel
theorem dL_law_186 : decode code 186 = .ok (.invokevirtual 13, 3) := by decide +kernel
theorem dL_law_189 : decode code 189 = .ok (.aload_n 2, 1) := by decide +kernel
theorem dL_law_190 : decode code 190 = .ok (.aload_n 0, 1) := by decide +kernel
theorem dL_law_191 : decode code 191 = .ok (.iload_n 3, 1) := by decide +kernel
theorem dL_law_192 : decode code 192 = .ok (.iconst 1, 1) := by decide +kernel
theorem dL_law_193 : decode code 193 = .ok (.iadd, 1) := by decide +kernel
theorem dL_law_194 : decode code 194 = .ok (.iaload, 1) := by decide +kernel
theorem dL_law_195 : decode code 195 = .ok (.aload_n 0, 1) := by decide +kernel
theorem dL_law_196 : decode code 196 = .ok (.iload_n 3, 1) := by decide +kernel
theorem dL_law_197 : decode code 197 = .ok (.iconst 2, 1) := by decide +kernel
theorem dL_law_198 : decode code 198 = .ok (.iadd, 1) := by decide +kernel
theorem dL_law_199 : decode code 199 = .ok (.iaload, 1) := by decide +kernel
theorem dL_law_200 : decode code 200 = .ok (.aload_n 0, 1) := by decide +kernel
theorem dL_law_201 : decode code 201 = .ok (.iload_n 3, 1) := by decide +kernel
theorem dL_law_202 : decode code 202 = .ok (.iconst 3, 1) := by decide +kernel
theorem dL_law_203 : decode code 203 = .ok (.iadd, 1) := by decide +kernel
theorem dL_law_204 : decode code 204 = .ok (.iaload, 1) := by decide +kernel
theorem dL_law_205 : decode code 205 = .ok (.aload_n 0, 1) := by decide +kernel
theorem dL_law_206 : decode code 206 = .ok (.iload_n 3, 1) := by decide +kernel
theorem dL_law_207 : decode code 207 = .ok (.iconst 4, 1) := by decide +kernel
theorem dL_law_208 : decode code 208 = .ok (.iadd, 1) := by decide +kernel
theorem dL_law_209 : decode code 209 = .ok (.iaload, 1) := by decide +kernel
theorem dL_law_210 : decode code 210 = .ok (.aload_n 0, 1) := by decide +kernel
theorem dL_law_211 : decode code 211 = .ok (.iload_n 3, 1) := by decide +kernel
theorem dL_law_212 : decode code 212 = .ok (.iconst 5, 1) := by decide +kernel
theorem dL_law_213 : decode code 213 = .ok (.iadd, 1) := by decide +kernel
theorem dL_law_214 : decode code 214 = .ok (.iaload, 1) := by decide +kernel
theorem dL_law_215 : decode code 215 = .ok (.invokevirtual 17, 3) := by decide +kernel
theorem dL_law_218 : decode code 218 = .ok (.if_icmp .eq 776, 3) := by decide +kernel
theorem dL_law_221 : decode code 221 = .ok (.iconst 0, 1) := by decide +kernel
theorem dL_law_222 : decode code 222 = .ok (.ireturn, 1) := by decide +kernel
theorem dL_law_223 : decode code 223 = .ok (.aload_n 1, 1) := by decide +kernel
theorem dL_law_224 : decode code 224 = .ok (.aload_n 0, 1) := by decide +kernel
theorem dL_law_225 : decode code 225 = .ok (.iload_n 3, 1) := by decide +kernel
theorem dL_law_226 : decode code 226 = .ok (.iconst 1, 1) := by decide +kernel
theorem dL_law_227 : decode code 227 = .ok (.iadd, 1) := by decide +kernel
theorem dL_law_228 : decode code 228 = .ok (.iaload, 1) := by decide +kernel
theorem dL_law_229 : decode code 229 = .ok (.invokevirtual 18, 3) := by decide +kernel
theorem dL_law_232 : decode code 232 = .ok (.aload_n 2, 1) := by decide +kernel
theorem dL_law_233 : decode code 233 = .ok (.aload_n 0, 1) := by decide +kernel
theorem dL_law_234 : decode code 234 = .ok (.iload_n 3, 1) := by decide +kernel
theorem dL_law_235 : decode code 235 = .ok (.iconst 1, 1) := by decide +kernel
theorem dL_law_236 : decode code 236 = .ok (.iadd, 1) := by decide +kernel
theorem dL_law_237 : decode code 237 = .ok (.iaload, 1) := by decide +kernel
theorem dL_law_238 : decode code 238 = .ok (.invokevirtual 22, 3) := by decide +kernel
theorem dL_law_241 : decode code 241 = .ok (.if_icmp .eq 753, 3) := by decide +kernel
theorem dL_law_244 : decode code 244 = .ok (.iconst 0, 1) := by decide +kernel
theorem dL_law_245 : decode code 245 = .ok (.ireturn, 1) := by decide +kernel
theorem dL_law_246 : decode code 246 = .ok (.aload_n 1, 1) := by decide +kernel
theorem dL_law_247 : decode code 247 = .ok (.invokevirtual 23, 3) := by decide +kernel
theorem dL_law_250 : decode code 250 = .ok (.aload_n 2, 1) := by decide +kernel
theorem dL_law_251 : decode code 251 = .ok (.invokevirtual 27, 3) := by decide +kernel
theorem dL_law_254 : decode code 254 = .ok (.if_icmp .eq 740, 3) := by decide +kernel
theorem dL_law_257 : decode code 257 = .ok (.iconst 0, 1) := by decide +kernel
theorem dL_law_258 : decode code 258 = .ok (.ireturn, 1) := by decide +kernel
theorem dL_law_259 : decode code 259 = .ok (.aload_n 1, 1) := by decide +kernel
theorem dL_law_260 : decode code 260 = .ok (.invokevirtual 28, 3) := by decide +kernel
theorem dL_law_263 : decode code 263 = .ok (.aload_n 2, 1) := by decide +kernel
theorem dL_law_264 : decode code 264 = .ok (.invokevirtual 31, 3) := by decide +kernel
theorem dL_law_267 : decode code 267 = .ok (.if_icmp .eq 727, 3) := by decide +kernel
theorem dL_law_270 : decode code 270 = .ok (.iconst 0, 1) := by decide +kernel
theorem dL_law_271 : decode code 271 = .ok (.ireturn, 1) := by decide +kernel
theorem dL_law_272 : decode code 272 = .ok (.aload_n 1, 1) := by decide +kernel
theorem dL_law_273 : decode code 273 = .ok (.aload_n 0, 1) := by decide +kernel
theorem dL_law_274 : decode code 274 = .ok (.iload_n 3, 1) := by decide +kernel
theorem dL_law_275 : decode code 275 = .ok (.iconst 1, 1) := by decide +kernel
theorem dL_law_276 : decode code 276 = .ok (.iadd, 1) := by decide +kernel
theorem dL_law_277 : decode code 277 = .ok (.iaload, 1) := by decide +kernel
theorem dL_law_278 : decode code 278 = .ok (.invokevirtual 32, 3) := by decide +kernel
theorem dL_law_281 : decode code 281 = .ok (.aload_n 2, 1) := by decide +kernel
theorem dL_law_282 : decode code 282 = .ok (.aload_n 0, 1) := by decide +kernel
theorem dL_law_283 : decode code 283 = .ok (.iload_n 3, 1) := by decide +kernel
theorem dL_law_284 : decode code 284 = .ok (.iconst 1, 1) := by decide +kernel
theorem dL_law_285 : decode code 285 = .ok (.iadd, 1) := by decide +kernel
theorem dL_law_286 : decode code 286 = .ok (.iaload, 1) := by decide +kernel
theorem dL_law_287 : decode code 287 = .ok (.invokevirtual 35, 3) := by decide +kernel
theorem dL_law_290 : decode code 290 = .ok (.if_icmp .eq 704, 3) := by decide +kernel
theorem dL_law_293 : decode code 293 = .ok (.iconst 0, 1) := by decide +kernel
theorem dL_law_294 : decode code 294 = .ok (.ireturn, 1) := by decide +kernel
theorem dL_law_295 : decode code 295 = .ok (.aload_n 1, 1) := by decide +kernel
theorem dL_law_296 : decode code 296 = .ok (.aload_n 0, 1) := by decide +kernel
theorem dL_law_297 : decode code 297 = .ok (.iload_n 3, 1) := by decide +kernel
theorem dL_law_298 : decode code 298 = .ok (.iconst 1, 1) := by decide +kernel
theorem dL_law_299 : decode code 299 = .ok (.iadd, 1) := by decide +kernel
theorem dL_law_300 : decode code 300 = .ok (.iaload, 1) := by decide +kernel
theorem dL_law_301 : decode code 301 = .ok (.aload_n 0, 1) := by decide +kernel
theorem dL_law_302 : decode code 302 = .ok (.iload_n 3, 1) := by decide +kernel
theorem dL_law_303 : decode code 303 = .ok (.iconst 2, 1) := by decide +kernel
theorem dL_law_304 : decode code 304 = .ok (.iadd, 1) := by decide +kernel
theorem dL_law_305 : decode code 305 = .ok (.iaload, 1) := by decide +kernel
theorem dL_law_306 : decode code 306 = .ok (.invokevirtual 36, 3) := by decide +kernel
theorem dL_law_309 : decode code 309 = .ok (.aload_n 2, 1) := by decide +kernel
theorem dL_law_310 : decode code 310 = .ok (.aload_n 0, 1) := by decide +kernel
theorem dL_law_311 : decode code 311 = .ok (.iload_n 3, 1) := by decide +kernel
theorem dL_law_312 : decode code 312 = .ok (.iconst 1, 1) := by decide +kernel
theorem dL_law_313 : decode code 313 = .ok (.iadd, 1) := by decide +kernel
theorem dL_law_314 : decode code 314 = .ok (.iaload, 1) := by decide +kernel
theorem dL_law_315 : decode code 315 = .ok (.aload_n 0, 1) := by decide +kernel
theorem dL_law_316 : decode code 316 = .ok (.iload_n 3, 1) := by decide +kernel
theorem dL_law_317 : decode code 317 = .ok (.iconst 2, 1) := by decide +kernel
theorem dL_law_318 : decode code 318 = .ok (.iadd, 1) := by decide +kernel
theorem dL_law_319 : decode code 319 = .ok (.iaload, 1) := by decide +kernel
theorem dL_law_320 : decode code 320 = .ok (.invokevirtual 40, 3) := by decide +kernel
theorem dL_law_323 : decode code 323 = .ok (.if_icmp .eq 671, 3) := by decide +kernel
theorem dL_law_326 : decode code 326 = .ok (.iconst 0, 1) := by decide +kernel
theorem dL_law_327 : decode code 327 = .ok (.ireturn, 1) := by decide +kernel
theorem dL_law_328 : decode code 328 = .ok (.aload_n 1, 1) := by decide +kernel
theorem dL_law_329 : decode code 329 = .ok (.aload_n 0, 1) := by decide +kernel
theorem dL_law_330 : decode code 330 = .ok (.iload_n 3, 1) := by decide +kernel
theorem dL_law_331 : decode code 331 = .ok (.iconst 1, 1) := by decide +kernel
theorem dL_law_332 : decode code 332 = .ok (.iadd, 1) := by decide +kernel
theorem dL_law_333 : decode code 333 = .ok (.iaload, 1) := by decide +kernel
theorem dL_law_334 : decode code 334 = .ok (.aload_n 0, 1) := by decide +kernel
theorem dL_law_335 : decode code 335 = .ok (.iload_n 3, 1) := by decide +kernel
theorem dL_law_336 : decode code 336 = .ok (.iconst 2, 1) := by decide +kernel
theorem dL_law_337 : decode code 337 = .ok (.iadd, 1) := by decide +kernel
theorem dL_law_338 : decode code 338 = .ok (.iaload, 1) := by decide +kernel
theorem dL_law_339 : decode code 339 = .ok (.invokevirtual 41, 3) := by decide +kernel
theorem dL_law_342 : decode code 342 = .ok (.aload_n 2, 1) := by decide +kernel
theorem dL_law_343 : decode code 343 = .ok (.aload_n 0, 1) := by decide +kernel
theorem dL_law_344 : decode code 344 = .ok (.iload_n 3, 1) := by decide +kernel
theorem dL_law_345 : decode code 345 = .ok (.iconst 1, 1) := by decide +kernel
theorem dL_law_346 : decode code 346 = .ok (.iadd, 1) := by decide +kernel
theorem dL_law_347 : decode code 347 = .ok (.iaload, 1) := by decide +kernel
theorem dL_law_348 : decode code 348 = .ok (.aload_n 0, 1) := by decide +kernel
theorem dL_law_349 : decode code 349 = .ok (.iload_n 3, 1) := by decide +kernel
theorem dL_law_350 : decode code 350 = .ok (.iconst 2, 1) := by decide +kernel
theorem dL_law_351 : decode code 351 = .ok (.iadd, 1) := by decide +kernel
theorem dL_law_352 : decode code 352 = .ok (.iaload, 1) := by decide +kernel
theorem dL_law_353 : decode code 353 = .ok (.invokevirtual 44, 3) := by decide +kernel
theorem dL_law_356 : decode code 356 = .ok (.if_icmp .eq 638, 3) := by decide +kernel
theorem dL_law_359 : decode code 359 = .ok (.iconst 0, 1) := by decide +kernel
theorem dL_law_360 : decode code 360 = .ok (.ireturn, 1) := by decide +kernel
theorem dL_law_361 : decode code 361 = .ok (.aload_n 1, 1) := by decide +kernel
theorem dL_law_362 : decode code 362 = .ok (.aload_n 0, 1) := by decide +kernel
theorem dL_law_363 : decode code 363 = .ok (.iload_n 3, 1) := by decide +kernel
theorem dL_law_364 : decode code 364 = .ok (.iconst 1, 1) := by decide +kernel
theorem dL_law_365 : decode code 365 = .ok (.iadd, 1) := by decide +kernel
theorem dL_law_366 : decode code 366 = .ok (.iaload, 1) := by decide +kernel
theorem dL_law_367 : decode code 367 = .ok (.aload_n 0, 1) := by decide +kernel
theorem dL_law_368 : decode code 368 = .ok (.iload_n 3, 1) := by decide +kernel
theorem dL_law_369 : decode code 369 = .ok (.iconst 2, 1) := by decide +kernel
theorem dL_law_370 : decode code 370 = .ok (.iadd, 1) := by decide +kernel
theorem dL_law_371 : decode code 371 = .ok (.iaload, 1) := by decide +kernel
theorem dL_law_372 : decode code 372 = .ok (.aload_n 0, 1) := by decide +kernel
theorem dL_law_373 : decode code 373 = .ok (.iload_n 3, 1) := by decide +kernel
theorem dL_law_374 : decode code 374 = .ok (.iconst 3, 1) := by decide +kernel
theorem dL_law_375 : decode code 375 = .ok (.iadd, 1) := by decide +kernel
theorem dL_law_376 : decode code 376 = .ok (.iaload, 1) := by decide +kernel
theorem dL_law_377 : decode code 377 = .ok (.invokevirtual 45, 3) := by decide +kernel
theorem dL_law_380 : decode code 380 = .ok (.aload_n 2, 1) := by decide +kernel
theorem dL_law_381 : decode code 381 = .ok (.aload_n 0, 1) := by decide +kernel
theorem dL_law_382 : decode code 382 = .ok (.iload_n 3, 1) := by decide +kernel
theorem dL_law_383 : decode code 383 = .ok (.iconst 1, 1) := by decide +kernel
theorem dL_law_384 : decode code 384 = .ok (.iadd, 1) := by decide +kernel
theorem dL_law_385 : decode code 385 = .ok (.iaload, 1) := by decide +kernel
theorem dL_law_386 : decode code 386 = .ok (.aload_n 0, 1) := by decide +kernel
theorem dL_law_387 : decode code 387 = .ok (.iload_n 3, 1) := by decide +kernel
theorem dL_law_388 : decode code 388 = .ok (.iconst 2, 1) := by decide +kernel
theorem dL_law_389 : decode code 389 = .ok (.iadd, 1) := by decide +kernel
theorem dL_law_390 : decode code 390 = .ok (.iaload, 1) := by decide +kernel
theorem dL_law_391 : decode code 391 = .ok (.aload_n 0, 1) := by decide +kernel
theorem dL_law_392 : decode code 392 = .ok (.iload_n 3, 1) := by decide +kernel
theorem dL_law_393 : decode code 393 = .ok (.iconst 3, 1) := by decide +kernel
theorem dL_law_394 : decode code 394 = .ok (.iadd, 1) := by decide +kernel
theorem dL_law_395 : decode code 395 = .ok (.iaload, 1) := by decide +kernel
theorem dL_law_396 : decode code 396 = .ok (.invokevirtual 49, 3) := by decide +kernel
theorem dL_law_399 : decode code 399 = .ok (.if_icmp .eq 595, 3) := by decide +kernel
theorem dL_law_402 : decode code 402 = .ok (.iconst 0, 1) := by decide +kernel
theorem dL_law_403 : decode code 403 = .ok (.ireturn, 1) := by decide +kernel
theorem dL_law_404 : decode code 404 = .ok (.aload_n 1, 1) := by decide +kernel
theorem dL_law_405 : decode code 405 = .ok (.aload_n 0, 1) := by decide +kernel
theorem dL_law_406 : decode code 406 = .ok (.iload_n 3, 1) := by decide +kernel
theorem dL_law_407 : decode code 407 = .ok (.iconst 1, 1) := by decide +kernel
theorem dL_law_408 : decode code 408 = .ok (.iadd, 1) := by decide +kernel
theorem dL_law_409 : decode code 409 = .ok (.iaload, 1) := by decide +kernel
theorem dL_law_410 : decode code 410 = .ok (.aload_n 0, 1) := by decide +kernel
theorem dL_law_411 : decode code 411 = .ok (.iload_n 3, 1) := by decide +kernel
theorem dL_law_412 : decode code 412 = .ok (.iconst 2, 1) := by decide +kernel
theorem dL_law_413 : decode code 413 = .ok (.iadd, 1) := by decide +kernel
theorem dL_law_414 : decode code 414 = .ok (.iaload, 1) := by decide +kernel
theorem dL_law_415 : decode code 415 = .ok (.invokevirtual 50, 3) := by decide +kernel
theorem dL_law_418 : decode code 418 = .ok (.aload_n 2, 1) := by decide +kernel
theorem dL_law_419 : decode code 419 = .ok (.aload_n 0, 1) := by decide +kernel
theorem dL_law_420 : decode code 420 = .ok (.iload_n 3, 1) := by decide +kernel
theorem dL_law_421 : decode code 421 = .ok (.iconst 1, 1) := by decide +kernel
theorem dL_law_422 : decode code 422 = .ok (.iadd, 1) := by decide +kernel
theorem dL_law_423 : decode code 423 = .ok (.iaload, 1) := by decide +kernel
theorem dL_law_424 : decode code 424 = .ok (.aload_n 0, 1) := by decide +kernel
theorem dL_law_425 : decode code 425 = .ok (.iload_n 3, 1) := by decide +kernel
theorem dL_law_426 : decode code 426 = .ok (.iconst 2, 1) := by decide +kernel
theorem dL_law_427 : decode code 427 = .ok (.iadd, 1) := by decide +kernel
theorem dL_law_428 : decode code 428 = .ok (.iaload, 1) := by decide +kernel
theorem dL_law_429 : decode code 429 = .ok (.invokevirtual 53, 3) := by decide +kernel
theorem dL_law_432 : decode code 432 = .ok (.if_icmp .eq 562, 3) := by decide +kernel
theorem dL_law_435 : decode code 435 = .ok (.iconst 0, 1) := by decide +kernel
theorem dL_law_436 : decode code 436 = .ok (.ireturn, 1) := by decide +kernel
theorem dL_law_437 : decode code 437 = .ok (.aload_n 1, 1) := by decide +kernel
theorem dL_law_438 : decode code 438 = .ok (.invokevirtual 54, 3) := by decide +kernel
theorem dL_law_441 : decode code 441 = .ok (.aload_n 2, 1) := by decide +kernel
theorem dL_law_442 : decode code 442 = .ok (.invokevirtual 57, 3) := by decide +kernel
theorem dL_law_445 : decode code 445 = .ok (.if_icmp .eq 549, 3) := by decide +kernel
theorem dL_law_448 : decode code 448 = .ok (.iconst 0, 1) := by decide +kernel
theorem dL_law_449 : decode code 449 = .ok (.ireturn, 1) := by decide +kernel
theorem dL_law_450 : decode code 450 = .ok (.aload_n 1, 1) := by decide +kernel
theorem dL_law_451 : decode code 451 = .ok (.aload_n 0, 1) := by decide +kernel
theorem dL_law_452 : decode code 452 = .ok (.iload_n 3, 1) := by decide +kernel
theorem dL_law_453 : decode code 453 = .ok (.iconst 1, 1) := by decide +kernel
theorem dL_law_454 : decode code 454 = .ok (.iadd, 1) := by decide +kernel
theorem dL_law_455 : decode code 455 = .ok (.iaload, 1) := by decide +kernel
theorem dL_law_456 : decode code 456 = .ok (.aload_n 0, 1) := by decide +kernel
theorem dL_law_457 : decode code 457 = .ok (.iload_n 3, 1) := by decide +kernel
theorem dL_law_458 : decode code 458 = .ok (.iconst 2, 1) := by decide +kernel
theorem dL_law_459 : decode code 459 = .ok (.iadd, 1) := by decide +kernel
theorem dL_law_460 : decode code 460 = .ok (.iaload, 1) := by decide +kernel
theorem dL_law_461 : decode code 461 = .ok (.invokevirtual 58, 3) := by decide +kernel
theorem dL_law_464 : decode code 464 = .ok (.aload_n 2, 1) := by decide +kernel
theorem dL_law_465 : decode code 465 = .ok (.aload_n 0, 1) := by decide +kernel
theorem dL_law_466 : decode code 466 = .ok (.iload_n 3, 1) := by decide +kernel
theorem dL_law_467 : decode code 467 = .ok (.iconst 1, 1) := by decide +kernel
theorem dL_law_468 : decode code 468 = .ok (.iadd, 1) := by decide +kernel
theorem dL_law_469 : decode code 469 = .ok (.iaload, 1) := by decide +kernel
theorem dL_law_470 : decode code 470 = .ok (.aload_n 0, 1) := by decide +kernel
theorem dL_law_471 : decode code 471 = .ok (.iload_n 3, 1) := by decide +kernel
theorem dL_law_472 : decode code 472 = .ok (.iconst 2, 1) := by decide +kernel
theorem dL_law_473 : decode code 473 = .ok (.iadd, 1) := by decide +kernel
theorem dL_law_474 : decode code 474 = .ok (.iaload, 1) := by decide +kernel
theorem dL_law_475 : decode code 475 = .ok (.invokevirtual 61, 3) := by decide +kernel
theorem dL_law_478 : decode code 478 = .ok (.if_icmp .eq 516, 3) := by decide +kernel
theorem dL_law_481 : decode code 481 = .ok (.iconst 0, 1) := by decide +kernel
theorem dL_law_482 : decode code 482 = .ok (.ireturn, 1) := by decide +kernel
theorem dL_law_483 : decode code 483 = .ok (.aload_n 1, 1) := by decide +kernel
theorem dL_law_484 : decode code 484 = .ok (.aload_n 0, 1) := by decide +kernel
theorem dL_law_485 : decode code 485 = .ok (.iload_n 3, 1) := by decide +kernel
theorem dL_law_486 : decode code 486 = .ok (.iconst 1, 1) := by decide +kernel
theorem dL_law_487 : decode code 487 = .ok (.iadd, 1) := by decide +kernel
theorem dL_law_488 : decode code 488 = .ok (.iaload, 1) := by decide +kernel
theorem dL_law_489 : decode code 489 = .ok (.invokevirtual 62, 3) := by decide +kernel
theorem dL_law_492 : decode code 492 = .ok (.aload_n 2, 1) := by decide +kernel
theorem dL_law_493 : decode code 493 = .ok (.aload_n 0, 1) := by decide +kernel
theorem dL_law_494 : decode code 494 = .ok (.iload_n 3, 1) := by decide +kernel
theorem dL_law_495 : decode code 495 = .ok (.iconst 1, 1) := by decide +kernel
theorem dL_law_496 : decode code 496 = .ok (.iadd, 1) := by decide +kernel
theorem dL_law_497 : decode code 497 = .ok (.iaload, 1) := by decide +kernel
theorem dL_law_498 : decode code 498 = .ok (.invokevirtual 65, 3) := by decide +kernel
theorem dL_law_501 : decode code 501 = .ok (.if_icmp .eq 493, 3) := by decide +kernel
theorem dL_law_504 : decode code 504 = .ok (.iconst 0, 1) := by decide +kernel
theorem dL_law_505 : decode code 505 = .ok (.ireturn, 1) := by decide +kernel
theorem dL_law_506 : decode code 506 = .ok (.aload_n 1, 1) := by decide +kernel
theorem dL_law_507 : decode code 507 = .ok (.invokevirtual 66, 3) := by decide +kernel
theorem dL_law_510 : decode code 510 = .ok (.aload_n 2, 1) := by decide +kernel
theorem dL_law_511 : decode code 511 = .ok (.invokevirtual 69, 3) := by decide +kernel
theorem dL_law_514 : decode code 514 = .ok (.if_icmp .eq 480, 3) := by decide +kernel
theorem dL_law_517 : decode code 517 = .ok (.iconst 0, 1) := by decide +kernel
theorem dL_law_518 : decode code 518 = .ok (.ireturn, 1) := by decide +kernel
theorem dL_law_519 : decode code 519 = .ok (.aload_n 1, 1) := by decide +kernel
theorem dL_law_520 : decode code 520 = .ok (.aload_n 0, 1) := by decide +kernel
theorem dL_law_521 : decode code 521 = .ok (.iload_n 3, 1) := by decide +kernel
theorem dL_law_522 : decode code 522 = .ok (.iconst 1, 1) := by decide +kernel
theorem dL_law_523 : decode code 523 = .ok (.iadd, 1) := by decide +kernel
theorem dL_law_524 : decode code 524 = .ok (.iaload, 1) := by decide +kernel
theorem dL_law_525 : decode code 525 = .ok (.aload_n 0, 1) := by decide +kernel
theorem dL_law_526 : decode code 526 = .ok (.iload_n 3, 1) := by decide +kernel
theorem dL_law_527 : decode code 527 = .ok (.iconst 2, 1) := by decide +kernel
theorem dL_law_528 : decode code 528 = .ok (.iadd, 1) := by decide +kernel
theorem dL_law_529 : decode code 529 = .ok (.iaload, 1) := by decide +kernel
theorem dL_law_530 : decode code 530 = .ok (.invokevirtual 70, 3) := by decide +kernel
theorem dL_law_533 : decode code 533 = .ok (.aload_n 2, 1) := by decide +kernel
theorem dL_law_534 : decode code 534 = .ok (.aload_n 0, 1) := by decide +kernel
theorem dL_law_535 : decode code 535 = .ok (.iload_n 3, 1) := by decide +kernel
theorem dL_law_536 : decode code 536 = .ok (.iconst 1, 1) := by decide +kernel
theorem dL_law_537 : decode code 537 = .ok (.iadd, 1) := by decide +kernel
theorem dL_law_538 : decode code 538 = .ok (.iaload, 1) := by decide +kernel
theorem dL_law_539 : decode code 539 = .ok (.aload_n 0, 1) := by decide +kernel
theorem dL_law_540 : decode code 540 = .ok (.iload_n 3, 1) := by decide +kernel
theorem dL_law_541 : decode code 541 = .ok (.iconst 2, 1) := by decide +kernel
theorem dL_law_542 : decode code 542 = .ok (.iadd, 1) := by decide +kernel
theorem dL_law_543 : decode code 543 = .ok (.iaload, 1) := by decide +kernel
theorem dL_law_544 : decode code 544 = .ok (.invokevirtual 73, 3) := by decide +kernel
theorem dL_law_547 : decode code 547 = .ok (.if_icmp .eq 447, 3) := by decide +kernel
theorem dL_law_550 : decode code 550 = .ok (.iconst 0, 1) := by decide +kernel
theorem dL_law_551 : decode code 551 = .ok (.ireturn, 1) := by decide +kernel
theorem dL_law_552 : decode code 552 = .ok (.aload_n 1, 1) := by decide +kernel
theorem dL_law_553 : decode code 553 = .ok (.aload_n 0, 1) := by decide +kernel
theorem dL_law_554 : decode code 554 = .ok (.iload_n 3, 1) := by decide +kernel
theorem dL_law_555 : decode code 555 = .ok (.iconst 1, 1) := by decide +kernel
theorem dL_law_556 : decode code 556 = .ok (.iadd, 1) := by decide +kernel
theorem dL_law_557 : decode code 557 = .ok (.iaload, 1) := by decide +kernel
theorem dL_law_558 : decode code 558 = .ok (.invokevirtual 74, 3) := by decide +kernel
theorem dL_law_561 : decode code 561 = .ok (.aload_n 2, 1) := by decide +kernel
theorem dL_law_562 : decode code 562 = .ok (.aload_n 0, 1) := by decide +kernel
theorem dL_law_563 : decode code 563 = .ok (.iload_n 3, 1) := by decide +kernel
theorem dL_law_564 : decode code 564 = .ok (.iconst 1, 1) := by decide +kernel
theorem dL_law_565 : decode code 565 = .ok (.iadd, 1) := by decide +kernel
theorem dL_law_566 : decode code 566 = .ok (.iaload, 1) := by decide +kernel
theorem dL_law_567 : decode code 567 = .ok (.invokevirtual 77, 3) := by decide +kernel
theorem dL_law_570 : decode code 570 = .ok (.if_icmp .eq 424, 3) := by decide +kernel
theorem dL_law_573 : decode code 573 = .ok (.iconst 0, 1) := by decide +kernel
theorem dL_law_574 : decode code 574 = .ok (.ireturn, 1) := by decide +kernel
theorem dL_law_575 : decode code 575 = .ok (.aload_n 1, 1) := by decide +kernel
theorem dL_law_576 : decode code 576 = .ok (.aload_n 0, 1) := by decide +kernel
theorem dL_law_577 : decode code 577 = .ok (.iload_n 3, 1) := by decide +kernel
theorem dL_law_578 : decode code 578 = .ok (.iconst 1, 1) := by decide +kernel
theorem dL_law_579 : decode code 579 = .ok (.iadd, 1) := by decide +kernel
theorem dL_law_580 : decode code 580 = .ok (.iaload, 1) := by decide +kernel
theorem dL_law_581 : decode code 581 = .ok (.aload_n 0, 1) := by decide +kernel
theorem dL_law_582 : decode code 582 = .ok (.iload_n 3, 1) := by decide +kernel
theorem dL_law_583 : decode code 583 = .ok (.iconst 2, 1) := by decide +kernel
theorem dL_law_584 : decode code 584 = .ok (.iadd, 1) := by decide +kernel
theorem dL_law_585 : decode code 585 = .ok (.iaload, 1) := by decide +kernel
theorem dL_law_586 : decode code 586 = .ok (.invokevirtual 78, 3) := by decide +kernel
theorem dL_law_589 : decode code 589 = .ok (.aload_n 2, 1) := by decide +kernel
theorem dL_law_590 : decode code 590 = .ok (.aload_n 0, 1) := by decide +kernel
theorem dL_law_591 : decode code 591 = .ok (.iload_n 3, 1) := by decide +kernel
theorem dL_law_592 : decode code 592 = .ok (.iconst 1, 1) := by decide +kernel
theorem dL_law_593 : decode code 593 = .ok (.iadd, 1) := by decide +kernel
theorem dL_law_594 : decode code 594 = .ok (.iaload, 1) := by decide +kernel
theorem dL_law_595 : decode code 595 = .ok (.aload_n 0, 1) := by decide +kernel
theorem dL_law_596 : decode code 596 = .ok (.iload_n 3, 1) := by decide +kernel
theorem dL_law_597 : decode code 597 = .ok (.iconst 2, 1) := by decide +kernel
theorem dL_law_598 : decode code 598 = .ok (.iadd, 1) := by decide +kernel
theorem dL_law_599 : decode code 599 = .ok (.iaload, 1) := by decide +kernel
theorem dL_law_600 : decode code 600 = .ok (.invokevirtual 81, 3) := by decide +kernel
theorem dL_law_603 : decode code 603 = .ok (.if_icmp .eq 391, 3) := by decide +kernel
theorem dL_law_606 : decode code 606 = .ok (.iconst 0, 1) := by decide +kernel
theorem dL_law_607 : decode code 607 = .ok (.ireturn, 1) := by decide +kernel
theorem dL_law_608 : decode code 608 = .ok (.aload_n 1, 1) := by decide +kernel
theorem dL_law_609 : decode code 609 = .ok (.aload_n 0, 1) := by decide +kernel
theorem dL_law_610 : decode code 610 = .ok (.iload_n 3, 1) := by decide +kernel
theorem dL_law_611 : decode code 611 = .ok (.iconst 1, 1) := by decide +kernel
theorem dL_law_612 : decode code 612 = .ok (.iadd, 1) := by decide +kernel
theorem dL_law_613 : decode code 613 = .ok (.iaload, 1) := by decide +kernel
theorem dL_law_614 : decode code 614 = .ok (.aload_n 0, 1) := by decide +kernel
theorem dL_law_615 : decode code 615 = .ok (.iload_n 3, 1) := by decide +kernel
theorem dL_law_616 : decode code 616 = .ok (.iconst 2, 1) := by decide +kernel
theorem dL_law_617 : decode code 617 = .ok (.iadd, 1) := by decide +kernel
theorem dL_law_618 : decode code 618 = .ok (.iaload, 1) := by decide +kernel
theorem dL_law_619 : decode code 619 = .ok (.aload_n 0, 1) := by decide +kernel
theorem dL_law_620 : decode code 620 = .ok (.iload_n 3, 1) := by decide +kernel
theorem dL_law_621 : decode code 621 = .ok (.iconst 3, 1) := by decide +kernel
theorem dL_law_622 : decode code 622 = .ok (.iadd, 1) := by decide +kernel
theorem dL_law_623 : decode code 623 = .ok (.iaload, 1) := by decide +kernel
theorem dL_law_624 : decode code 624 = .ok (.aload_n 0, 1) := by decide +kernel
theorem dL_law_625 : decode code 625 = .ok (.iload_n 3, 1) := by decide +kernel
theorem dL_law_626 : decode code 626 = .ok (.iconst 4, 1) := by decide +kernel
theorem dL_law_627 : decode code 627 = .ok (.iadd, 1) := by decide +kernel
theorem dL_law_628 : decode code 628 = .ok (.iaload, 1) := by decide +kernel
theorem dL_law_629 : decode code 629 = .ok (.aload_n 0, 1) := by decide +kernel
theorem dL_law_630 : decode code 630 = .ok (.iload_n 3, 1) := by decide +kernel
theorem dL_law_631 : decode code 631 = .ok (.iconst 5, 1) := by decide +kernel
theorem dL_law_632 : decode code 632 = .ok (.iadd, 1) := by decide +kernel
theorem dL_law_633 : decode code 633 = .ok (.iaload, 1) := by decide +kernel
theorem dL_law_634 : decode code 634 = .ok (.invokevirtual 82, 3) := by decide +kernel
theorem dL_law_637 : decode code 637 = .ok (.aload_n 2, 1) := by decide +kernel
theorem dL_law_638 : decode code 638 = .ok (.aload_n 0, 1) := by decide +kernel
theorem dL_law_639 : decode code 639 = .ok (.iload_n 3, 1) := by decide +kernel
theorem dL_law_640 : decode code 640 = .ok (.iconst 1, 1) := by decide +kernel
theorem dL_law_641 : decode code 641 = .ok (.iadd, 1) := by decide +kernel
theorem dL_law_642 : decode code 642 = .ok (.iaload, 1) := by decide +kernel
theorem dL_law_643 : decode code 643 = .ok (.aload_n 0, 1) := by decide +kernel
theorem dL_law_644 : decode code 644 = .ok (.iload_n 3, 1) := by decide +kernel
theorem dL_law_645 : decode code 645 = .ok (.iconst 2, 1) := by decide +kernel
theorem dL_law_646 : decode code 646 = .ok (.iadd, 1) := by decide +kernel
theorem dL_law_647 : decode code 647 = .ok (.iaload, 1) := by decide +kernel
theorem dL_law_648 : decode code 648 = .ok (.aload_n 0, 1) := by decide +kernel
theorem dL_law_649 : decode code 649 = .ok (.iload_n 3, 1) := by decide +kernel
theorem dL_law_650 : decode code 650 = .ok (.iconst 3, 1) := by decide +kernel
theorem dL_law_651 : decode code 651 = .ok (.iadd, 1) := by decide +kernel
theorem dL_law_652 : decode code 652 = .ok (.iaload, 1) := by decide +kernel
theorem dL_law_653 : decode code 653 = .ok (.aload_n 0, 1) := by decide +kernel
theorem dL_law_654 : decode code 654 = .ok (.iload_n 3, 1) := by decide +kernel
theorem dL_law_655 : decode code 655 = .ok (.iconst 4, 1) := by decide +kernel
theorem dL_law_656 : decode code 656 = .ok (.iadd, 1) := by decide +kernel
theorem dL_law_657 : decode code 657 = .ok (.iaload, 1) := by decide +kernel
theorem dL_law_658 : decode code 658 = .ok (.aload_n 0, 1) := by decide +kernel
theorem dL_law_659 : decode code 659 = .ok (.iload_n 3, 1) := by decide +kernel
theorem dL_law_660 : decode code 660 = .ok (.iconst 5, 1) := by decide +kernel
theorem dL_law_661 : decode code 661 = .ok (.iadd, 1) := by decide +kernel
theorem dL_law_662 : decode code 662 = .ok (.iaload, 1) := by decide +kernel
theorem dL_law_663 : decode code 663 = .ok (.invokevirtual 85, 3) := by decide +kernel
theorem dL_law_666 : decode code 666 = .ok (.if_icmp .eq 328, 3) := by decide +kernel
theorem dL_law_669 : decode code 669 = .ok (.iconst 0, 1) := by decide +kernel
theorem dL_law_670 : decode code 670 = .ok (.ireturn, 1) := by decide +kernel
theorem dL_law_671 : decode code 671 = .ok (.aload_n 1, 1) := by decide +kernel
theorem dL_law_672 : decode code 672 = .ok (.aload_n 0, 1) := by decide +kernel
theorem dL_law_673 : decode code 673 = .ok (.iload_n 3, 1) := by decide +kernel
theorem dL_law_674 : decode code 674 = .ok (.iconst 1, 1) := by decide +kernel
theorem dL_law_675 : decode code 675 = .ok (.iadd, 1) := by decide +kernel
theorem dL_law_676 : decode code 676 = .ok (.iaload, 1) := by decide +kernel
theorem dL_law_677 : decode code 677 = .ok (.invokevirtual 86, 3) := by decide +kernel
theorem dL_law_680 : decode code 680 = .ok (.aload_n 2, 1) := by decide +kernel
theorem dL_law_681 : decode code 681 = .ok (.aload_n 0, 1) := by decide +kernel
theorem dL_law_682 : decode code 682 = .ok (.iload_n 3, 1) := by decide +kernel
theorem dL_law_683 : decode code 683 = .ok (.iconst 1, 1) := by decide +kernel
theorem dL_law_684 : decode code 684 = .ok (.iadd, 1) := by decide +kernel
theorem dL_law_685 : decode code 685 = .ok (.iaload, 1) := by decide +kernel
theorem dL_law_686 : decode code 686 = .ok (.invokevirtual 89, 3) := by decide +kernel
theorem dL_law_689 : decode code 689 = .ok (.if_icmp .eq 305, 3) := by decide +kernel
theorem dL_law_692 : decode code 692 = .ok (.iconst 0, 1) := by decide +kernel
theorem dL_law_693 : decode code 693 = .ok (.ireturn, 1) := by decide +kernel
theorem dL_law_694 : decode code 694 = .ok (.aload_n 1, 1) := by decide +kernel
theorem dL_law_695 : decode code 695 = .ok (.aload_n 0, 1) := by decide +kernel
theorem dL_law_696 : decode code 696 = .ok (.iload_n 3, 1) := by decide +kernel
theorem dL_law_697 : decode code 697 = .ok (.iconst 1, 1) := by decide +kernel
theorem dL_law_698 : decode code 698 = .ok (.iadd, 1) := by decide +kernel
theorem dL_law_699 : decode code 699 = .ok (.iaload, 1) := by decide +kernel
theorem dL_law_700 : decode code 700 = .ok (.invokevirtual 90, 3) := by decide +kernel
theorem dL_law_703 : decode code 703 = .ok (.aload_n 2, 1) := by decide +kernel
theorem dL_law_704 : decode code 704 = .ok (.aload_n 0, 1) := by decide +kernel
theorem dL_law_705 : decode code 705 = .ok (.iload_n 3, 1) := by decide +kernel
theorem dL_law_706 : decode code 706 = .ok (.iconst 1, 1) := by decide +kernel
theorem dL_law_707 : decode code 707 = .ok (.iadd, 1) := by decide +kernel
theorem dL_law_708 : decode code 708 = .ok (.iaload, 1) := by decide +kernel
theorem dL_law_709 : decode code 709 = .ok (.invokevirtual 93, 3) := by decide +kernel
theorem dL_law_712 : decode code 712 = .ok (.if_icmp .eq 282, 3) := by decide +kernel
theorem dL_law_715 : decode code 715 = .ok (.iconst 0, 1) := by decide +kernel
theorem dL_law_716 : decode code 716 = .ok (.ireturn, 1) := by decide +kernel
theorem dL_law_717 : decode code 717 = .ok (.aload_n 1, 1) := by decide +kernel
theorem dL_law_718 : decode code 718 = .ok (.aload_n 0, 1) := by decide +kernel
theorem dL_law_719 : decode code 719 = .ok (.iload_n 3, 1) := by decide +kernel
theorem dL_law_720 : decode code 720 = .ok (.iconst 1, 1) := by decide +kernel
theorem dL_law_721 : decode code 721 = .ok (.iadd, 1) := by decide +kernel
theorem dL_law_722 : decode code 722 = .ok (.iaload, 1) := by decide +kernel
theorem dL_law_723 : decode code 723 = .ok (.aload_n 0, 1) := by decide +kernel
theorem dL_law_724 : decode code 724 = .ok (.iload_n 3, 1) := by decide +kernel
theorem dL_law_725 : decode code 725 = .ok (.iconst 2, 1) := by decide +kernel
theorem dL_law_726 : decode code 726 = .ok (.iadd, 1) := by decide +kernel
theorem dL_law_727 : decode code 727 = .ok (.iaload, 1) := by decide +kernel
theorem dL_law_728 : decode code 728 = .ok (.invokevirtual 94, 3) := by decide +kernel
theorem dL_law_731 : decode code 731 = .ok (.aload_n 2, 1) := by decide +kernel
theorem dL_law_732 : decode code 732 = .ok (.aload_n 0, 1) := by decide +kernel
theorem dL_law_733 : decode code 733 = .ok (.iload_n 3, 1) := by decide +kernel
theorem dL_law_734 : decode code 734 = .ok (.iconst 1, 1) := by decide +kernel
theorem dL_law_735 : decode code 735 = .ok (.iadd, 1) := by decide +kernel
theorem dL_law_736 : decode code 736 = .ok (.iaload, 1) := by decide +kernel
theorem dL_law_737 : decode code 737 = .ok (.aload_n 0, 1) := by decide +kernel
theorem dL_law_738 : decode code 738 = .ok (.iload_n 3, 1) := by decide +kernel
theorem dL_law_739 : decode code 739 = .ok (.iconst 2, 1) := by decide +kernel
theorem dL_law_740 : decode code 740 = .ok (.iadd, 1) := by decide +kernel
theorem dL_law_741 : decode code 741 = .ok (.iaload, 1) := by decide +kernel
theorem dL_law_742 : decode code 742 = .ok (.invokevirtual 97, 3) := by decide +kernel
theorem dL_law_745 : decode code 745 = .ok (.if_icmp .eq 249, 3) := by decide +kernel
theorem dL_law_748 : decode code 748 = .ok (.iconst 0, 1) := by decide +kernel
theorem dL_law_749 : decode code 749 = .ok (.ireturn, 1) := by decide +kernel
theorem dL_law_750 : decode code 750 = .ok (.aload_n 1, 1) := by decide +kernel
theorem dL_law_751 : decode code 751 = .ok (.aload_n 0, 1) := by decide +kernel
theorem dL_law_752 : decode code 752 = .ok (.iload_n 3, 1) := by decide +kernel
theorem dL_law_753 : decode code 753 = .ok (.iconst 1, 1) := by decide +kernel
theorem dL_law_754 : decode code 754 = .ok (.iadd, 1) := by decide +kernel
theorem dL_law_755 : decode code 755 = .ok (.iaload, 1) := by decide +kernel
theorem dL_law_756 : decode code 756 = .ok (.aload_n 0, 1) := by decide +kernel
theorem dL_law_757 : decode code 757 = .ok (.iload_n 3, 1) := by decide +kernel
theorem dL_law_758 : decode code 758 = .ok (.iconst 2, 1) := by decide +kernel
theorem dL_law_759 : decode code 759 = .ok (.iadd, 1) := by decide +kernel
theorem dL_law_760 : decode code 760 = .ok (.iaload, 1) := by decide +kernel
theorem dL_law_761 : decode code 761 = .ok (.aload_n 0, 1) := by decide +kernel
theorem dL_law_762 : decode code 762 = .ok (.iload_n 3, 1) := by decide +kernel
theorem dL_law_763 : decode code 763 = .ok (.iconst 3, 1) := by decide +kernel
theorem dL_law_764 : decode code 764 = .ok (.iadd, 1) := by decide +kernel
theorem dL_law_765 : decode code 765 = .ok (.iaload, 1) := by decide +kernel
theorem dL_law_766 : decode code 766 = .ok (.invokevirtual 98, 3) := by decide +kernel
theorem dL_law_769 : decode code 769 = .ok (.aload_n 2, 1) := by decide +kernel
theorem dL_law_770 : decode code 770 = .ok (.aload_n 0, 1) := by decide +kernel
theorem dL_law_771 : decode code 771 = .ok (.iload_n 3, 1) := by decide +kernel
theorem dL_law_772 : decode code 772 = .ok (.iconst 1, 1) := by decide +kernel
theorem dL_law_773 : decode code 773 = .ok (.iadd, 1) := by decide +kernel
theorem dL_law_774 : decode code 774 = .ok (.iaload, 1) := by decide +kernel
theorem dL_law_775 : decode code 775 = .ok (.aload_n 0, 1) := by decide +kernel
theorem dL_law_776 : decode code 776 = .ok (.iload_n 3, 1) := by decide +kernel
theorem dL_law_777 : decode code 777 = .ok (.iconst 2, 1) := by decide +kernel
theorem dL_law_778 : decode code 778 = .ok (.iadd, 1) := by decide +kernel
theorem dL_law_779 : decode code 779 = .ok (.iaload, 1) := by decide +kernel
theorem dL_law_780 : decode code 780 = .ok (.aload_n 0, 1) := by decide +kernel
theorem dL_law_781 : decode code 781 = .ok (.iload_n 3, 1) := by decide +kernel
theorem dL_law_782 : decode code 782 = .ok (.iconst 3, 1) := by decide +kernel
theorem dL_law_783 : decode code 783 = .ok (.iadd, 1) := by decide +kernel
theorem dL_law_784 : decode code 784 = .ok (.iaload, 1) := by decide +kernel
theorem dL_law_785 : decode code 785 = .ok (.invokevirtual 101, 3) := by decide +kernel
theorem dL_law_788 : decode code 788 = .ok (.if_icmp .eq 206, 3) := by decide +kernel
theorem dL_law_791 : decode code 791 = .ok (.iconst 0, 1) := by decide +kernel
theorem dL_law_792 : decode code 792 = .ok (.ireturn, 1) := by decide +kernel
theorem dL_law_793 : decode code 793 = .ok (.aload_n 1, 1) := by decide +kernel
theorem dL_law_794 : decode code 794 = .ok (.aload_n 0, 1) := by decide +kernel
theorem dL_law_795 : decode code 795 = .ok (.iload_n 3, 1) := by decide +kernel
theorem dL_law_796 : decode code 796 = .ok (.iconst 1, 1) := by decide +kernel
theorem dL_law_797 : decode code 797 = .ok (.iadd, 1) := by decide +kernel
theorem dL_law_798 : decode code 798 = .ok (.iaload, 1) := by decide +kernel
theorem dL_law_799 : decode code 799 = .ok (.aload_n 0, 1) := by decide +kernel
theorem dL_law_800 : decode code 800 = .ok (.iload_n 3, 1) := by decide +kernel
theorem dL_law_801 : decode code 801 = .ok (.iconst 2, 1) := by decide +kernel
theorem dL_law_802 : decode code 802 = .ok (.iadd, 1) := by decide +kernel
theorem dL_law_803 : decode code 803 = .ok (.iaload, 1) := by decide +kernel
theorem dL_law_804 : decode code 804 = .ok (.invokevirtual 102, 3) := by decide +kernel
theorem dL_law_807 : decode code 807 = .ok (.aload_n 2, 1) := by decide +kernel
theorem dL_law_808 : decode code 808 = .ok (.aload_n 0, 1) := by decide +kernel
theorem dL_law_809 : decode code 809 = .ok (.iload_n 3, 1) := by decide +kernel
theorem dL_law_810 : decode code 810 = .ok (.iconst 1, 1) := by decide +kernel
theorem dL_law_811 : decode code 811 = .ok (.iadd, 1) := by decide +kernel
theorem dL_law_812 : decode code 812 = .ok (.iaload, 1) := by decide +kernel
theorem dL_law_813 : decode code 813 = .ok (.aload_n 0, 1) := by decide +kernel
theorem dL_law_814 : decode code 814 = .ok (.iload_n 3, 1) := by decide +kernel
theorem dL_law_815 : decode code 815 = .ok (.iconst 2, 1) := by decide +kernel
theorem dL_law_816 : decode code 816 = .ok (.iadd, 1) := by decide +kernel
theorem dL_law_817 : decode code 817 = .ok (.iaload, 1) := by decide +kernel
theorem dL_law_818 : decode code 818 = .ok (.invokevirtual 105, 3) := by decide +kernel
theorem dL_law_821 : decode code 821 = .ok (.if_icmp .eq 173, 3) := by decide +kernel
theorem dL_law_824 : decode code 824 = .ok (.iconst 0, 1) := by decide +kernel
theorem dL_law_825 : decode code 825 = .ok (.ireturn, 1) := by decide +kernel
theorem dL_law_826 : decode code 826 = .ok (.aload_n 1, 1) := by decide +kernel
theorem dL_law_827 : decode code 827 = .ok (.aload_n 0, 1) := by decide +kernel
theorem dL_law_828 : decode code 828 = .ok (.iload_n 3, 1) := by decide +kernel
theorem dL_law_829 : decode code 829 = .ok (.iconst 1, 1) := by decide +kernel
theorem dL_law_830 : decode code 830 = .ok (.iadd, 1) := by decide +kernel
theorem dL_law_831 : decode code 831 = .ok (.iaload, 1) := by decide +kernel
theorem dL_law_832 : decode code 832 = .ok (.aload_n 0, 1) := by decide +kernel
theorem dL_law_833 : decode code 833 = .ok (.iload_n 3, 1) := by decide +kernel
theorem dL_law_834 : decode code 834 = .ok (.iconst 2, 1) := by decide +kernel
theorem dL_law_835 : decode code 835 = .ok (.iadd, 1) := by decide +kernel
theorem dL_law_836 : decode code 836 = .ok (.iaload, 1) := by decide +kernel
theorem dL_law_837 : decode code 837 = .ok (.invokevirtual 106, 3) := by decide +kernel
theorem dL_law_840 : decode code 840 = .ok (.aload_n 2, 1) := by decide +kernel
theorem dL_law_841 : decode code 841 = .ok (.aload_n 0, 1) := by decide +kernel
theorem dL_law_842 : decode code 842 = .ok (.iload_n 3, 1) := by decide +kernel
theorem dL_law_843 : decode code 843 = .ok (.iconst 1, 1) := by decide +kernel
theorem dL_law_844 : decode code 844 = .ok (.iadd, 1) := by decide +kernel
theorem dL_law_845 : decode code 845 = .ok (.iaload, 1) := by decide +kernel
theorem dL_law_846 : decode code 846 = .ok (.aload_n 0, 1) := by decide +kernel
theorem dL_law_847 : decode code 847 = .ok (.iload_n 3, 1) := by decide +kernel
theorem dL_law_848 : decode code 848 = .ok (.iconst 2, 1) := by decide +kernel
theorem dL_law_849 : decode code 849 = .ok (.iadd, 1) := by decide +kernel
theorem dL_law_850 : decode code 850 = .ok (.iaload, 1) := by decide +kernel
theorem dL_law_851 : decode code 851 = .ok (.invokevirtual 109, 3) := by decide +kernel
theorem dL_law_854 : decode code 854 = .ok (.if_icmp .eq 140, 3) := by decide +kernel
theorem dL_law_857 : decode code 857 = .ok (.iconst 0, 1) := by decide +kernel
theorem dL_law_858 : decode code 858 = .ok (.ireturn, 1) := by decide +kernel
theorem dL_law_859 : decode code 859 = .ok (.aload_n 1, 1) := by decide +kernel
theorem dL_law_860 : decode code 860 = .ok (.aload_n 0, 1) := by decide +kernel
theorem dL_law_861 : decode code 861 = .ok (.iload_n 3, 1) := by decide +kernel
theorem dL_law_862 : decode code 862 = .ok (.iconst 1, 1) := by decide +kernel
theorem dL_law_863 : decode code 863 = .ok (.iadd, 1) := by decide +kernel
theorem dL_law_864 : decode code 864 = .ok (.iaload, 1) := by decide +kernel
theorem dL_law_865 : decode code 865 = .ok (.invokevirtual 110, 3) := by decide +kernel
theorem dL_law_868 : decode code 868 = .ok (.aload_n 2, 1) := by decide +kernel
theorem dL_law_869 : decode code 869 = .ok (.aload_n 0, 1) := by decide +kernel
theorem dL_law_870 : decode code 870 = .ok (.iload_n 3, 1) := by decide +kernel
theorem dL_law_871 : decode code 871 = .ok (.iconst 1, 1) := by decide +kernel
theorem dL_law_872 : decode code 872 = .ok (.iadd, 1) := by decide +kernel
theorem dL_law_873 : decode code 873 = .ok (.iaload, 1) := by decide +kernel
theorem dL_law_874 : decode code 874 = .ok (.invokevirtual 113, 3) := by decide +kernel
theorem dL_law_877 : decode code 877 = .ok (.if_icmp .eq 117, 3) := by decide +kernel
theorem dL_law_880 : decode code 880 = .ok (.iconst 0, 1) := by decide +kernel
theorem dL_law_881 : decode code 881 = .ok (.ireturn, 1) := by decide +kernel
theorem dL_law_882 : decode code 882 = .ok (.aload_n 1, 1) := by decide +kernel
theorem dL_law_883 : decode code 883 = .ok (.aload_n 0, 1) := by decide +kernel
theorem dL_law_884 : decode code 884 = .ok (.iload_n 3, 1) := by decide +kernel
theorem dL_law_885 : decode code 885 = .ok (.iconst 1, 1) := by decide +kernel
theorem dL_law_886 : decode code 886 = .ok (.iadd, 1) := by decide +kernel
theorem dL_law_887 : decode code 887 = .ok (.iaload, 1) := by decide +kernel
theorem dL_law_888 : decode code 888 = .ok (.aload_n 0, 1) := by decide +kernel
theorem dL_law_889 : decode code 889 = .ok (.iload_n 3, 1) := by decide +kernel
theorem dL_law_890 : decode code 890 = .ok (.iconst 2, 1) := by decide +kernel
theorem dL_law_891 : decode code 891 = .ok (.iadd, 1) := by decide +kernel
theorem dL_law_892 : decode code 892 = .ok (.iaload, 1) := by decide +kernel
theorem dL_law_893 : decode code 893 = .ok (.aload_n 0, 1) := by decide +kernel
theorem dL_law_894 : decode code 894 = .ok (.iload_n 3, 1) := by decide +kernel
theorem dL_law_895 : decode code 895 = .ok (.iconst 3, 1) := by decide +kernel
theorem dL_law_896 : decode code 896 = .ok (.iadd, 1) := by decide +kernel
theorem dL_law_897 : decode code 897 = .ok (.iaload, 1) := by decide +kernel
theorem dL_law_898 : decode code 898 = .ok (.invokevirtual 114, 3) := by decide +kernel
theorem dL_law_901 : decode code 901 = .ok (.aload_n 2, 1) := by decide +kernel
theorem dL_law_902 : decode code 902 = .ok (.aload_n 0, 1) := by decide +kernel
theorem dL_law_903 : decode code 903 = .ok (.iload_n 3, 1) := by decide +kernel
theorem dL_law_904 : decode code 904 = .ok (.iconst 1, 1) := by decide +kernel
theorem dL_law_905 : decode code 905 = .ok (.iadd, 1) := by decide +kernel
theorem dL_law_906 : decode code 906 = .ok (.iaload, 1) := by decide +kernel
theorem dL_law_907 : decode code 907 = .ok (.aload_n 0, 1) := by decide +kernel
theorem dL_law_908 : decode code 908 = .ok (.iload_n 3, 1) := by decide +kernel
theorem dL_law_909 : decode code 909 = .ok (.iconst 2, 1) := by decide +kernel
theorem dL_law_910 : decode code 910 = .ok (.iadd, 1) := by decide +kernel
theorem dL_law_911 : decode code 911 = .ok (.iaload, 1) := by decide +kernel
theorem dL_law_912 : decode code 912 = .ok (.aload_n 0, 1) := by decide +kernel
theorem dL_law_913 : decode code 913 = .ok (.iload_n 3, 1) := by decide +kernel
theorem dL_law_914 : decode code 914 = .ok (.iconst 3, 1) := by decide +kernel
theorem dL_law_915 : decode code 915 = .ok (.iadd, 1) := by decide +kernel
theorem dL_law_916 : decode code 916 = .ok (.iaload, 1) := by decide +kernel
theorem dL_law_917 : decode code 917 = .ok (.invokevirtual 117, 3) := by decide +kernel
theorem dL_law_920 : decode code 920 = .ok (.if_icmp .eq 74, 3) := by decide +kernel
theorem dL_law_923 : decode code 923 = .ok (.iconst 0, 1) := by decide +kernel
theorem dL_law_924 : decode code 924 = .ok (.ireturn, 1) := by decide +kernel
theorem dL_law_925 : decode code 925 = .ok (.aload_n 1, 1) := by decide +kernel
theorem dL_law_926 : decode code 926 = .ok (.aload_n 0, 1) := by decide +kernel
theorem dL_law_927 : decode code 927 = .ok (.iload_n 3, 1) := by decide +kernel
theorem dL_law_928 : decode code 928 = .ok (.iconst 1, 1) := by decide +kernel
theorem dL_law_929 : decode code 929 = .ok (.iadd, 1) := by decide +kernel
theorem dL_law_930 : decode code 930 = .ok (.iaload, 1) := by decide +kernel
theorem dL_law_931 : decode code 931 = .ok (.invokevirtual 118, 3) := by decide +kernel
theorem dL_law_934 : decode code 934 = .ok (.aload_n 2, 1) := by decide +kernel
theorem dL_law_935 : decode code 935 = .ok (.aload_n 0, 1) := by decide +kernel
theorem dL_law_936 : decode code 936 = .ok (.iload_n 3, 1) := by decide +kernel
theorem dL_law_937 : decode code 937 = .ok (.iconst 1, 1) := by decide +kernel
theorem dL_law_938 : decode code 938 = .ok (.iadd, 1) := by decide +kernel
theorem dL_law_939 : decode code 939 = .ok (.iaload, 1) := by decide +kernel
theorem dL_law_940 : decode code 940 = .ok (.invokevirtual 121, 3) := by decide +kernel
theorem dL_law_943 : decode code 943 = .ok (.if_icmp .eq 51, 3) := by decide +kernel
theorem dL_law_946 : decode code 946 = .ok (.iconst 0, 1) := by decide +kernel
theorem dL_law_947 : decode code 947 = .ok (.ireturn, 1) := by decide +kernel
theorem dL_law_948 : decode code 948 = .ok (.aload_n 1, 1) := by decide +kernel
theorem dL_law_949 : decode code 949 = .ok (.aload_n 0, 1) := by decide +kernel
theorem dL_law_950 : decode code 950 = .ok (.iload_n 3, 1) := by decide +kernel
theorem dL_law_951 : decode code 951 = .ok (.iconst 1, 1) := by decide +kernel
theorem dL_law_952 : decode code 952 = .ok (.iadd, 1) := by decide +kernel
theorem dL_law_953 : decode code 953 = .ok (.iaload, 1) := by decide +kernel
theorem dL_law_954 : decode code 954 = .ok (.invokevirtual 122, 3) := by decide +kernel
theorem dL_law_957 : decode code 957 = .ok (.aload_n 2, 1) := by decide +kernel
theorem dL_law_958 : decode code 958 = .ok (.aload_n 0, 1) := by decide +kernel
theorem dL_law_959 : decode code 959 = .ok (.iload_n 3, 1) := by decide +kernel
theorem dL_law_960 : decode code 960 = .ok (.iconst 1, 1) := by decide +kernel
theorem dL_law_961 : decode code 961 = .ok (.iadd, 1) := by decide +kernel
theorem dL_law_962 : decode code 962 = .ok (.iaload, 1) := by decide +kernel
theorem dL_law_963 : decode code 963 = .ok (.invokevirtual 125, 3) := by decide +kernel
theorem dL_law_966 : decode code 966 = .ok (.if_icmp .eq 28, 3) := by decide +kernel
theorem dL_law_969 : decode code 969 = .ok (.iconst 0, 1) := by decide +kernel
theorem dL_law_970 : decode code 970 = .ok (.ireturn, 1) := by decide +kernel
theorem dL_law_971 : decode code 971 = .ok (.aload_n 1, 1) := by decide +kernel
theorem dL_law_972 : decode code 972 = .ok (.aload_n 0, 1) := by decide +kernel
theorem dL_law_973 : decode code 973 = .ok (.iload_n 3, 1) := by decide +kernel
theorem dL_law_974 : decode code 974 = .ok (.iconst 1, 1) := by decide +kernel
theorem dL_law_975 : decode code 975 = .ok (.iadd, 1) := by decide +kernel
theorem dL_law_976 : decode code 976 = .ok (.iaload, 1) := by decide +kernel
theorem dL_law_977 : decode code 977 = .ok (.invokevirtual 126, 3) := by decide +kernel
theorem dL_law_980 : decode code 980 = .ok (.aload_n 2, 1) := by decide +kernel
theorem dL_law_981 : decode code 981 = .ok (.aload_n 0, 1) := by decide +kernel
theorem dL_law_982 : decode code 982 = .ok (.iload_n 3, 1) := by decide +kernel
theorem dL_law_983 : decode code 983 = .ok (.iconst 1, 1) := by decide +kernel
theorem dL_law_984 : decode code 984 = .ok (.iadd, 1) := by decide +kernel
theorem dL_law_985 : decode code 985 = .ok (.iaload, 1) := by decide +kernel
theorem dL_law_986 : decode code 986 = .ok (.invokevirtual 129, 3) := by decide +kernel
theorem dL_law_989 : decode code 989 = .ok (.if_icmp .eq 5, 3) := by decide +kernel
theorem dL_law_992 : decode code 992 = .ok (.iconst 0, 1) := by decide +kernel
theorem dL_law_993 : decode code 993 = .ok (.ireturn, 1) := by decide +kernel
theorem dL_law_994 : decode code 994 = .ok (.iinc 3 6, 3) := by decide +kernel
theorem dL_law_997 : decode code 997 = .ok (.goto (-979), 3) := by decide +kernel
theorem dL_law_1000 : decode code 1000 = .ok (.iconst 1, 1) := by decide +kernel
theorem dL_law_1001 : decode code 1001 = .ok (.ireturn, 1) := by decide +kernel
theorem vw_L_13 : VW R_law 13 yX11_feed cX11_feed 6 (some .int) 5 := ⟨⟨tw_608, tw_609, tw_610, tw_119, tw_611⟩, by decide +kernel⟩
theorem vw_L_17 : VW R_law 17 yX12_feed cX12_feed 6 (some .int) 5 := ⟨⟨tw_1397, tw_1398, tw_1399, tw_130, tw_1400⟩, by decide +kernel⟩
theorem vw_L_18 : VW R_law 18 yX11_end cX11_end 2 (some .int) 1 := ⟨⟨tw_616, tw_617, tw_618, tw_119, tw_619⟩, by decide +kernel⟩
theorem vw_L_22 : VW R_law 22 yX12_end cX12_end 2 (some .int) 1 := ⟨⟨tw_1405, tw_1406, tw_1407, tw_130, tw_1408⟩, by decide +kernel⟩
theorem vw_L_23 : VW R_law 23 yX11_town cX11_town 1 (some .int) 0 := ⟨⟨tw_620, tw_621, tw_622, tw_119, tw_623⟩, by decide +kernel⟩
theorem vw_L_27 : VW R_law 27 yX12_town cX12_town 2 (some .int) 0 := ⟨⟨tw_1570, tw_1571, tw_1572, tw_130, tw_1573⟩, by decide +kernel⟩
theorem vw_L_28 : VW R_law 28 yX11_rule cX11_rule 1 (some .int) 0 := ⟨⟨tw_778, tw_779, tw_780, tw_119, tw_781⟩, by decide +kernel⟩
theorem vw_L_31 : VW R_law 31 yX12_rule cX12_rule 1 (some .int) 0 := ⟨⟨tw_1409, tw_1410, tw_1411, tw_130, tw_1412⟩, by decide +kernel⟩
theorem vw_L_32 : VW R_law 32 yX11_force cX11_force 3 (some .int) 1 := ⟨⟨tw_878, tw_879, tw_880, tw_119, tw_881⟩, by decide +kernel⟩
theorem vw_L_35 : VW R_law 35 yX12_force cX12_force 3 (some .int) 1 := ⟨⟨tw_1574, tw_1575, tw_1576, tw_130, tw_1577⟩, by decide +kernel⟩
theorem vw_L_36 : VW R_law 36 yX11_person cX11_person 6 (some .int) 2 := ⟨⟨tw_882, tw_883, tw_884, tw_119, tw_885⟩, by decide +kernel⟩
theorem vw_L_40 : VW R_law 40 yX12_person cX12_person 4 (some .int) 2 := ⟨⟨tw_1582, tw_1583, tw_1584, tw_130, tw_1585⟩, by decide +kernel⟩
theorem vw_L_41 : VW R_law 41 yX11_trial cX11_trial 5 (some .int) 2 := ⟨⟨tw_902, tw_903, tw_904, tw_119, tw_905⟩, by decide +kernel⟩
theorem vw_L_44 : VW R_law 44 yX12_trial cX12_trial 3 (some .int) 2 := ⟨⟨tw_1614, tw_1615, tw_1616, tw_130, tw_1617⟩, by decide +kernel⟩
theorem vw_L_45 : VW R_law 45 yX11_can cX11_can 4 (some .int) 3 := ⟨⟨tw_910, tw_911, tw_912, tw_119, tw_913⟩, by decide +kernel⟩
theorem vw_L_49 : VW R_law 49 yX12_can cX12_can 4 (some .int) 3 := ⟨⟨tw_1623, tw_1624, tw_1625, tw_130, tw_1626⟩, by decide +kernel⟩
theorem vw_L_50 : VW R_law 50 yX11_right cX11_right 3 (some .int) 2 := ⟨⟨tw_936, tw_937, tw_938, tw_119, tw_939⟩, by decide +kernel⟩
theorem vw_L_53 : VW R_law 53 yX12_right cX12_right 3 (some .int) 2 := ⟨⟨tw_1643, tw_1644, tw_1645, tw_130, tw_1646⟩, by decide +kernel⟩
theorem vw_L_54 : VW R_law 54 yX11_day cX11_day 1 (some .int) 0 := ⟨⟨tw_987, tw_988, tw_989, tw_119, tw_990⟩, by decide +kernel⟩
theorem vw_L_57 : VW R_law 57 yX12_day cX12_day 1 (some .int) 0 := ⟨⟨tw_1680, tw_1681, tw_1682, tw_130, tw_1683⟩, by decide +kernel⟩
theorem vw_L_58 : VW R_law 58 yX11_hear cX11_hear 3 (some .int) 2 := ⟨⟨tw_1015, tw_1016, tw_1017, tw_119, tw_1018⟩, by decide +kernel⟩
theorem vw_L_61 : VW R_law 61 yX12_hear cX12_hear 3 (some .int) 2 := ⟨⟨tw_1703, tw_1704, tw_1705, tw_130, tw_1706⟩, by decide +kernel⟩
theorem vw_L_62 : VW R_law 62 yX11_teach cX11_teach 2 (some .int) 1 := ⟨⟨tw_1030, tw_1031, tw_1032, tw_119, tw_1033⟩, by decide +kernel⟩
theorem vw_L_65 : VW R_law 65 yX12_teach cX12_teach 2 (some .int) 1 := ⟨⟨tw_1715, tw_1716, tw_1717, tw_130, tw_1718⟩, by decide +kernel⟩
theorem vw_L_66 : VW R_law 66 yX11_undo cX11_undo 1 (some .int) 0 := ⟨⟨tw_1034, tw_1035, tw_1036, tw_119, tw_1037⟩, by decide +kernel⟩
theorem vw_L_69 : VW R_law 69 yX12_undo cX12_undo 2 (some .int) 0 := ⟨⟨tw_1676, tw_1677, tw_1678, tw_130, tw_1679⟩, by decide +kernel⟩
theorem vw_L_70 : VW R_law 70 yX11_soonest cX11_soonest 5 (some .int) 2 := ⟨⟨tw_1042, tw_1043, tw_1044, tw_119, tw_1045⟩, by decide +kernel⟩
theorem vw_L_73 : VW R_law 73 yX12_soonest cX12_soonest 4 (some .int) 2 := ⟨⟨tw_1719, tw_1720, tw_1721, tw_130, tw_1722⟩, by decide +kernel⟩
theorem vw_L_74 : VW R_law 74 yX11_benches cX11_benches 2 (some .int) 1 := ⟨⟨tw_1046, tw_1047, tw_1048, tw_119, tw_1049⟩, by decide +kernel⟩
theorem vw_L_77 : VW R_law 77 yX12_benches cX12_benches 4 (some .int) 1 := ⟨⟨tw_1723, tw_1724, tw_1725, tw_130, tw_1726⟩, by decide +kernel⟩
theorem vw_L_78 : VW R_law 78 yX11_down cX11_down 7 (some .int) 2 := ⟨⟨tw_1098, tw_1099, tw_1100, tw_119, tw_1101⟩, by decide +kernel⟩
theorem vw_L_81 : VW R_law 81 yX12_down cX12_down 7 (some .int) 2 := ⟨⟨tw_1779, tw_1780, tw_1781, tw_130, tw_1782⟩, by decide +kernel⟩
theorem vw_L_82 : VW R_law 82 yX11_commit cX11_commit 12 (some .int) 5 := ⟨⟨tw_1120, tw_1121, tw_1122, tw_119, tw_1123⟩, by decide +kernel⟩
theorem vw_L_85 : VW R_law 85 yX12_commit cX12_commit 10 (some .int) 5 := ⟨⟨tw_1792, tw_1793, tw_1794, tw_130, tw_1795⟩, by decide +kernel⟩
theorem vw_L_86 : VW R_law 86 yX11_above cX11_above 4 (some .int) 1 := ⟨⟨tw_1134, tw_1135, tw_1136, tw_119, tw_1137⟩, by decide +kernel⟩
theorem vw_L_89 : VW R_law 89 yX12_above cX12_above 4 (some .int) 1 := ⟨⟨tw_1801, tw_1802, tw_1803, tw_130, tw_1804⟩, by decide +kernel⟩
theorem vw_L_90 : VW R_law 90 yX11_lesson cX11_lesson 2 (some .int) 1 := ⟨⟨tw_1142, tw_1143, tw_1144, tw_119, tw_1145⟩, by decide +kernel⟩
theorem vw_L_93 : VW R_law 93 yX12_lesson cX12_lesson 7 (some .int) 1 := ⟨⟨tw_1775, tw_1776, tw_1777, tw_130, tw_1778⟩, by decide +kernel⟩
theorem vw_L_94 : VW R_law 94 yX11_clement cX11_clement 8 (some .int) 2 := ⟨⟨tw_1150, tw_1151, tw_1152, tw_119, tw_1153⟩, by decide +kernel⟩
theorem vw_L_97 : VW R_law 97 yX12_clement cX12_clement 7 (some .int) 2 := ⟨⟨tw_1809, tw_1810, tw_1811, tw_130, tw_1812⟩, by decide +kernel⟩
theorem vw_L_98 : VW R_law 98 yX11_fact cX11_fact 5 (some .int) 3 := ⟨⟨tw_1154, tw_1155, tw_1156, tw_119, tw_1157⟩, by decide +kernel⟩
theorem vw_L_101 : VW R_law 101 yX12_fact_ cX12_fact_ 5 (some .int) 3 := ⟨⟨tw_1814, tw_1815, tw_1816, tw_130, tw_1817⟩, by decide +kernel⟩
theorem vw_L_102 : VW R_law 102 yX11_who cX11_who 3 (some .int) 2 := ⟨⟨tw_1162, tw_1163, tw_1164, tw_119, tw_1165⟩, by decide +kernel⟩
theorem vw_L_105 : VW R_law 105 yX12_who cX12_who 5 (some .int) 2 := ⟨⟨tw_1819, tw_1820, tw_1821, tw_130, tw_1822⟩, by decide +kernel⟩
theorem vw_L_106 : VW R_law 106 yX11_look cX11_look 3 (some .int) 2 := ⟨⟨tw_1182, tw_1183, tw_1184, tw_119, tw_1185⟩, by decide +kernel⟩
theorem vw_L_109 : VW R_law 109 yX12_look cX12_look 5 (some .int) 2 := ⟨⟨tw_1839, tw_1840, tw_1841, tw_130, tw_1842⟩, by decide +kernel⟩
theorem vw_L_110 : VW R_law 110 yX11_seed cX11_seed 3 (some .int) 1 := ⟨⟨tw_1194, tw_1195, tw_1196, tw_119, tw_1197⟩, by decide +kernel⟩
theorem vw_L_113 : VW R_law 113 yX12_seed cX12_seed 3 (some .int) 1 := ⟨⟨tw_1847, tw_1848, tw_1849, tw_130, tw_1850⟩, by decide +kernel⟩
theorem vw_L_114 : VW R_law 114 yX11_years cX11_years 11 (some .int) 3 := ⟨⟨tw_1198, tw_1199, tw_1200, tw_119, tw_1201⟩, by decide +kernel⟩
theorem vw_L_117 : VW R_law 117 yX12_years cX12_years 10 (some .int) 3 := ⟨⟨tw_1851, tw_1852, tw_1853, tw_130, tw_1854⟩, by decide +kernel⟩
theorem vw_L_118 : VW R_law 118 yX11_count cX11_count 3 (some .int) 1 := ⟨⟨tw_1219, tw_1220, tw_1221, tw_119, tw_1222⟩, by decide +kernel⟩
theorem vw_L_121 : VW R_law 121 yX12_count cX12_count 4 (some .int) 1 := ⟨⟨tw_1869, tw_1870, tw_1871, tw_130, tw_1872⟩, by decide +kernel⟩
theorem vw_L_122 : VW R_law 122 yX11_image cX11_image 2 (some .int) 1 := ⟨⟨tw_1231, tw_1232, tw_1233, tw_119, tw_1234⟩, by decide +kernel⟩
theorem vw_L_125 : VW R_law 125 yX12_image cX12_image 3 (some .int) 1 := ⟨⟨tw_1873, tw_1874, tw_1875, tw_130, tw_1876⟩, by decide +kernel⟩
theorem vw_L_126 : VW R_law 126 yX11_back cX11_back 2 (some .int) 1 := ⟨⟨tw_1241, tw_1242, tw_1243, tw_119, tw_1244⟩, by decide +kernel⟩
theorem vw_L_129 : VW R_law 129 yX12_back cX12_back 3 (some .int) 1 := ⟨⟨tw_1877, tw_1878, tw_1879, tw_130, tw_1880⟩, by decide +kernel⟩
theorem law_go {i Lx : Nat} (hL : Lx ≤ 3072) (hi : i ≤ Lx) (h : ¬ (Int32.ofNat Lx - 6 < nI i)) : i + 6 ≤ Lx := by
  apply Classical.byContradiction
  intro g
  apply h
  rw [Int32.lt_iff_toInt_lt]
  have e1 : (nI Lx - nI 6).toInt = (Lx : Int) - ((6 : Nat) : Int) := pk_sub_toInt (by omega) (by omega)
  have e2 := nI_toInt (n := i) (by omega)
  show (nI Lx - nI 6).toInt < (nI i).toInt
  rw [e1, e2]
  omega
theorem law_in {i k Lx : Nat} {x3 : Int32} (hL : Lx ≤ 3072) (hi : i + 6 ≤ Lx) (ex : x3 = nI i) (hk : k < 6) : vp_in (x3 + nI k) Lx := by
  rw [ex, nI_add]
  exact vp_in_nI (by omega) (by omega)
set_option maxHeartbeats 4000000 in
set_option maxRecDepth 100000 in
theorem law_feed {p : Program} {l : Launch} {e : Env} {s : State} {m : MethodId} {below : List Frame} {meth : Method} {c : Code} {D : va_G} {cz : Nat → ClassId} {ev : Nat × Nat × Nat} {N : Nat} {Rel : RelT} (hG : Good N Rel) {b0 Lx : Nat} {xs : Nat → Int32} (hLx : Lx ≤ 3072) (C0 : lw_At p s m meth c b0 Lx xs) (hK : KX D cz ev (AL s) s) {b mb n i cells slots : Nat} {x3 : Int32} (hi : i + 6 ≤ Lx) (ex : x3 = nI i) (hcc : cells + 23 * (n + 1) ≤ 600000) (hss : slots + 401 * (n + 1) ≤ room_1.slots) {L : List Nat} {S : ST} {Rf : RT} {I : IT} {J : JT} {I' : IT} {J' : JT} {H : Heap} {locs : List Loc} (hR : Rel b mb L S Rf I J I' J') (hw : LWd D cz s L S Rf I J mb I' J' H locs) {ls : Array Slot} (hl : lv_has ls 4 [(0, .ref b0), (1, .ref b), (2, .ref mb), (3, .int x3)])
    (tl : ∀ (L : List Nat) (S : ST) (Rf : RT) (I : IT) (J : JT) (I' : IT) (J' : JT) (H : Heap) (locs : List Loc) (cl sl : Nat), Rel b mb L S Rf I J I' J' → LWd D cz s L S Rf I J mb I' J' H locs → cl + 23 * n ≤ 600000 → sl + 401 * n ≤ room_1.slots → W p l e room_1 s m #[Value.ref b0] below meth c H locs cl sl (lw_Z below #[Value.ref b0] s) (F0 m 994 ls [])) :
    W p l e room_1 s m #[Value.ref b0] below meth c H locs cells slots (lw_Z below #[Value.ref b0] s) (F0 m 160 ls []) := by
  obtain ⟨hx, hb, hr, hml, hown, hts, hX, hbl, hlocks, hgv⟩ := C0
  have X : CallFix p m c code 4 s #[Value.ref b0] gw R_law := ⟨hx, hb, hml, hown, fun w hw => hts w (gw_tbl w hw)⟩
  have hbA : ¬ AL s b0 := Nat.not_le.mpr hbl
  have hC := hG.1 _ _ _ _ _ _ _ _ _ hR
  obtain ⟨r, I1, J1, I1', J1', hq1, hq2, hRel⟩ := hG.2.1 b mb L S Rf I J I' J' (xs (x3 + (1 : Int32)).toNatClampNeg) (xs (x3 + (2 : Int32)).toNatClampNeg) (xs (x3 + (3 : Int32)).toNatClampNeg) (xs (x3 + (4 : Int32)).toNatClampNeg) (xs (x3 + (5 : Int32)).toNatClampNeg) hR
  refine lv_aload_n hx hb dL_law_160 rfl (lv_at hl 1 rfl) ?_
  refine lv_aload_n hx hb dL_law_161 rfl (lv_at hl 0 rfl) ?_
  refine lv_iload_n hx hb dL_law_162 rfl (lv_at hl 3 rfl) ?_
  refine lv_iconst (v := (1 : Int32)) hx hb dL_law_163 (by decide) ?_
  refine lv_iadd hx hb dL_law_164 ?_
  refine va_sld hx hb hX hbl hbA hw.1.2.2 (law_in (k := 1) hLx hi ex (by decide)) dL_law_165 ?_
  refine lv_aload_n hx hb dL_law_166 rfl (lv_at hl 0 rfl) ?_
  refine lv_iload_n hx hb dL_law_167 rfl (lv_at hl 3 rfl) ?_
  refine lv_iconst (v := (2 : Int32)) hx hb dL_law_168 (by decide) ?_
  refine lv_iadd hx hb dL_law_169 ?_
  refine va_sld hx hb hX hbl hbA hw.1.2.2 (law_in (k := 2) hLx hi ex (by decide)) dL_law_170 ?_
  refine lv_aload_n hx hb dL_law_171 rfl (lv_at hl 0 rfl) ?_
  refine lv_iload_n hx hb dL_law_172 rfl (lv_at hl 3 rfl) ?_
  refine lv_iconst (v := (3 : Int32)) hx hb dL_law_173 (by decide) ?_
  refine lv_iadd hx hb dL_law_174 ?_
  refine va_sld hx hb hX hbl hbA hw.1.2.2 (law_in (k := 3) hLx hi ex (by decide)) dL_law_175 ?_
  refine lv_aload_n hx hb dL_law_176 rfl (lv_at hl 0 rfl) ?_
  refine lv_iload_n hx hb dL_law_177 rfl (lv_at hl 3 rfl) ?_
  refine lv_iconst (v := (4 : Int32)) hx hb dL_law_178 (by decide) ?_
  refine lv_iadd hx hb dL_law_179 ?_
  refine va_sld hx hb hX hbl hbA hw.1.2.2 (law_in (k := 4) hLx hi ex (by decide)) dL_law_180 ?_
  refine lv_aload_n hx hb dL_law_181 rfl (lv_at hl 0 rfl) ?_
  refine lv_iload_n hx hb dL_law_182 rfl (lv_at hl 3 rfl) ?_
  refine lv_iconst (v := (5 : Int32)) hx hb dL_law_183 (by decide) ?_
  refine lv_iadd hx hb dL_law_184 ?_
  refine va_sld hx hb hX hbl hbA hw.1.2.2 (law_in (k := 5) hLx hi ex (by decide)) dL_law_185 ?_
  refine y_cls X hK hw (c11_feed l D cz ev hC hq1) (cw_mem0 hC) (cw_S0 hC) cpX11.1 vw_L_13 ⟨Nat.le_of_ble_eq_true rfl, Nat.le_of_ble_eq_true rfl⟩ rfl rfl (Nat.le_of_ble_eq_true rfl) hl.1 ⟨(show cells ≤ 600000 by omega), (show slots ≤ room_1.slots by omega)⟩ dL_law_186 (fun H locs hw => ?_)
  refine lv_aload_n hx hb dL_law_189 rfl (lv_at hl 2 rfl) ?_
  refine lv_aload_n hx hb dL_law_190 rfl (lv_at hl 0 rfl) ?_
  refine lv_iload_n hx hb dL_law_191 rfl (lv_at hl 3 rfl) ?_
  refine lv_iconst (v := (1 : Int32)) hx hb dL_law_192 (by decide) ?_
  refine lv_iadd hx hb dL_law_193 ?_
  refine va_sld hx hb hX hbl hbA hw.1.2.2 (law_in (k := 1) hLx hi ex (by decide)) dL_law_194 ?_
  refine lv_aload_n hx hb dL_law_195 rfl (lv_at hl 0 rfl) ?_
  refine lv_iload_n hx hb dL_law_196 rfl (lv_at hl 3 rfl) ?_
  refine lv_iconst (v := (2 : Int32)) hx hb dL_law_197 (by decide) ?_
  refine lv_iadd hx hb dL_law_198 ?_
  refine va_sld hx hb hX hbl hbA hw.1.2.2 (law_in (k := 2) hLx hi ex (by decide)) dL_law_199 ?_
  refine lv_aload_n hx hb dL_law_200 rfl (lv_at hl 0 rfl) ?_
  refine lv_iload_n hx hb dL_law_201 rfl (lv_at hl 3 rfl) ?_
  refine lv_iconst (v := (3 : Int32)) hx hb dL_law_202 (by decide) ?_
  refine lv_iadd hx hb dL_law_203 ?_
  refine va_sld hx hb hX hbl hbA hw.1.2.2 (law_in (k := 3) hLx hi ex (by decide)) dL_law_204 ?_
  refine lv_aload_n hx hb dL_law_205 rfl (lv_at hl 0 rfl) ?_
  refine lv_iload_n hx hb dL_law_206 rfl (lv_at hl 3 rfl) ?_
  refine lv_iconst (v := (4 : Int32)) hx hb dL_law_207 (by decide) ?_
  refine lv_iadd hx hb dL_law_208 ?_
  refine va_sld hx hb hX hbl hbA hw.1.2.2 (law_in (k := 4) hLx hi ex (by decide)) dL_law_209 ?_
  refine lv_aload_n hx hb dL_law_210 rfl (lv_at hl 0 rfl) ?_
  refine lv_iload_n hx hb dL_law_211 rfl (lv_at hl 3 rfl) ?_
  refine lv_iconst (v := (5 : Int32)) hx hb dL_law_212 (by decide) ?_
  refine lv_iadd hx hb dL_law_213 ?_
  refine va_sld hx hb hX hbl hbA hw.1.2.2 (law_in (k := 5) hLx hi ex (by decide)) dL_law_214 ?_
  refine y_ref X hK hw (c12_feed l D cz ev mb hq2) cpX12.1 vw_L_17 ⟨Nat.le_of_ble_eq_true rfl, Nat.le_of_ble_eq_true rfl⟩ rfl rfl (Nat.le_of_ble_eq_true rfl) hl.1 ⟨(show cells + 0 ≤ 600000 by omega), (show slots + 0 ≤ room_1.slots by omega)⟩ dL_law_215 (fun H locs hw => ?_)
  refine lv_icmp_eq (tgt := 994) hx hb dL_law_218 (by decide) (fun _ => ?_) (fun g => absurd rfl g)
  exact tl _ _ _ _ _ _ _ _ _ _ _ hRel hw (by omega) (by omega)
set_option maxHeartbeats 4000000 in
set_option maxRecDepth 100000 in
theorem law_end {p : Program} {l : Launch} {e : Env} {s : State} {m : MethodId} {below : List Frame} {meth : Method} {c : Code} {D : va_G} {cz : Nat → ClassId} {ev : Nat × Nat × Nat} {N : Nat} {Rel : RelT} (hG : Good N Rel) {b0 Lx : Nat} {xs : Nat → Int32} (hLx : Lx ≤ 3072) (C0 : lw_At p s m meth c b0 Lx xs) (hK : KX D cz ev (AL s) s) {b mb n i cells slots : Nat} {x3 : Int32} (hi : i + 6 ≤ Lx) (ex : x3 = nI i) (hcc : cells + 23 * (n + 1) ≤ 600000) (hss : slots + 401 * (n + 1) ≤ room_1.slots) {L : List Nat} {S : ST} {Rf : RT} {I : IT} {J : JT} {I' : IT} {J' : JT} {H : Heap} {locs : List Loc} (hR : Rel b mb L S Rf I J I' J') (hw : LWd D cz s L S Rf I J mb I' J' H locs) {ls : Array Slot} (hl : lv_has ls 4 [(0, .ref b0), (1, .ref b), (2, .ref mb), (3, .int x3)])
    (tl : ∀ (L : List Nat) (S : ST) (Rf : RT) (I : IT) (J : JT) (I' : IT) (J' : JT) (H : Heap) (locs : List Loc) (cl sl : Nat), Rel b mb L S Rf I J I' J' → LWd D cz s L S Rf I J mb I' J' H locs → cl + 23 * n ≤ 600000 → sl + 401 * n ≤ room_1.slots → W p l e room_1 s m #[Value.ref b0] below meth c H locs cl sl (lw_Z below #[Value.ref b0] s) (F0 m 994 ls [])) :
    W p l e room_1 s m #[Value.ref b0] below meth c H locs cells slots (lw_Z below #[Value.ref b0] s) (F0 m 223 ls []) := by
  obtain ⟨hx, hb, hr, hml, hown, hts, hX, hbl, hlocks, hgv⟩ := C0
  have X : CallFix p m c code 4 s #[Value.ref b0] gw R_law := ⟨hx, hb, hml, hown, fun w hw => hts w (gw_tbl w hw)⟩
  have hbA : ¬ AL s b0 := Nat.not_le.mpr hbl
  have hC := hG.1 _ _ _ _ _ _ _ _ _ hR
  obtain ⟨r, I1, J1, I1', J1', hq1, hq2, hRel⟩ := hG.2.2.1 b mb L S Rf I J I' J' (xs (x3 + (1 : Int32)).toNatClampNeg) hR
  refine lv_aload_n hx hb dL_law_223 rfl (lv_at hl 1 rfl) ?_
  refine lv_aload_n hx hb dL_law_224 rfl (lv_at hl 0 rfl) ?_
  refine lv_iload_n hx hb dL_law_225 rfl (lv_at hl 3 rfl) ?_
  refine lv_iconst (v := (1 : Int32)) hx hb dL_law_226 (by decide) ?_
  refine lv_iadd hx hb dL_law_227 ?_
  refine va_sld hx hb hX hbl hbA hw.1.2.2 (law_in (k := 1) hLx hi ex (by decide)) dL_law_228 ?_
  refine y_cls X hK hw (c11_end l D cz ev hC hq1) (cw_mem0 hC) (cw_S0 hC) cpX11.1 vw_L_18 ⟨Nat.le_of_ble_eq_true rfl, Nat.le_of_ble_eq_true rfl⟩ rfl rfl (Nat.le_of_ble_eq_true rfl) hl.1 ⟨(show cells ≤ 600000 by omega), (show slots ≤ room_1.slots by omega)⟩ dL_law_229 (fun H locs hw => ?_)
  refine lv_aload_n hx hb dL_law_232 rfl (lv_at hl 2 rfl) ?_
  refine lv_aload_n hx hb dL_law_233 rfl (lv_at hl 0 rfl) ?_
  refine lv_iload_n hx hb dL_law_234 rfl (lv_at hl 3 rfl) ?_
  refine lv_iconst (v := (1 : Int32)) hx hb dL_law_235 (by decide) ?_
  refine lv_iadd hx hb dL_law_236 ?_
  refine va_sld hx hb hX hbl hbA hw.1.2.2 (law_in (k := 1) hLx hi ex (by decide)) dL_law_237 ?_
  refine y_ref X hK hw (c12_end l D cz ev mb hq2) cpX12.1 vw_L_22 ⟨Nat.le_of_ble_eq_true rfl, Nat.le_of_ble_eq_true rfl⟩ rfl rfl (Nat.le_of_ble_eq_true rfl) hl.1 ⟨(show cells + 0 ≤ 600000 by omega), (show slots + 0 ≤ room_1.slots by omega)⟩ dL_law_238 (fun H locs hw => ?_)
  refine lv_icmp_eq (tgt := 994) hx hb dL_law_241 (by decide) (fun _ => ?_) (fun g => absurd rfl g)
  exact tl _ _ _ _ _ _ _ _ _ _ _ hRel hw (by omega) (by omega)
set_option maxHeartbeats 4000000 in
set_option maxRecDepth 100000 in
theorem law_town {p : Program} {l : Launch} {e : Env} {s : State} {m : MethodId} {below : List Frame} {meth : Method} {c : Code} {D : va_G} {cz : Nat → ClassId} {ev : Nat × Nat × Nat} {N : Nat} {Rel : RelT} (hG : Good N Rel) {b0 Lx : Nat} {xs : Nat → Int32} (hLx : Lx ≤ 3072) (C0 : lw_At p s m meth c b0 Lx xs) (hK : KX D cz ev (AL s) s) {b mb n i cells slots : Nat} {x3 : Int32} (hi : i + 6 ≤ Lx) (ex : x3 = nI i) (hcc : cells + 23 * (n + 1) ≤ 600000) (hss : slots + 401 * (n + 1) ≤ room_1.slots) {L : List Nat} {S : ST} {Rf : RT} {I : IT} {J : JT} {I' : IT} {J' : JT} {H : Heap} {locs : List Loc} (hR : Rel b mb L S Rf I J I' J') (hw : LWd D cz s L S Rf I J mb I' J' H locs) {ls : Array Slot} (hl : lv_has ls 4 [(0, .ref b0), (1, .ref b), (2, .ref mb), (3, .int x3)])
    (tl : ∀ (L : List Nat) (S : ST) (Rf : RT) (I : IT) (J : JT) (I' : IT) (J' : JT) (H : Heap) (locs : List Loc) (cl sl : Nat), Rel b mb L S Rf I J I' J' → LWd D cz s L S Rf I J mb I' J' H locs → cl + 23 * n ≤ 600000 → sl + 401 * n ≤ room_1.slots → W p l e room_1 s m #[Value.ref b0] below meth c H locs cl sl (lw_Z below #[Value.ref b0] s) (F0 m 994 ls [])) :
    W p l e room_1 s m #[Value.ref b0] below meth c H locs cells slots (lw_Z below #[Value.ref b0] s) (F0 m 246 ls []) := by
  obtain ⟨hx, hb, hr, hml, hown, hts, hX, hbl, hlocks, hgv⟩ := C0
  have X : CallFix p m c code 4 s #[Value.ref b0] gw R_law := ⟨hx, hb, hml, hown, fun w hw => hts w (gw_tbl w hw)⟩
  have hbA : ¬ AL s b0 := Nat.not_le.mpr hbl
  have hC := hG.1 _ _ _ _ _ _ _ _ _ hR
  obtain ⟨r, I1, J1, I1', J1', hq1, hq2, hRel⟩ := hG.2.2.2.1 b mb L S Rf I J I' J'  hR
  refine lv_aload_n hx hb dL_law_246 rfl (lv_at hl 1 rfl) ?_
  refine y_cls X hK hw (c11_town l D cz ev hC hq1) (cw_mem0 hC) (cw_S0 hC) cpX11.1 vw_L_23 ⟨Nat.le_of_ble_eq_true rfl, Nat.le_of_ble_eq_true rfl⟩ rfl rfl (Nat.le_of_ble_eq_true rfl) hl.1 ⟨(show cells ≤ 600000 by omega), (show slots ≤ room_1.slots by omega)⟩ dL_law_247 (fun H locs hw => ?_)
  refine lv_aload_n hx hb dL_law_250 rfl (lv_at hl 2 rfl) ?_
  refine y_ref X hK hw (c12_town l D cz ev mb hq2) cpX12.1 vw_L_27 ⟨Nat.le_of_ble_eq_true rfl, Nat.le_of_ble_eq_true rfl⟩ rfl rfl (Nat.le_of_ble_eq_true rfl) hl.1 ⟨(show cells + 0 ≤ 600000 by omega), (show slots + 0 ≤ room_1.slots by omega)⟩ dL_law_251 (fun H locs hw => ?_)
  refine lv_icmp_eq (tgt := 994) hx hb dL_law_254 (by decide) (fun _ => ?_) (fun g => absurd rfl g)
  exact tl _ _ _ _ _ _ _ _ _ _ _ hRel hw (by omega) (by omega)
set_option maxHeartbeats 4000000 in
set_option maxRecDepth 100000 in
theorem law_rule {p : Program} {l : Launch} {e : Env} {s : State} {m : MethodId} {below : List Frame} {meth : Method} {c : Code} {D : va_G} {cz : Nat → ClassId} {ev : Nat × Nat × Nat} {N : Nat} {Rel : RelT} (hG : Good N Rel) {b0 Lx : Nat} {xs : Nat → Int32} (hLx : Lx ≤ 3072) (C0 : lw_At p s m meth c b0 Lx xs) (hK : KX D cz ev (AL s) s) {b mb n i cells slots : Nat} {x3 : Int32} (hi : i + 6 ≤ Lx) (ex : x3 = nI i) (hcc : cells + 23 * (n + 1) ≤ 600000) (hss : slots + 401 * (n + 1) ≤ room_1.slots) {L : List Nat} {S : ST} {Rf : RT} {I : IT} {J : JT} {I' : IT} {J' : JT} {H : Heap} {locs : List Loc} (hR : Rel b mb L S Rf I J I' J') (hw : LWd D cz s L S Rf I J mb I' J' H locs) {ls : Array Slot} (hl : lv_has ls 4 [(0, .ref b0), (1, .ref b), (2, .ref mb), (3, .int x3)])
    (tl : ∀ (L : List Nat) (S : ST) (Rf : RT) (I : IT) (J : JT) (I' : IT) (J' : JT) (H : Heap) (locs : List Loc) (cl sl : Nat), Rel b mb L S Rf I J I' J' → LWd D cz s L S Rf I J mb I' J' H locs → cl + 23 * n ≤ 600000 → sl + 401 * n ≤ room_1.slots → W p l e room_1 s m #[Value.ref b0] below meth c H locs cl sl (lw_Z below #[Value.ref b0] s) (F0 m 994 ls [])) :
    W p l e room_1 s m #[Value.ref b0] below meth c H locs cells slots (lw_Z below #[Value.ref b0] s) (F0 m 259 ls []) := by
  obtain ⟨hx, hb, hr, hml, hown, hts, hX, hbl, hlocks, hgv⟩ := C0
  have X : CallFix p m c code 4 s #[Value.ref b0] gw R_law := ⟨hx, hb, hml, hown, fun w hw => hts w (gw_tbl w hw)⟩
  have hbA : ¬ AL s b0 := Nat.not_le.mpr hbl
  have hC := hG.1 _ _ _ _ _ _ _ _ _ hR
  rcases hG.2.2.2.2.1 b mb L S Rf I J I' J'  hR with ⟨r, I1, J1, I1', J1', hq1, hq2, hRel⟩ | hN
  · refine lv_aload_n hx hb dL_law_259 rfl (lv_at hl 1 rfl) ?_
    refine y_cls X hK hw (c11_rule l D cz ev hC hq1) (cw_mem0 hC) (cw_S0 hC) cpX11.1 vw_L_28 ⟨Nat.le_of_ble_eq_true rfl, Nat.le_of_ble_eq_true rfl⟩ rfl rfl (Nat.le_of_ble_eq_true rfl) hl.1 ⟨(show cells ≤ 600000 by omega), (show slots ≤ room_1.slots by omega)⟩ dL_law_260 (fun H locs hw => ?_)
    refine lv_aload_n hx hb dL_law_263 rfl (lv_at hl 2 rfl) ?_
    refine y_ref X hK hw (c12_rule l D cz ev mb hq2) cpX12.1 vw_L_31 ⟨Nat.le_of_ble_eq_true rfl, Nat.le_of_ble_eq_true rfl⟩ rfl rfl (Nat.le_of_ble_eq_true rfl) hl.1 ⟨(show cells + 0 ≤ 600000 by omega), (show slots + 0 ≤ room_1.slots by omega)⟩ dL_law_264 (fun H locs hw => ?_)
    refine lv_icmp_eq (tgt := 994) hx hb dL_law_267 (by decide) (fun _ => ?_) (fun g => absurd rfl g)
    exact tl _ _ _ _ _ _ _ _ _ _ _ hRel hw (by omega) (by omega)
  · obtain ⟨r, S1, Rf1, I1, J1, I1', J1', hq1, hq2, hRel⟩ := hN H.size (fun a ha => wx_lt hw.1 ha) (fun a ha => wx_lt hw.2.1 ha)
    refine lv_aload_n hx hb dL_law_259 rfl (lv_at hl 1 rfl) ?_
    refine y_mak (z := H.size) X hK hw rfl (c11_ruleN l D cz ev hC hq1) (fun a ha => (apn_mem 2 ha).imp id (fun g => g.1)) (cw_mem0 hC) (cw_S0 hC) cpX11.1 vw_L_28 ⟨Nat.le_of_ble_eq_true rfl, Nat.le_of_ble_eq_true rfl⟩ rfl rfl (Nat.le_of_ble_eq_true rfl) hl.1 ⟨(show cells + 2 ≤ 600000 by omega), (show slots + 401 ≤ room_1.slots by omega)⟩ dL_law_260 (fun H locs hw => ?_)
    refine lv_aload_n hx hb dL_law_263 rfl (lv_at hl 2 rfl) ?_
    refine y_ref X hK hw (c12_rule l D cz ev mb hq2) cpX12.1 vw_L_31 ⟨Nat.le_of_ble_eq_true rfl, Nat.le_of_ble_eq_true rfl⟩ rfl rfl (Nat.le_of_ble_eq_true rfl) hl.1 ⟨(show cells + 2 ≤ 600000 by omega), (show slots + 401 ≤ room_1.slots by omega)⟩ dL_law_264 (fun H locs hw => ?_)
    refine lv_icmp_eq (tgt := 994) hx hb dL_law_267 (by decide) (fun _ => ?_) (fun g => absurd rfl g)
    exact tl _ _ _ _ _ _ _ _ _ _ _ hRel hw (by omega) (by omega)
set_option maxHeartbeats 4000000 in
set_option maxRecDepth 100000 in
theorem law_force {p : Program} {l : Launch} {e : Env} {s : State} {m : MethodId} {below : List Frame} {meth : Method} {c : Code} {D : va_G} {cz : Nat → ClassId} {ev : Nat × Nat × Nat} {N : Nat} {Rel : RelT} (hG : Good N Rel) {b0 Lx : Nat} {xs : Nat → Int32} (hLx : Lx ≤ 3072) (C0 : lw_At p s m meth c b0 Lx xs) (hK : KX D cz ev (AL s) s) {b mb n i cells slots : Nat} {x3 : Int32} (hi : i + 6 ≤ Lx) (ex : x3 = nI i) (hcc : cells + 23 * (n + 1) ≤ 600000) (hss : slots + 401 * (n + 1) ≤ room_1.slots) {L : List Nat} {S : ST} {Rf : RT} {I : IT} {J : JT} {I' : IT} {J' : JT} {H : Heap} {locs : List Loc} (hR : Rel b mb L S Rf I J I' J') (hw : LWd D cz s L S Rf I J mb I' J' H locs) {ls : Array Slot} (hl : lv_has ls 4 [(0, .ref b0), (1, .ref b), (2, .ref mb), (3, .int x3)])
    (tl : ∀ (L : List Nat) (S : ST) (Rf : RT) (I : IT) (J : JT) (I' : IT) (J' : JT) (H : Heap) (locs : List Loc) (cl sl : Nat), Rel b mb L S Rf I J I' J' → LWd D cz s L S Rf I J mb I' J' H locs → cl + 23 * n ≤ 600000 → sl + 401 * n ≤ room_1.slots → W p l e room_1 s m #[Value.ref b0] below meth c H locs cl sl (lw_Z below #[Value.ref b0] s) (F0 m 994 ls [])) :
    W p l e room_1 s m #[Value.ref b0] below meth c H locs cells slots (lw_Z below #[Value.ref b0] s) (F0 m 272 ls []) := by
  obtain ⟨hx, hb, hr, hml, hown, hts, hX, hbl, hlocks, hgv⟩ := C0
  have X : CallFix p m c code 4 s #[Value.ref b0] gw R_law := ⟨hx, hb, hml, hown, fun w hw => hts w (gw_tbl w hw)⟩
  have hbA : ¬ AL s b0 := Nat.not_le.mpr hbl
  have hC := hG.1 _ _ _ _ _ _ _ _ _ hR
  obtain ⟨r, I1, J1, I1', J1', hq1, hq2, hRel⟩ := hG.2.2.2.2.2.1 b mb L S Rf I J I' J' (xs (x3 + (1 : Int32)).toNatClampNeg) hR
  refine lv_aload_n hx hb dL_law_272 rfl (lv_at hl 1 rfl) ?_
  refine lv_aload_n hx hb dL_law_273 rfl (lv_at hl 0 rfl) ?_
  refine lv_iload_n hx hb dL_law_274 rfl (lv_at hl 3 rfl) ?_
  refine lv_iconst (v := (1 : Int32)) hx hb dL_law_275 (by decide) ?_
  refine lv_iadd hx hb dL_law_276 ?_
  refine va_sld hx hb hX hbl hbA hw.1.2.2 (law_in (k := 1) hLx hi ex (by decide)) dL_law_277 ?_
  refine y_cls X hK hw (c11_force l D cz ev hC hq1) (cw_mem0 hC) (cw_S0 hC) cpX11.1 vw_L_32 ⟨Nat.le_of_ble_eq_true rfl, Nat.le_of_ble_eq_true rfl⟩ rfl rfl (Nat.le_of_ble_eq_true rfl) hl.1 ⟨(show cells ≤ 600000 by omega), (show slots ≤ room_1.slots by omega)⟩ dL_law_278 (fun H locs hw => ?_)
  refine lv_aload_n hx hb dL_law_281 rfl (lv_at hl 2 rfl) ?_
  refine lv_aload_n hx hb dL_law_282 rfl (lv_at hl 0 rfl) ?_
  refine lv_iload_n hx hb dL_law_283 rfl (lv_at hl 3 rfl) ?_
  refine lv_iconst (v := (1 : Int32)) hx hb dL_law_284 (by decide) ?_
  refine lv_iadd hx hb dL_law_285 ?_
  refine va_sld hx hb hX hbl hbA hw.1.2.2 (law_in (k := 1) hLx hi ex (by decide)) dL_law_286 ?_
  refine y_ref X hK hw (c12_force l D cz ev mb hq2) cpX12.1 vw_L_35 ⟨Nat.le_of_ble_eq_true rfl, Nat.le_of_ble_eq_true rfl⟩ rfl rfl (Nat.le_of_ble_eq_true rfl) hl.1 ⟨(show cells + 0 ≤ 600000 by omega), (show slots + 0 ≤ room_1.slots by omega)⟩ dL_law_287 (fun H locs hw => ?_)
  refine lv_icmp_eq (tgt := 994) hx hb dL_law_290 (by decide) (fun _ => ?_) (fun g => absurd rfl g)
  exact tl _ _ _ _ _ _ _ _ _ _ _ hRel hw (by omega) (by omega)
set_option maxHeartbeats 4000000 in
set_option maxRecDepth 100000 in
theorem law_person {p : Program} {l : Launch} {e : Env} {s : State} {m : MethodId} {below : List Frame} {meth : Method} {c : Code} {D : va_G} {cz : Nat → ClassId} {ev : Nat × Nat × Nat} {N : Nat} {Rel : RelT} (hG : Good N Rel) {b0 Lx : Nat} {xs : Nat → Int32} (hLx : Lx ≤ 3072) (C0 : lw_At p s m meth c b0 Lx xs) (hK : KX D cz ev (AL s) s) {b mb n i cells slots : Nat} {x3 : Int32} (hi : i + 6 ≤ Lx) (ex : x3 = nI i) (hcc : cells + 23 * (n + 1) ≤ 600000) (hss : slots + 401 * (n + 1) ≤ room_1.slots) {L : List Nat} {S : ST} {Rf : RT} {I : IT} {J : JT} {I' : IT} {J' : JT} {H : Heap} {locs : List Loc} (hR : Rel b mb L S Rf I J I' J') (hw : LWd D cz s L S Rf I J mb I' J' H locs) {ls : Array Slot} (hl : lv_has ls 4 [(0, .ref b0), (1, .ref b), (2, .ref mb), (3, .int x3)])
    (tl : ∀ (L : List Nat) (S : ST) (Rf : RT) (I : IT) (J : JT) (I' : IT) (J' : JT) (H : Heap) (locs : List Loc) (cl sl : Nat), Rel b mb L S Rf I J I' J' → LWd D cz s L S Rf I J mb I' J' H locs → cl + 23 * n ≤ 600000 → sl + 401 * n ≤ room_1.slots → W p l e room_1 s m #[Value.ref b0] below meth c H locs cl sl (lw_Z below #[Value.ref b0] s) (F0 m 994 ls [])) :
    W p l e room_1 s m #[Value.ref b0] below meth c H locs cells slots (lw_Z below #[Value.ref b0] s) (F0 m 295 ls []) := by
  obtain ⟨hx, hb, hr, hml, hown, hts, hX, hbl, hlocks, hgv⟩ := C0
  have X : CallFix p m c code 4 s #[Value.ref b0] gw R_law := ⟨hx, hb, hml, hown, fun w hw => hts w (gw_tbl w hw)⟩
  have hbA : ¬ AL s b0 := Nat.not_le.mpr hbl
  have hC := hG.1 _ _ _ _ _ _ _ _ _ hR
  obtain ⟨r, I1, J1, I1', J1', hq1, hq2, hRel⟩ := hG.2.2.2.2.2.2.1 b mb L S Rf I J I' J' (xs (x3 + (1 : Int32)).toNatClampNeg) (xs (x3 + (2 : Int32)).toNatClampNeg) hR
  refine lv_aload_n hx hb dL_law_295 rfl (lv_at hl 1 rfl) ?_
  refine lv_aload_n hx hb dL_law_296 rfl (lv_at hl 0 rfl) ?_
  refine lv_iload_n hx hb dL_law_297 rfl (lv_at hl 3 rfl) ?_
  refine lv_iconst (v := (1 : Int32)) hx hb dL_law_298 (by decide) ?_
  refine lv_iadd hx hb dL_law_299 ?_
  refine va_sld hx hb hX hbl hbA hw.1.2.2 (law_in (k := 1) hLx hi ex (by decide)) dL_law_300 ?_
  refine lv_aload_n hx hb dL_law_301 rfl (lv_at hl 0 rfl) ?_
  refine lv_iload_n hx hb dL_law_302 rfl (lv_at hl 3 rfl) ?_
  refine lv_iconst (v := (2 : Int32)) hx hb dL_law_303 (by decide) ?_
  refine lv_iadd hx hb dL_law_304 ?_
  refine va_sld hx hb hX hbl hbA hw.1.2.2 (law_in (k := 2) hLx hi ex (by decide)) dL_law_305 ?_
  refine y_cls X hK hw (c11_person l D cz ev hC hq1) (cw_mem0 hC) (cw_S0 hC) cpX11.1 vw_L_36 ⟨Nat.le_of_ble_eq_true rfl, Nat.le_of_ble_eq_true rfl⟩ rfl rfl (Nat.le_of_ble_eq_true rfl) hl.1 ⟨(show cells ≤ 600000 by omega), (show slots ≤ room_1.slots by omega)⟩ dL_law_306 (fun H locs hw => ?_)
  refine lv_aload_n hx hb dL_law_309 rfl (lv_at hl 2 rfl) ?_
  refine lv_aload_n hx hb dL_law_310 rfl (lv_at hl 0 rfl) ?_
  refine lv_iload_n hx hb dL_law_311 rfl (lv_at hl 3 rfl) ?_
  refine lv_iconst (v := (1 : Int32)) hx hb dL_law_312 (by decide) ?_
  refine lv_iadd hx hb dL_law_313 ?_
  refine va_sld hx hb hX hbl hbA hw.1.2.2 (law_in (k := 1) hLx hi ex (by decide)) dL_law_314 ?_
  refine lv_aload_n hx hb dL_law_315 rfl (lv_at hl 0 rfl) ?_
  refine lv_iload_n hx hb dL_law_316 rfl (lv_at hl 3 rfl) ?_
  refine lv_iconst (v := (2 : Int32)) hx hb dL_law_317 (by decide) ?_
  refine lv_iadd hx hb dL_law_318 ?_
  refine va_sld hx hb hX hbl hbA hw.1.2.2 (law_in (k := 2) hLx hi ex (by decide)) dL_law_319 ?_
  refine y_ref X hK hw (c12_person l D cz ev mb hq2) cpX12.1 vw_L_40 ⟨Nat.le_of_ble_eq_true rfl, Nat.le_of_ble_eq_true rfl⟩ rfl rfl (Nat.le_of_ble_eq_true rfl) hl.1 ⟨(show cells + 0 ≤ 600000 by omega), (show slots + 0 ≤ room_1.slots by omega)⟩ dL_law_320 (fun H locs hw => ?_)
  refine lv_icmp_eq (tgt := 994) hx hb dL_law_323 (by decide) (fun _ => ?_) (fun g => absurd rfl g)
  exact tl _ _ _ _ _ _ _ _ _ _ _ hRel hw (by omega) (by omega)
set_option maxHeartbeats 4000000 in
set_option maxRecDepth 100000 in
theorem law_trial {p : Program} {l : Launch} {e : Env} {s : State} {m : MethodId} {below : List Frame} {meth : Method} {c : Code} {D : va_G} {cz : Nat → ClassId} {ev : Nat × Nat × Nat} {N : Nat} {Rel : RelT} (hG : Good N Rel) {b0 Lx : Nat} {xs : Nat → Int32} (hLx : Lx ≤ 3072) (C0 : lw_At p s m meth c b0 Lx xs) (hK : KX D cz ev (AL s) s) {b mb n i cells slots : Nat} {x3 : Int32} (hi : i + 6 ≤ Lx) (ex : x3 = nI i) (hcc : cells + 23 * (n + 1) ≤ 600000) (hss : slots + 401 * (n + 1) ≤ room_1.slots) {L : List Nat} {S : ST} {Rf : RT} {I : IT} {J : JT} {I' : IT} {J' : JT} {H : Heap} {locs : List Loc} (hR : Rel b mb L S Rf I J I' J') (hw : LWd D cz s L S Rf I J mb I' J' H locs) {ls : Array Slot} (hl : lv_has ls 4 [(0, .ref b0), (1, .ref b), (2, .ref mb), (3, .int x3)])
    (tl : ∀ (L : List Nat) (S : ST) (Rf : RT) (I : IT) (J : JT) (I' : IT) (J' : JT) (H : Heap) (locs : List Loc) (cl sl : Nat), Rel b mb L S Rf I J I' J' → LWd D cz s L S Rf I J mb I' J' H locs → cl + 23 * n ≤ 600000 → sl + 401 * n ≤ room_1.slots → W p l e room_1 s m #[Value.ref b0] below meth c H locs cl sl (lw_Z below #[Value.ref b0] s) (F0 m 994 ls [])) :
    W p l e room_1 s m #[Value.ref b0] below meth c H locs cells slots (lw_Z below #[Value.ref b0] s) (F0 m 328 ls []) := by
  obtain ⟨hx, hb, hr, hml, hown, hts, hX, hbl, hlocks, hgv⟩ := C0
  have X : CallFix p m c code 4 s #[Value.ref b0] gw R_law := ⟨hx, hb, hml, hown, fun w hw => hts w (gw_tbl w hw)⟩
  have hbA : ¬ AL s b0 := Nat.not_le.mpr hbl
  have hC := hG.1 _ _ _ _ _ _ _ _ _ hR
  obtain ⟨r, I1, J1, I1', J1', hq1, hq2, hRel⟩ := hG.2.2.2.2.2.2.2.1 b mb L S Rf I J I' J' (xs (x3 + (1 : Int32)).toNatClampNeg) (xs (x3 + (2 : Int32)).toNatClampNeg) hR
  refine lv_aload_n hx hb dL_law_328 rfl (lv_at hl 1 rfl) ?_
  refine lv_aload_n hx hb dL_law_329 rfl (lv_at hl 0 rfl) ?_
  refine lv_iload_n hx hb dL_law_330 rfl (lv_at hl 3 rfl) ?_
  refine lv_iconst (v := (1 : Int32)) hx hb dL_law_331 (by decide) ?_
  refine lv_iadd hx hb dL_law_332 ?_
  refine va_sld hx hb hX hbl hbA hw.1.2.2 (law_in (k := 1) hLx hi ex (by decide)) dL_law_333 ?_
  refine lv_aload_n hx hb dL_law_334 rfl (lv_at hl 0 rfl) ?_
  refine lv_iload_n hx hb dL_law_335 rfl (lv_at hl 3 rfl) ?_
  refine lv_iconst (v := (2 : Int32)) hx hb dL_law_336 (by decide) ?_
  refine lv_iadd hx hb dL_law_337 ?_
  refine va_sld hx hb hX hbl hbA hw.1.2.2 (law_in (k := 2) hLx hi ex (by decide)) dL_law_338 ?_
  refine y_cls X hK hw (c11_trial l D cz ev hC hq1) (cw_mem0 hC) (cw_S0 hC) cpX11.1 vw_L_41 ⟨Nat.le_of_ble_eq_true rfl, Nat.le_of_ble_eq_true rfl⟩ rfl rfl (Nat.le_of_ble_eq_true rfl) hl.1 ⟨(show cells ≤ 600000 by omega), (show slots ≤ room_1.slots by omega)⟩ dL_law_339 (fun H locs hw => ?_)
  refine lv_aload_n hx hb dL_law_342 rfl (lv_at hl 2 rfl) ?_
  refine lv_aload_n hx hb dL_law_343 rfl (lv_at hl 0 rfl) ?_
  refine lv_iload_n hx hb dL_law_344 rfl (lv_at hl 3 rfl) ?_
  refine lv_iconst (v := (1 : Int32)) hx hb dL_law_345 (by decide) ?_
  refine lv_iadd hx hb dL_law_346 ?_
  refine va_sld hx hb hX hbl hbA hw.1.2.2 (law_in (k := 1) hLx hi ex (by decide)) dL_law_347 ?_
  refine lv_aload_n hx hb dL_law_348 rfl (lv_at hl 0 rfl) ?_
  refine lv_iload_n hx hb dL_law_349 rfl (lv_at hl 3 rfl) ?_
  refine lv_iconst (v := (2 : Int32)) hx hb dL_law_350 (by decide) ?_
  refine lv_iadd hx hb dL_law_351 ?_
  refine va_sld hx hb hX hbl hbA hw.1.2.2 (law_in (k := 2) hLx hi ex (by decide)) dL_law_352 ?_
  refine y_ref X hK hw (c12_trial l D cz ev mb hq2) cpX12.1 vw_L_44 ⟨Nat.le_of_ble_eq_true rfl, Nat.le_of_ble_eq_true rfl⟩ rfl rfl (Nat.le_of_ble_eq_true rfl) hl.1 ⟨(show cells + 0 ≤ 600000 by omega), (show slots + 0 ≤ room_1.slots by omega)⟩ dL_law_353 (fun H locs hw => ?_)
  refine lv_icmp_eq (tgt := 994) hx hb dL_law_356 (by decide) (fun _ => ?_) (fun g => absurd rfl g)
  exact tl _ _ _ _ _ _ _ _ _ _ _ hRel hw (by omega) (by omega)
set_option maxHeartbeats 4000000 in
set_option maxRecDepth 100000 in
theorem law_can {p : Program} {l : Launch} {e : Env} {s : State} {m : MethodId} {below : List Frame} {meth : Method} {c : Code} {D : va_G} {cz : Nat → ClassId} {ev : Nat × Nat × Nat} {N : Nat} {Rel : RelT} (hG : Good N Rel) {b0 Lx : Nat} {xs : Nat → Int32} (hLx : Lx ≤ 3072) (C0 : lw_At p s m meth c b0 Lx xs) (hK : KX D cz ev (AL s) s) {b mb n i cells slots : Nat} {x3 : Int32} (hi : i + 6 ≤ Lx) (ex : x3 = nI i) (hcc : cells + 23 * (n + 1) ≤ 600000) (hss : slots + 401 * (n + 1) ≤ room_1.slots) {L : List Nat} {S : ST} {Rf : RT} {I : IT} {J : JT} {I' : IT} {J' : JT} {H : Heap} {locs : List Loc} (hR : Rel b mb L S Rf I J I' J') (hw : LWd D cz s L S Rf I J mb I' J' H locs) {ls : Array Slot} (hl : lv_has ls 4 [(0, .ref b0), (1, .ref b), (2, .ref mb), (3, .int x3)])
    (tl : ∀ (L : List Nat) (S : ST) (Rf : RT) (I : IT) (J : JT) (I' : IT) (J' : JT) (H : Heap) (locs : List Loc) (cl sl : Nat), Rel b mb L S Rf I J I' J' → LWd D cz s L S Rf I J mb I' J' H locs → cl + 23 * n ≤ 600000 → sl + 401 * n ≤ room_1.slots → W p l e room_1 s m #[Value.ref b0] below meth c H locs cl sl (lw_Z below #[Value.ref b0] s) (F0 m 994 ls [])) :
    W p l e room_1 s m #[Value.ref b0] below meth c H locs cells slots (lw_Z below #[Value.ref b0] s) (F0 m 361 ls []) := by
  obtain ⟨hx, hb, hr, hml, hown, hts, hX, hbl, hlocks, hgv⟩ := C0
  have X : CallFix p m c code 4 s #[Value.ref b0] gw R_law := ⟨hx, hb, hml, hown, fun w hw => hts w (gw_tbl w hw)⟩
  have hbA : ¬ AL s b0 := Nat.not_le.mpr hbl
  have hC := hG.1 _ _ _ _ _ _ _ _ _ hR
  obtain ⟨r, I1, J1, I1', J1', hq1, hq2, hRel⟩ := hG.2.2.2.2.2.2.2.2.1 b mb L S Rf I J I' J' (xs (x3 + (1 : Int32)).toNatClampNeg) (xs (x3 + (2 : Int32)).toNatClampNeg) (xs (x3 + (3 : Int32)).toNatClampNeg) hR
  refine lv_aload_n hx hb dL_law_361 rfl (lv_at hl 1 rfl) ?_
  refine lv_aload_n hx hb dL_law_362 rfl (lv_at hl 0 rfl) ?_
  refine lv_iload_n hx hb dL_law_363 rfl (lv_at hl 3 rfl) ?_
  refine lv_iconst (v := (1 : Int32)) hx hb dL_law_364 (by decide) ?_
  refine lv_iadd hx hb dL_law_365 ?_
  refine va_sld hx hb hX hbl hbA hw.1.2.2 (law_in (k := 1) hLx hi ex (by decide)) dL_law_366 ?_
  refine lv_aload_n hx hb dL_law_367 rfl (lv_at hl 0 rfl) ?_
  refine lv_iload_n hx hb dL_law_368 rfl (lv_at hl 3 rfl) ?_
  refine lv_iconst (v := (2 : Int32)) hx hb dL_law_369 (by decide) ?_
  refine lv_iadd hx hb dL_law_370 ?_
  refine va_sld hx hb hX hbl hbA hw.1.2.2 (law_in (k := 2) hLx hi ex (by decide)) dL_law_371 ?_
  refine lv_aload_n hx hb dL_law_372 rfl (lv_at hl 0 rfl) ?_
  refine lv_iload_n hx hb dL_law_373 rfl (lv_at hl 3 rfl) ?_
  refine lv_iconst (v := (3 : Int32)) hx hb dL_law_374 (by decide) ?_
  refine lv_iadd hx hb dL_law_375 ?_
  refine va_sld hx hb hX hbl hbA hw.1.2.2 (law_in (k := 3) hLx hi ex (by decide)) dL_law_376 ?_
  refine y_cls X hK hw (c11_can l D cz ev hC hq1) (cw_mem0 hC) (cw_S0 hC) cpX11.1 vw_L_45 ⟨Nat.le_of_ble_eq_true rfl, Nat.le_of_ble_eq_true rfl⟩ rfl rfl (Nat.le_of_ble_eq_true rfl) hl.1 ⟨(show cells ≤ 600000 by omega), (show slots ≤ room_1.slots by omega)⟩ dL_law_377 (fun H locs hw => ?_)
  refine lv_aload_n hx hb dL_law_380 rfl (lv_at hl 2 rfl) ?_
  refine lv_aload_n hx hb dL_law_381 rfl (lv_at hl 0 rfl) ?_
  refine lv_iload_n hx hb dL_law_382 rfl (lv_at hl 3 rfl) ?_
  refine lv_iconst (v := (1 : Int32)) hx hb dL_law_383 (by decide) ?_
  refine lv_iadd hx hb dL_law_384 ?_
  refine va_sld hx hb hX hbl hbA hw.1.2.2 (law_in (k := 1) hLx hi ex (by decide)) dL_law_385 ?_
  refine lv_aload_n hx hb dL_law_386 rfl (lv_at hl 0 rfl) ?_
  refine lv_iload_n hx hb dL_law_387 rfl (lv_at hl 3 rfl) ?_
  refine lv_iconst (v := (2 : Int32)) hx hb dL_law_388 (by decide) ?_
  refine lv_iadd hx hb dL_law_389 ?_
  refine va_sld hx hb hX hbl hbA hw.1.2.2 (law_in (k := 2) hLx hi ex (by decide)) dL_law_390 ?_
  refine lv_aload_n hx hb dL_law_391 rfl (lv_at hl 0 rfl) ?_
  refine lv_iload_n hx hb dL_law_392 rfl (lv_at hl 3 rfl) ?_
  refine lv_iconst (v := (3 : Int32)) hx hb dL_law_393 (by decide) ?_
  refine lv_iadd hx hb dL_law_394 ?_
  refine va_sld hx hb hX hbl hbA hw.1.2.2 (law_in (k := 3) hLx hi ex (by decide)) dL_law_395 ?_
  refine y_ref X hK hw (c12_can l D cz ev mb hq2) cpX12.1 vw_L_49 ⟨Nat.le_of_ble_eq_true rfl, Nat.le_of_ble_eq_true rfl⟩ rfl rfl (Nat.le_of_ble_eq_true rfl) hl.1 ⟨(show cells + 0 ≤ 600000 by omega), (show slots + 0 ≤ room_1.slots by omega)⟩ dL_law_396 (fun H locs hw => ?_)
  refine lv_icmp_eq (tgt := 994) hx hb dL_law_399 (by decide) (fun _ => ?_) (fun g => absurd rfl g)
  exact tl _ _ _ _ _ _ _ _ _ _ _ hRel hw (by omega) (by omega)
set_option maxHeartbeats 4000000 in
set_option maxRecDepth 100000 in
theorem law_right {p : Program} {l : Launch} {e : Env} {s : State} {m : MethodId} {below : List Frame} {meth : Method} {c : Code} {D : va_G} {cz : Nat → ClassId} {ev : Nat × Nat × Nat} {N : Nat} {Rel : RelT} (hG : Good N Rel) {b0 Lx : Nat} {xs : Nat → Int32} (hLx : Lx ≤ 3072) (C0 : lw_At p s m meth c b0 Lx xs) (hK : KX D cz ev (AL s) s) {b mb n i cells slots : Nat} {x3 : Int32} (hi : i + 6 ≤ Lx) (ex : x3 = nI i) (hcc : cells + 23 * (n + 1) ≤ 600000) (hss : slots + 401 * (n + 1) ≤ room_1.slots) {L : List Nat} {S : ST} {Rf : RT} {I : IT} {J : JT} {I' : IT} {J' : JT} {H : Heap} {locs : List Loc} (hR : Rel b mb L S Rf I J I' J') (hw : LWd D cz s L S Rf I J mb I' J' H locs) {ls : Array Slot} (hl : lv_has ls 4 [(0, .ref b0), (1, .ref b), (2, .ref mb), (3, .int x3)])
    (tl : ∀ (L : List Nat) (S : ST) (Rf : RT) (I : IT) (J : JT) (I' : IT) (J' : JT) (H : Heap) (locs : List Loc) (cl sl : Nat), Rel b mb L S Rf I J I' J' → LWd D cz s L S Rf I J mb I' J' H locs → cl + 23 * n ≤ 600000 → sl + 401 * n ≤ room_1.slots → W p l e room_1 s m #[Value.ref b0] below meth c H locs cl sl (lw_Z below #[Value.ref b0] s) (F0 m 994 ls [])) :
    W p l e room_1 s m #[Value.ref b0] below meth c H locs cells slots (lw_Z below #[Value.ref b0] s) (F0 m 404 ls []) := by
  obtain ⟨hx, hb, hr, hml, hown, hts, hX, hbl, hlocks, hgv⟩ := C0
  have X : CallFix p m c code 4 s #[Value.ref b0] gw R_law := ⟨hx, hb, hml, hown, fun w hw => hts w (gw_tbl w hw)⟩
  have hbA : ¬ AL s b0 := Nat.not_le.mpr hbl
  have hC := hG.1 _ _ _ _ _ _ _ _ _ hR
  obtain ⟨r, I1, J1, I1', J1', hq1, hq2, hRel⟩ := hG.2.2.2.2.2.2.2.2.2.1 b mb L S Rf I J I' J' (xs (x3 + (1 : Int32)).toNatClampNeg) (xs (x3 + (2 : Int32)).toNatClampNeg) hR
  refine lv_aload_n hx hb dL_law_404 rfl (lv_at hl 1 rfl) ?_
  refine lv_aload_n hx hb dL_law_405 rfl (lv_at hl 0 rfl) ?_
  refine lv_iload_n hx hb dL_law_406 rfl (lv_at hl 3 rfl) ?_
  refine lv_iconst (v := (1 : Int32)) hx hb dL_law_407 (by decide) ?_
  refine lv_iadd hx hb dL_law_408 ?_
  refine va_sld hx hb hX hbl hbA hw.1.2.2 (law_in (k := 1) hLx hi ex (by decide)) dL_law_409 ?_
  refine lv_aload_n hx hb dL_law_410 rfl (lv_at hl 0 rfl) ?_
  refine lv_iload_n hx hb dL_law_411 rfl (lv_at hl 3 rfl) ?_
  refine lv_iconst (v := (2 : Int32)) hx hb dL_law_412 (by decide) ?_
  refine lv_iadd hx hb dL_law_413 ?_
  refine va_sld hx hb hX hbl hbA hw.1.2.2 (law_in (k := 2) hLx hi ex (by decide)) dL_law_414 ?_
  refine y_cls X hK hw (c11_right l D cz ev hC hq1) (cw_mem0 hC) (cw_S0 hC) cpX11.1 vw_L_50 ⟨Nat.le_of_ble_eq_true rfl, Nat.le_of_ble_eq_true rfl⟩ rfl rfl (Nat.le_of_ble_eq_true rfl) hl.1 ⟨(show cells ≤ 600000 by omega), (show slots ≤ room_1.slots by omega)⟩ dL_law_415 (fun H locs hw => ?_)
  refine lv_aload_n hx hb dL_law_418 rfl (lv_at hl 2 rfl) ?_
  refine lv_aload_n hx hb dL_law_419 rfl (lv_at hl 0 rfl) ?_
  refine lv_iload_n hx hb dL_law_420 rfl (lv_at hl 3 rfl) ?_
  refine lv_iconst (v := (1 : Int32)) hx hb dL_law_421 (by decide) ?_
  refine lv_iadd hx hb dL_law_422 ?_
  refine va_sld hx hb hX hbl hbA hw.1.2.2 (law_in (k := 1) hLx hi ex (by decide)) dL_law_423 ?_
  refine lv_aload_n hx hb dL_law_424 rfl (lv_at hl 0 rfl) ?_
  refine lv_iload_n hx hb dL_law_425 rfl (lv_at hl 3 rfl) ?_
  refine lv_iconst (v := (2 : Int32)) hx hb dL_law_426 (by decide) ?_
  refine lv_iadd hx hb dL_law_427 ?_
  refine va_sld hx hb hX hbl hbA hw.1.2.2 (law_in (k := 2) hLx hi ex (by decide)) dL_law_428 ?_
  refine y_ref X hK hw (c12_right l D cz ev mb hq2) cpX12.1 vw_L_53 ⟨Nat.le_of_ble_eq_true rfl, Nat.le_of_ble_eq_true rfl⟩ rfl rfl (Nat.le_of_ble_eq_true rfl) hl.1 ⟨(show cells + 0 ≤ 600000 by omega), (show slots + 0 ≤ room_1.slots by omega)⟩ dL_law_429 (fun H locs hw => ?_)
  refine lv_icmp_eq (tgt := 994) hx hb dL_law_432 (by decide) (fun _ => ?_) (fun g => absurd rfl g)
  exact tl _ _ _ _ _ _ _ _ _ _ _ hRel hw (by omega) (by omega)
set_option maxHeartbeats 4000000 in
set_option maxRecDepth 100000 in
theorem law_day {p : Program} {l : Launch} {e : Env} {s : State} {m : MethodId} {below : List Frame} {meth : Method} {c : Code} {D : va_G} {cz : Nat → ClassId} {ev : Nat × Nat × Nat} {N : Nat} {Rel : RelT} (hG : Good N Rel) {b0 Lx : Nat} {xs : Nat → Int32} (hLx : Lx ≤ 3072) (C0 : lw_At p s m meth c b0 Lx xs) (hK : KX D cz ev (AL s) s) {b mb n i cells slots : Nat} {x3 : Int32} (hi : i + 6 ≤ Lx) (ex : x3 = nI i) (hcc : cells + 23 * (n + 1) ≤ 600000) (hss : slots + 401 * (n + 1) ≤ room_1.slots) {L : List Nat} {S : ST} {Rf : RT} {I : IT} {J : JT} {I' : IT} {J' : JT} {H : Heap} {locs : List Loc} (hR : Rel b mb L S Rf I J I' J') (hw : LWd D cz s L S Rf I J mb I' J' H locs) {ls : Array Slot} (hl : lv_has ls 4 [(0, .ref b0), (1, .ref b), (2, .ref mb), (3, .int x3)])
    (tl : ∀ (L : List Nat) (S : ST) (Rf : RT) (I : IT) (J : JT) (I' : IT) (J' : JT) (H : Heap) (locs : List Loc) (cl sl : Nat), Rel b mb L S Rf I J I' J' → LWd D cz s L S Rf I J mb I' J' H locs → cl + 23 * n ≤ 600000 → sl + 401 * n ≤ room_1.slots → W p l e room_1 s m #[Value.ref b0] below meth c H locs cl sl (lw_Z below #[Value.ref b0] s) (F0 m 994 ls [])) :
    W p l e room_1 s m #[Value.ref b0] below meth c H locs cells slots (lw_Z below #[Value.ref b0] s) (F0 m 437 ls []) := by
  obtain ⟨hx, hb, hr, hml, hown, hts, hX, hbl, hlocks, hgv⟩ := C0
  have X : CallFix p m c code 4 s #[Value.ref b0] gw R_law := ⟨hx, hb, hml, hown, fun w hw => hts w (gw_tbl w hw)⟩
  have hbA : ¬ AL s b0 := Nat.not_le.mpr hbl
  have hC := hG.1 _ _ _ _ _ _ _ _ _ hR
  rcases hG.2.2.2.2.2.2.2.2.2.2.1 b mb L S Rf I J I' J'  hR with ⟨r, I1, J1, I1', J1', hq1, hq2, hRel⟩ | hN
  · refine lv_aload_n hx hb dL_law_437 rfl (lv_at hl 1 rfl) ?_
    refine y_cls X hK hw (c11_day l D cz ev hC hq1) (cw_mem0 hC) (cw_S0 hC) cpX11.1 vw_L_54 ⟨Nat.le_of_ble_eq_true rfl, Nat.le_of_ble_eq_true rfl⟩ rfl rfl (Nat.le_of_ble_eq_true rfl) hl.1 ⟨(show cells ≤ 600000 by omega), (show slots ≤ room_1.slots by omega)⟩ dL_law_438 (fun H locs hw => ?_)
    refine lv_aload_n hx hb dL_law_441 rfl (lv_at hl 2 rfl) ?_
    refine y_ref X hK hw (c12_day l D cz ev mb hq2) cpX12.1 vw_L_57 ⟨Nat.le_of_ble_eq_true rfl, Nat.le_of_ble_eq_true rfl⟩ rfl rfl (Nat.le_of_ble_eq_true rfl) hl.1 ⟨(show cells + 0 ≤ 600000 by omega), (show slots + 0 ≤ room_1.slots by omega)⟩ dL_law_442 (fun H locs hw => ?_)
    refine lv_icmp_eq (tgt := 994) hx hb dL_law_445 (by decide) (fun _ => ?_) (fun g => absurd rfl g)
    exact tl _ _ _ _ _ _ _ _ _ _ _ hRel hw (by omega) (by omega)
  · obtain ⟨r, S1, Rf1, I1, J1, I1', J1', hq1, hq2, hRel⟩ := hN H.size (fun a ha => wx_lt hw.1 ha) (fun a ha => wx_lt hw.2.1 ha)
    refine lv_aload_n hx hb dL_law_437 rfl (lv_at hl 1 rfl) ?_
    refine y_mak (z := H.size) X hK hw rfl (c11_dayN l D cz ev hC hq1) (fun a ha => (apn_mem 10 ha).imp id (fun g => g.1)) (cw_mem0 hC) (cw_S0 hC) cpX11.1 vw_L_54 ⟨Nat.le_of_ble_eq_true rfl, Nat.le_of_ble_eq_true rfl⟩ rfl rfl (Nat.le_of_ble_eq_true rfl) hl.1 ⟨(show cells + 10 ≤ 600000 by omega), (show slots + 66 ≤ room_1.slots by omega)⟩ dL_law_438 (fun H locs hw => ?_)
    refine lv_aload_n hx hb dL_law_441 rfl (lv_at hl 2 rfl) ?_
    refine y_ref X hK hw (c12_day l D cz ev mb hq2) cpX12.1 vw_L_57 ⟨Nat.le_of_ble_eq_true rfl, Nat.le_of_ble_eq_true rfl⟩ rfl rfl (Nat.le_of_ble_eq_true rfl) hl.1 ⟨(show cells + 10 ≤ 600000 by omega), (show slots + 66 ≤ room_1.slots by omega)⟩ dL_law_442 (fun H locs hw => ?_)
    refine lv_icmp_eq (tgt := 994) hx hb dL_law_445 (by decide) (fun _ => ?_) (fun g => absurd rfl g)
    exact tl _ _ _ _ _ _ _ _ _ _ _ hRel hw (by omega) (by omega)
set_option maxHeartbeats 4000000 in
set_option maxRecDepth 100000 in
theorem law_hear {p : Program} {l : Launch} {e : Env} {s : State} {m : MethodId} {below : List Frame} {meth : Method} {c : Code} {D : va_G} {cz : Nat → ClassId} {ev : Nat × Nat × Nat} {N : Nat} {Rel : RelT} (hG : Good N Rel) {b0 Lx : Nat} {xs : Nat → Int32} (hLx : Lx ≤ 3072) (C0 : lw_At p s m meth c b0 Lx xs) (hK : KX D cz ev (AL s) s) {b mb n i cells slots : Nat} {x3 : Int32} (hi : i + 6 ≤ Lx) (ex : x3 = nI i) (hcc : cells + 23 * (n + 1) ≤ 600000) (hss : slots + 401 * (n + 1) ≤ room_1.slots) {L : List Nat} {S : ST} {Rf : RT} {I : IT} {J : JT} {I' : IT} {J' : JT} {H : Heap} {locs : List Loc} (hR : Rel b mb L S Rf I J I' J') (hw : LWd D cz s L S Rf I J mb I' J' H locs) {ls : Array Slot} (hl : lv_has ls 4 [(0, .ref b0), (1, .ref b), (2, .ref mb), (3, .int x3)])
    (tl : ∀ (L : List Nat) (S : ST) (Rf : RT) (I : IT) (J : JT) (I' : IT) (J' : JT) (H : Heap) (locs : List Loc) (cl sl : Nat), Rel b mb L S Rf I J I' J' → LWd D cz s L S Rf I J mb I' J' H locs → cl + 23 * n ≤ 600000 → sl + 401 * n ≤ room_1.slots → W p l e room_1 s m #[Value.ref b0] below meth c H locs cl sl (lw_Z below #[Value.ref b0] s) (F0 m 994 ls [])) :
    W p l e room_1 s m #[Value.ref b0] below meth c H locs cells slots (lw_Z below #[Value.ref b0] s) (F0 m 450 ls []) := by
  obtain ⟨hx, hb, hr, hml, hown, hts, hX, hbl, hlocks, hgv⟩ := C0
  have X : CallFix p m c code 4 s #[Value.ref b0] gw R_law := ⟨hx, hb, hml, hown, fun w hw => hts w (gw_tbl w hw)⟩
  have hbA : ¬ AL s b0 := Nat.not_le.mpr hbl
  have hC := hG.1 _ _ _ _ _ _ _ _ _ hR
  rcases hG.2.2.2.2.2.2.2.2.2.2.2.1 b mb L S Rf I J I' J' (xs (x3 + (1 : Int32)).toNatClampNeg) (xs (x3 + (2 : Int32)).toNatClampNeg) hR with ⟨r, I1, J1, I1', J1', hq1, hq2, hRel⟩ | hN
  · refine lv_aload_n hx hb dL_law_450 rfl (lv_at hl 1 rfl) ?_
    refine lv_aload_n hx hb dL_law_451 rfl (lv_at hl 0 rfl) ?_
    refine lv_iload_n hx hb dL_law_452 rfl (lv_at hl 3 rfl) ?_
    refine lv_iconst (v := (1 : Int32)) hx hb dL_law_453 (by decide) ?_
    refine lv_iadd hx hb dL_law_454 ?_
    refine va_sld hx hb hX hbl hbA hw.1.2.2 (law_in (k := 1) hLx hi ex (by decide)) dL_law_455 ?_
    refine lv_aload_n hx hb dL_law_456 rfl (lv_at hl 0 rfl) ?_
    refine lv_iload_n hx hb dL_law_457 rfl (lv_at hl 3 rfl) ?_
    refine lv_iconst (v := (2 : Int32)) hx hb dL_law_458 (by decide) ?_
    refine lv_iadd hx hb dL_law_459 ?_
    refine va_sld hx hb hX hbl hbA hw.1.2.2 (law_in (k := 2) hLx hi ex (by decide)) dL_law_460 ?_
    refine y_cls X hK hw (c11_hear l D cz ev hC hq1) (cw_mem0 hC) (cw_S0 hC) cpX11.1 vw_L_58 ⟨Nat.le_of_ble_eq_true rfl, Nat.le_of_ble_eq_true rfl⟩ rfl rfl (Nat.le_of_ble_eq_true rfl) hl.1 ⟨(show cells ≤ 600000 by omega), (show slots ≤ room_1.slots by omega)⟩ dL_law_461 (fun H locs hw => ?_)
    refine lv_aload_n hx hb dL_law_464 rfl (lv_at hl 2 rfl) ?_
    refine lv_aload_n hx hb dL_law_465 rfl (lv_at hl 0 rfl) ?_
    refine lv_iload_n hx hb dL_law_466 rfl (lv_at hl 3 rfl) ?_
    refine lv_iconst (v := (1 : Int32)) hx hb dL_law_467 (by decide) ?_
    refine lv_iadd hx hb dL_law_468 ?_
    refine va_sld hx hb hX hbl hbA hw.1.2.2 (law_in (k := 1) hLx hi ex (by decide)) dL_law_469 ?_
    refine lv_aload_n hx hb dL_law_470 rfl (lv_at hl 0 rfl) ?_
    refine lv_iload_n hx hb dL_law_471 rfl (lv_at hl 3 rfl) ?_
    refine lv_iconst (v := (2 : Int32)) hx hb dL_law_472 (by decide) ?_
    refine lv_iadd hx hb dL_law_473 ?_
    refine va_sld hx hb hX hbl hbA hw.1.2.2 (law_in (k := 2) hLx hi ex (by decide)) dL_law_474 ?_
    refine y_ref X hK hw (c12_hear l D cz ev mb hq2) cpX12.1 vw_L_61 ⟨Nat.le_of_ble_eq_true rfl, Nat.le_of_ble_eq_true rfl⟩ rfl rfl (Nat.le_of_ble_eq_true rfl) hl.1 ⟨(show cells + 0 ≤ 600000 by omega), (show slots + 0 ≤ room_1.slots by omega)⟩ dL_law_475 (fun H locs hw => ?_)
    refine lv_icmp_eq (tgt := 994) hx hb dL_law_478 (by decide) (fun _ => ?_) (fun g => absurd rfl g)
    exact tl _ _ _ _ _ _ _ _ _ _ _ hRel hw (by omega) (by omega)
  · obtain ⟨r, S1, Rf1, I1, J1, I1', J1', hq1, hq2, hRel⟩ := hN H.size (fun a ha => wx_lt hw.1 ha) (fun a ha => wx_lt hw.2.1 ha)
    refine lv_aload_n hx hb dL_law_450 rfl (lv_at hl 1 rfl) ?_
    refine lv_aload_n hx hb dL_law_451 rfl (lv_at hl 0 rfl) ?_
    refine lv_iload_n hx hb dL_law_452 rfl (lv_at hl 3 rfl) ?_
    refine lv_iconst (v := (1 : Int32)) hx hb dL_law_453 (by decide) ?_
    refine lv_iadd hx hb dL_law_454 ?_
    refine va_sld hx hb hX hbl hbA hw.1.2.2 (law_in (k := 1) hLx hi ex (by decide)) dL_law_455 ?_
    refine lv_aload_n hx hb dL_law_456 rfl (lv_at hl 0 rfl) ?_
    refine lv_iload_n hx hb dL_law_457 rfl (lv_at hl 3 rfl) ?_
    refine lv_iconst (v := (2 : Int32)) hx hb dL_law_458 (by decide) ?_
    refine lv_iadd hx hb dL_law_459 ?_
    refine va_sld hx hb hX hbl hbA hw.1.2.2 (law_in (k := 2) hLx hi ex (by decide)) dL_law_460 ?_
    refine y_mak (z := H.size) X hK hw rfl (c11_hearN l D cz ev hC hq1) (fun a ha => (apn_mem 10 ha).imp id (fun g => g.1)) (cw_mem0 hC) (cw_S0 hC) cpX11.1 vw_L_58 ⟨Nat.le_of_ble_eq_true rfl, Nat.le_of_ble_eq_true rfl⟩ rfl rfl (Nat.le_of_ble_eq_true rfl) hl.1 ⟨(show cells + 10 ≤ 600000 by omega), (show slots + 66 ≤ room_1.slots by omega)⟩ dL_law_461 (fun H locs hw => ?_)
    refine lv_aload_n hx hb dL_law_464 rfl (lv_at hl 2 rfl) ?_
    refine lv_aload_n hx hb dL_law_465 rfl (lv_at hl 0 rfl) ?_
    refine lv_iload_n hx hb dL_law_466 rfl (lv_at hl 3 rfl) ?_
    refine lv_iconst (v := (1 : Int32)) hx hb dL_law_467 (by decide) ?_
    refine lv_iadd hx hb dL_law_468 ?_
    refine va_sld hx hb hX hbl hbA hw.1.2.2 (law_in (k := 1) hLx hi ex (by decide)) dL_law_469 ?_
    refine lv_aload_n hx hb dL_law_470 rfl (lv_at hl 0 rfl) ?_
    refine lv_iload_n hx hb dL_law_471 rfl (lv_at hl 3 rfl) ?_
    refine lv_iconst (v := (2 : Int32)) hx hb dL_law_472 (by decide) ?_
    refine lv_iadd hx hb dL_law_473 ?_
    refine va_sld hx hb hX hbl hbA hw.1.2.2 (law_in (k := 2) hLx hi ex (by decide)) dL_law_474 ?_
    refine y_ref X hK hw (c12_hear l D cz ev mb hq2) cpX12.1 vw_L_61 ⟨Nat.le_of_ble_eq_true rfl, Nat.le_of_ble_eq_true rfl⟩ rfl rfl (Nat.le_of_ble_eq_true rfl) hl.1 ⟨(show cells + 10 ≤ 600000 by omega), (show slots + 66 ≤ room_1.slots by omega)⟩ dL_law_475 (fun H locs hw => ?_)
    refine lv_icmp_eq (tgt := 994) hx hb dL_law_478 (by decide) (fun _ => ?_) (fun g => absurd rfl g)
    exact tl _ _ _ _ _ _ _ _ _ _ _ hRel hw (by omega) (by omega)
set_option maxHeartbeats 4000000 in
set_option maxRecDepth 100000 in
theorem law_teach {p : Program} {l : Launch} {e : Env} {s : State} {m : MethodId} {below : List Frame} {meth : Method} {c : Code} {D : va_G} {cz : Nat → ClassId} {ev : Nat × Nat × Nat} {N : Nat} {Rel : RelT} (hG : Good N Rel) {b0 Lx : Nat} {xs : Nat → Int32} (hLx : Lx ≤ 3072) (C0 : lw_At p s m meth c b0 Lx xs) (hK : KX D cz ev (AL s) s) {b mb n i cells slots : Nat} {x3 : Int32} (hi : i + 6 ≤ Lx) (ex : x3 = nI i) (hcc : cells + 23 * (n + 1) ≤ 600000) (hss : slots + 401 * (n + 1) ≤ room_1.slots) {L : List Nat} {S : ST} {Rf : RT} {I : IT} {J : JT} {I' : IT} {J' : JT} {H : Heap} {locs : List Loc} (hR : Rel b mb L S Rf I J I' J') (hw : LWd D cz s L S Rf I J mb I' J' H locs) {ls : Array Slot} (hl : lv_has ls 4 [(0, .ref b0), (1, .ref b), (2, .ref mb), (3, .int x3)])
    (tl : ∀ (L : List Nat) (S : ST) (Rf : RT) (I : IT) (J : JT) (I' : IT) (J' : JT) (H : Heap) (locs : List Loc) (cl sl : Nat), Rel b mb L S Rf I J I' J' → LWd D cz s L S Rf I J mb I' J' H locs → cl + 23 * n ≤ 600000 → sl + 401 * n ≤ room_1.slots → W p l e room_1 s m #[Value.ref b0] below meth c H locs cl sl (lw_Z below #[Value.ref b0] s) (F0 m 994 ls [])) :
    W p l e room_1 s m #[Value.ref b0] below meth c H locs cells slots (lw_Z below #[Value.ref b0] s) (F0 m 483 ls []) := by
  obtain ⟨hx, hb, hr, hml, hown, hts, hX, hbl, hlocks, hgv⟩ := C0
  have X : CallFix p m c code 4 s #[Value.ref b0] gw R_law := ⟨hx, hb, hml, hown, fun w hw => hts w (gw_tbl w hw)⟩
  have hbA : ¬ AL s b0 := Nat.not_le.mpr hbl
  have hC := hG.1 _ _ _ _ _ _ _ _ _ hR
  rcases hG.2.2.2.2.2.2.2.2.2.2.2.2.1 b mb L S Rf I J I' J' (xs (x3 + (1 : Int32)).toNatClampNeg) hR with ⟨r, I1, J1, I1', J1', hq1, hq2, hRel⟩ | hN
  · refine lv_aload_n hx hb dL_law_483 rfl (lv_at hl 1 rfl) ?_
    refine lv_aload_n hx hb dL_law_484 rfl (lv_at hl 0 rfl) ?_
    refine lv_iload_n hx hb dL_law_485 rfl (lv_at hl 3 rfl) ?_
    refine lv_iconst (v := (1 : Int32)) hx hb dL_law_486 (by decide) ?_
    refine lv_iadd hx hb dL_law_487 ?_
    refine va_sld hx hb hX hbl hbA hw.1.2.2 (law_in (k := 1) hLx hi ex (by decide)) dL_law_488 ?_
    refine y_cls X hK hw (c11_teach l D cz ev hC hq1) (cw_mem0 hC) (cw_S0 hC) cpX11.1 vw_L_62 ⟨Nat.le_of_ble_eq_true rfl, Nat.le_of_ble_eq_true rfl⟩ rfl rfl (Nat.le_of_ble_eq_true rfl) hl.1 ⟨(show cells ≤ 600000 by omega), (show slots ≤ room_1.slots by omega)⟩ dL_law_489 (fun H locs hw => ?_)
    refine lv_aload_n hx hb dL_law_492 rfl (lv_at hl 2 rfl) ?_
    refine lv_aload_n hx hb dL_law_493 rfl (lv_at hl 0 rfl) ?_
    refine lv_iload_n hx hb dL_law_494 rfl (lv_at hl 3 rfl) ?_
    refine lv_iconst (v := (1 : Int32)) hx hb dL_law_495 (by decide) ?_
    refine lv_iadd hx hb dL_law_496 ?_
    refine va_sld hx hb hX hbl hbA hw.1.2.2 (law_in (k := 1) hLx hi ex (by decide)) dL_law_497 ?_
    refine y_ref X hK hw (c12_teach l D cz ev mb hq2) cpX12.1 vw_L_65 ⟨Nat.le_of_ble_eq_true rfl, Nat.le_of_ble_eq_true rfl⟩ rfl rfl (Nat.le_of_ble_eq_true rfl) hl.1 ⟨(show cells + 0 ≤ 600000 by omega), (show slots + 0 ≤ room_1.slots by omega)⟩ dL_law_498 (fun H locs hw => ?_)
    refine lv_icmp_eq (tgt := 994) hx hb dL_law_501 (by decide) (fun _ => ?_) (fun g => absurd rfl g)
    exact tl _ _ _ _ _ _ _ _ _ _ _ hRel hw (by omega) (by omega)
  · obtain ⟨r, S1, Rf1, I1, J1, I1', J1', hq1, hq2, hRel⟩ := hN H.size (fun a ha => wx_lt hw.1 ha) (fun a ha => wx_lt hw.2.1 ha)
    refine lv_aload_n hx hb dL_law_483 rfl (lv_at hl 1 rfl) ?_
    refine lv_aload_n hx hb dL_law_484 rfl (lv_at hl 0 rfl) ?_
    refine lv_iload_n hx hb dL_law_485 rfl (lv_at hl 3 rfl) ?_
    refine lv_iconst (v := (1 : Int32)) hx hb dL_law_486 (by decide) ?_
    refine lv_iadd hx hb dL_law_487 ?_
    refine va_sld hx hb hX hbl hbA hw.1.2.2 (law_in (k := 1) hLx hi ex (by decide)) dL_law_488 ?_
    refine y_mak (z := H.size) X hK hw rfl (c11_teachN l D cz ev hC hq1) (fun a ha => (apn_mem 10 ha).imp id (fun g => g.1)) (cw_mem0 hC) (cw_S0 hC) cpX11.1 vw_L_62 ⟨Nat.le_of_ble_eq_true rfl, Nat.le_of_ble_eq_true rfl⟩ rfl rfl (Nat.le_of_ble_eq_true rfl) hl.1 ⟨(show cells + 10 ≤ 600000 by omega), (show slots + 66 ≤ room_1.slots by omega)⟩ dL_law_489 (fun H locs hw => ?_)
    refine lv_aload_n hx hb dL_law_492 rfl (lv_at hl 2 rfl) ?_
    refine lv_aload_n hx hb dL_law_493 rfl (lv_at hl 0 rfl) ?_
    refine lv_iload_n hx hb dL_law_494 rfl (lv_at hl 3 rfl) ?_
    refine lv_iconst (v := (1 : Int32)) hx hb dL_law_495 (by decide) ?_
    refine lv_iadd hx hb dL_law_496 ?_
    refine va_sld hx hb hX hbl hbA hw.1.2.2 (law_in (k := 1) hLx hi ex (by decide)) dL_law_497 ?_
    refine y_ref X hK hw (c12_teach l D cz ev mb hq2) cpX12.1 vw_L_65 ⟨Nat.le_of_ble_eq_true rfl, Nat.le_of_ble_eq_true rfl⟩ rfl rfl (Nat.le_of_ble_eq_true rfl) hl.1 ⟨(show cells + 10 ≤ 600000 by omega), (show slots + 66 ≤ room_1.slots by omega)⟩ dL_law_498 (fun H locs hw => ?_)
    refine lv_icmp_eq (tgt := 994) hx hb dL_law_501 (by decide) (fun _ => ?_) (fun g => absurd rfl g)
    exact tl _ _ _ _ _ _ _ _ _ _ _ hRel hw (by omega) (by omega)
set_option maxHeartbeats 4000000 in
set_option maxRecDepth 100000 in
theorem law_undo {p : Program} {l : Launch} {e : Env} {s : State} {m : MethodId} {below : List Frame} {meth : Method} {c : Code} {D : va_G} {cz : Nat → ClassId} {ev : Nat × Nat × Nat} {N : Nat} {Rel : RelT} (hG : Good N Rel) {b0 Lx : Nat} {xs : Nat → Int32} (hLx : Lx ≤ 3072) (C0 : lw_At p s m meth c b0 Lx xs) (hK : KX D cz ev (AL s) s) {b mb n i cells slots : Nat} {x3 : Int32} (hi : i + 6 ≤ Lx) (ex : x3 = nI i) (hcc : cells + 23 * (n + 1) ≤ 600000) (hss : slots + 401 * (n + 1) ≤ room_1.slots) {L : List Nat} {S : ST} {Rf : RT} {I : IT} {J : JT} {I' : IT} {J' : JT} {H : Heap} {locs : List Loc} (hR : Rel b mb L S Rf I J I' J') (hw : LWd D cz s L S Rf I J mb I' J' H locs) {ls : Array Slot} (hl : lv_has ls 4 [(0, .ref b0), (1, .ref b), (2, .ref mb), (3, .int x3)])
    (tl : ∀ (L : List Nat) (S : ST) (Rf : RT) (I : IT) (J : JT) (I' : IT) (J' : JT) (H : Heap) (locs : List Loc) (cl sl : Nat), Rel b mb L S Rf I J I' J' → LWd D cz s L S Rf I J mb I' J' H locs → cl + 23 * n ≤ 600000 → sl + 401 * n ≤ room_1.slots → W p l e room_1 s m #[Value.ref b0] below meth c H locs cl sl (lw_Z below #[Value.ref b0] s) (F0 m 994 ls [])) :
    W p l e room_1 s m #[Value.ref b0] below meth c H locs cells slots (lw_Z below #[Value.ref b0] s) (F0 m 506 ls []) := by
  obtain ⟨hx, hb, hr, hml, hown, hts, hX, hbl, hlocks, hgv⟩ := C0
  have X : CallFix p m c code 4 s #[Value.ref b0] gw R_law := ⟨hx, hb, hml, hown, fun w hw => hts w (gw_tbl w hw)⟩
  have hbA : ¬ AL s b0 := Nat.not_le.mpr hbl
  have hC := hG.1 _ _ _ _ _ _ _ _ _ hR
  obtain ⟨r, I1, J1, I1', J1', hq1, hq2, hRel⟩ := hG.2.2.2.2.2.2.2.2.2.2.2.2.2.1 b mb L S Rf I J I' J'  hR
  refine lv_aload_n hx hb dL_law_506 rfl (lv_at hl 1 rfl) ?_
  refine y_cls X hK hw (c11_undo l D cz ev hC hq1) (cw_mem0 hC) (cw_S0 hC) cpX11.1 vw_L_66 ⟨Nat.le_of_ble_eq_true rfl, Nat.le_of_ble_eq_true rfl⟩ rfl rfl (Nat.le_of_ble_eq_true rfl) hl.1 ⟨(show cells ≤ 600000 by omega), (show slots ≤ room_1.slots by omega)⟩ dL_law_507 (fun H locs hw => ?_)
  refine lv_aload_n hx hb dL_law_510 rfl (lv_at hl 2 rfl) ?_
  refine y_ref X hK hw (c12_undo l D cz ev mb hq2) cpX12.1 vw_L_69 ⟨Nat.le_of_ble_eq_true rfl, Nat.le_of_ble_eq_true rfl⟩ rfl rfl (Nat.le_of_ble_eq_true rfl) hl.1 ⟨(show cells + 0 ≤ 600000 by omega), (show slots + 0 ≤ room_1.slots by omega)⟩ dL_law_511 (fun H locs hw => ?_)
  refine lv_icmp_eq (tgt := 994) hx hb dL_law_514 (by decide) (fun _ => ?_) (fun g => absurd rfl g)
  exact tl _ _ _ _ _ _ _ _ _ _ _ hRel hw (by omega) (by omega)
set_option maxHeartbeats 4000000 in
set_option maxRecDepth 100000 in
theorem law_soonest {p : Program} {l : Launch} {e : Env} {s : State} {m : MethodId} {below : List Frame} {meth : Method} {c : Code} {D : va_G} {cz : Nat → ClassId} {ev : Nat × Nat × Nat} {N : Nat} {Rel : RelT} (hG : Good N Rel) {b0 Lx : Nat} {xs : Nat → Int32} (hLx : Lx ≤ 3072) (C0 : lw_At p s m meth c b0 Lx xs) (hK : KX D cz ev (AL s) s) {b mb n i cells slots : Nat} {x3 : Int32} (hi : i + 6 ≤ Lx) (ex : x3 = nI i) (hcc : cells + 23 * (n + 1) ≤ 600000) (hss : slots + 401 * (n + 1) ≤ room_1.slots) {L : List Nat} {S : ST} {Rf : RT} {I : IT} {J : JT} {I' : IT} {J' : JT} {H : Heap} {locs : List Loc} (hR : Rel b mb L S Rf I J I' J') (hw : LWd D cz s L S Rf I J mb I' J' H locs) {ls : Array Slot} (hl : lv_has ls 4 [(0, .ref b0), (1, .ref b), (2, .ref mb), (3, .int x3)])
    (tl : ∀ (L : List Nat) (S : ST) (Rf : RT) (I : IT) (J : JT) (I' : IT) (J' : JT) (H : Heap) (locs : List Loc) (cl sl : Nat), Rel b mb L S Rf I J I' J' → LWd D cz s L S Rf I J mb I' J' H locs → cl + 23 * n ≤ 600000 → sl + 401 * n ≤ room_1.slots → W p l e room_1 s m #[Value.ref b0] below meth c H locs cl sl (lw_Z below #[Value.ref b0] s) (F0 m 994 ls [])) :
    W p l e room_1 s m #[Value.ref b0] below meth c H locs cells slots (lw_Z below #[Value.ref b0] s) (F0 m 519 ls []) := by
  obtain ⟨hx, hb, hr, hml, hown, hts, hX, hbl, hlocks, hgv⟩ := C0
  have X : CallFix p m c code 4 s #[Value.ref b0] gw R_law := ⟨hx, hb, hml, hown, fun w hw => hts w (gw_tbl w hw)⟩
  have hbA : ¬ AL s b0 := Nat.not_le.mpr hbl
  have hC := hG.1 _ _ _ _ _ _ _ _ _ hR
  obtain ⟨r, I1, J1, I1', J1', hq1, hq2, hRel⟩ := hG.2.2.2.2.2.2.2.2.2.2.2.2.2.2.1 b mb L S Rf I J I' J' (xs (x3 + (1 : Int32)).toNatClampNeg) (xs (x3 + (2 : Int32)).toNatClampNeg) hR
  refine lv_aload_n hx hb dL_law_519 rfl (lv_at hl 1 rfl) ?_
  refine lv_aload_n hx hb dL_law_520 rfl (lv_at hl 0 rfl) ?_
  refine lv_iload_n hx hb dL_law_521 rfl (lv_at hl 3 rfl) ?_
  refine lv_iconst (v := (1 : Int32)) hx hb dL_law_522 (by decide) ?_
  refine lv_iadd hx hb dL_law_523 ?_
  refine va_sld hx hb hX hbl hbA hw.1.2.2 (law_in (k := 1) hLx hi ex (by decide)) dL_law_524 ?_
  refine lv_aload_n hx hb dL_law_525 rfl (lv_at hl 0 rfl) ?_
  refine lv_iload_n hx hb dL_law_526 rfl (lv_at hl 3 rfl) ?_
  refine lv_iconst (v := (2 : Int32)) hx hb dL_law_527 (by decide) ?_
  refine lv_iadd hx hb dL_law_528 ?_
  refine va_sld hx hb hX hbl hbA hw.1.2.2 (law_in (k := 2) hLx hi ex (by decide)) dL_law_529 ?_
  refine y_cls X hK hw (c11_soonest l D cz ev hC hq1) (cw_mem0 hC) (cw_S0 hC) cpX11.1 vw_L_70 ⟨Nat.le_of_ble_eq_true rfl, Nat.le_of_ble_eq_true rfl⟩ rfl rfl (Nat.le_of_ble_eq_true rfl) hl.1 ⟨(show cells ≤ 600000 by omega), (show slots ≤ room_1.slots by omega)⟩ dL_law_530 (fun H locs hw => ?_)
  refine lv_aload_n hx hb dL_law_533 rfl (lv_at hl 2 rfl) ?_
  refine lv_aload_n hx hb dL_law_534 rfl (lv_at hl 0 rfl) ?_
  refine lv_iload_n hx hb dL_law_535 rfl (lv_at hl 3 rfl) ?_
  refine lv_iconst (v := (1 : Int32)) hx hb dL_law_536 (by decide) ?_
  refine lv_iadd hx hb dL_law_537 ?_
  refine va_sld hx hb hX hbl hbA hw.1.2.2 (law_in (k := 1) hLx hi ex (by decide)) dL_law_538 ?_
  refine lv_aload_n hx hb dL_law_539 rfl (lv_at hl 0 rfl) ?_
  refine lv_iload_n hx hb dL_law_540 rfl (lv_at hl 3 rfl) ?_
  refine lv_iconst (v := (2 : Int32)) hx hb dL_law_541 (by decide) ?_
  refine lv_iadd hx hb dL_law_542 ?_
  refine va_sld hx hb hX hbl hbA hw.1.2.2 (law_in (k := 2) hLx hi ex (by decide)) dL_law_543 ?_
  refine y_ref X hK hw (c12_soonest l D cz ev mb hq2) cpX12.1 vw_L_73 ⟨Nat.le_of_ble_eq_true rfl, Nat.le_of_ble_eq_true rfl⟩ rfl rfl (Nat.le_of_ble_eq_true rfl) hl.1 ⟨(show cells + 0 ≤ 600000 by omega), (show slots + 0 ≤ room_1.slots by omega)⟩ dL_law_544 (fun H locs hw => ?_)
  refine lv_icmp_eq (tgt := 994) hx hb dL_law_547 (by decide) (fun _ => ?_) (fun g => absurd rfl g)
  exact tl _ _ _ _ _ _ _ _ _ _ _ hRel hw (by omega) (by omega)
set_option maxHeartbeats 4000000 in
set_option maxRecDepth 100000 in
theorem law_benches {p : Program} {l : Launch} {e : Env} {s : State} {m : MethodId} {below : List Frame} {meth : Method} {c : Code} {D : va_G} {cz : Nat → ClassId} {ev : Nat × Nat × Nat} {N : Nat} {Rel : RelT} (hG : Good N Rel) {b0 Lx : Nat} {xs : Nat → Int32} (hLx : Lx ≤ 3072) (C0 : lw_At p s m meth c b0 Lx xs) (hK : KX D cz ev (AL s) s) {b mb n i cells slots : Nat} {x3 : Int32} (hi : i + 6 ≤ Lx) (ex : x3 = nI i) (hcc : cells + 23 * (n + 1) ≤ 600000) (hss : slots + 401 * (n + 1) ≤ room_1.slots) {L : List Nat} {S : ST} {Rf : RT} {I : IT} {J : JT} {I' : IT} {J' : JT} {H : Heap} {locs : List Loc} (hR : Rel b mb L S Rf I J I' J') (hw : LWd D cz s L S Rf I J mb I' J' H locs) {ls : Array Slot} (hl : lv_has ls 4 [(0, .ref b0), (1, .ref b), (2, .ref mb), (3, .int x3)])
    (tl : ∀ (L : List Nat) (S : ST) (Rf : RT) (I : IT) (J : JT) (I' : IT) (J' : JT) (H : Heap) (locs : List Loc) (cl sl : Nat), Rel b mb L S Rf I J I' J' → LWd D cz s L S Rf I J mb I' J' H locs → cl + 23 * n ≤ 600000 → sl + 401 * n ≤ room_1.slots → W p l e room_1 s m #[Value.ref b0] below meth c H locs cl sl (lw_Z below #[Value.ref b0] s) (F0 m 994 ls [])) :
    W p l e room_1 s m #[Value.ref b0] below meth c H locs cells slots (lw_Z below #[Value.ref b0] s) (F0 m 552 ls []) := by
  obtain ⟨hx, hb, hr, hml, hown, hts, hX, hbl, hlocks, hgv⟩ := C0
  have X : CallFix p m c code 4 s #[Value.ref b0] gw R_law := ⟨hx, hb, hml, hown, fun w hw => hts w (gw_tbl w hw)⟩
  have hbA : ¬ AL s b0 := Nat.not_le.mpr hbl
  have hC := hG.1 _ _ _ _ _ _ _ _ _ hR
  obtain ⟨r, I1, J1, I1', J1', hq1, hq2, hRel⟩ := hG.2.2.2.2.2.2.2.2.2.2.2.2.2.2.2.1 b mb L S Rf I J I' J' (xs (x3 + (1 : Int32)).toNatClampNeg) hR
  refine lv_aload_n hx hb dL_law_552 rfl (lv_at hl 1 rfl) ?_
  refine lv_aload_n hx hb dL_law_553 rfl (lv_at hl 0 rfl) ?_
  refine lv_iload_n hx hb dL_law_554 rfl (lv_at hl 3 rfl) ?_
  refine lv_iconst (v := (1 : Int32)) hx hb dL_law_555 (by decide) ?_
  refine lv_iadd hx hb dL_law_556 ?_
  refine va_sld hx hb hX hbl hbA hw.1.2.2 (law_in (k := 1) hLx hi ex (by decide)) dL_law_557 ?_
  refine y_cls X hK hw (c11_benches l D cz ev hC hq1) (cw_mem0 hC) (cw_S0 hC) cpX11.1 vw_L_74 ⟨Nat.le_of_ble_eq_true rfl, Nat.le_of_ble_eq_true rfl⟩ rfl rfl (Nat.le_of_ble_eq_true rfl) hl.1 ⟨(show cells ≤ 600000 by omega), (show slots ≤ room_1.slots by omega)⟩ dL_law_558 (fun H locs hw => ?_)
  refine lv_aload_n hx hb dL_law_561 rfl (lv_at hl 2 rfl) ?_
  refine lv_aload_n hx hb dL_law_562 rfl (lv_at hl 0 rfl) ?_
  refine lv_iload_n hx hb dL_law_563 rfl (lv_at hl 3 rfl) ?_
  refine lv_iconst (v := (1 : Int32)) hx hb dL_law_564 (by decide) ?_
  refine lv_iadd hx hb dL_law_565 ?_
  refine va_sld hx hb hX hbl hbA hw.1.2.2 (law_in (k := 1) hLx hi ex (by decide)) dL_law_566 ?_
  refine y_ref X hK hw (c12_benches l D cz ev mb hq2) cpX12.1 vw_L_77 ⟨Nat.le_of_ble_eq_true rfl, Nat.le_of_ble_eq_true rfl⟩ rfl rfl (Nat.le_of_ble_eq_true rfl) hl.1 ⟨(show cells + 0 ≤ 600000 by omega), (show slots + 0 ≤ room_1.slots by omega)⟩ dL_law_567 (fun H locs hw => ?_)
  refine lv_icmp_eq (tgt := 994) hx hb dL_law_570 (by decide) (fun _ => ?_) (fun g => absurd rfl g)
  exact tl _ _ _ _ _ _ _ _ _ _ _ hRel hw (by omega) (by omega)
set_option maxHeartbeats 4000000 in
set_option maxRecDepth 100000 in
theorem law_down {p : Program} {l : Launch} {e : Env} {s : State} {m : MethodId} {below : List Frame} {meth : Method} {c : Code} {D : va_G} {cz : Nat → ClassId} {ev : Nat × Nat × Nat} {N : Nat} {Rel : RelT} (hG : Good N Rel) {b0 Lx : Nat} {xs : Nat → Int32} (hLx : Lx ≤ 3072) (C0 : lw_At p s m meth c b0 Lx xs) (hK : KX D cz ev (AL s) s) {b mb n i cells slots : Nat} {x3 : Int32} (hi : i + 6 ≤ Lx) (ex : x3 = nI i) (hcc : cells + 23 * (n + 1) ≤ 600000) (hss : slots + 401 * (n + 1) ≤ room_1.slots) {L : List Nat} {S : ST} {Rf : RT} {I : IT} {J : JT} {I' : IT} {J' : JT} {H : Heap} {locs : List Loc} (hR : Rel b mb L S Rf I J I' J') (hw : LWd D cz s L S Rf I J mb I' J' H locs) {ls : Array Slot} (hl : lv_has ls 4 [(0, .ref b0), (1, .ref b), (2, .ref mb), (3, .int x3)])
    (tl : ∀ (L : List Nat) (S : ST) (Rf : RT) (I : IT) (J : JT) (I' : IT) (J' : JT) (H : Heap) (locs : List Loc) (cl sl : Nat), Rel b mb L S Rf I J I' J' → LWd D cz s L S Rf I J mb I' J' H locs → cl + 23 * n ≤ 600000 → sl + 401 * n ≤ room_1.slots → W p l e room_1 s m #[Value.ref b0] below meth c H locs cl sl (lw_Z below #[Value.ref b0] s) (F0 m 994 ls [])) :
    W p l e room_1 s m #[Value.ref b0] below meth c H locs cells slots (lw_Z below #[Value.ref b0] s) (F0 m 575 ls []) := by
  obtain ⟨hx, hb, hr, hml, hown, hts, hX, hbl, hlocks, hgv⟩ := C0
  have X : CallFix p m c code 4 s #[Value.ref b0] gw R_law := ⟨hx, hb, hml, hown, fun w hw => hts w (gw_tbl w hw)⟩
  have hbA : ¬ AL s b0 := Nat.not_le.mpr hbl
  have hC := hG.1 _ _ _ _ _ _ _ _ _ hR
  obtain ⟨r, I1, J1, I1', J1', hq1, hq2, hRel⟩ := hG.2.2.2.2.2.2.2.2.2.2.2.2.2.2.2.2.1 b mb L S Rf I J I' J' (xs (x3 + (1 : Int32)).toNatClampNeg) (xs (x3 + (2 : Int32)).toNatClampNeg) hR
  refine lv_aload_n hx hb dL_law_575 rfl (lv_at hl 1 rfl) ?_
  refine lv_aload_n hx hb dL_law_576 rfl (lv_at hl 0 rfl) ?_
  refine lv_iload_n hx hb dL_law_577 rfl (lv_at hl 3 rfl) ?_
  refine lv_iconst (v := (1 : Int32)) hx hb dL_law_578 (by decide) ?_
  refine lv_iadd hx hb dL_law_579 ?_
  refine va_sld hx hb hX hbl hbA hw.1.2.2 (law_in (k := 1) hLx hi ex (by decide)) dL_law_580 ?_
  refine lv_aload_n hx hb dL_law_581 rfl (lv_at hl 0 rfl) ?_
  refine lv_iload_n hx hb dL_law_582 rfl (lv_at hl 3 rfl) ?_
  refine lv_iconst (v := (2 : Int32)) hx hb dL_law_583 (by decide) ?_
  refine lv_iadd hx hb dL_law_584 ?_
  refine va_sld hx hb hX hbl hbA hw.1.2.2 (law_in (k := 2) hLx hi ex (by decide)) dL_law_585 ?_
  refine y_cls X hK hw (c11_down l D cz ev hC hq1) (cw_mem0 hC) (cw_S0 hC) cpX11.1 vw_L_78 ⟨Nat.le_of_ble_eq_true rfl, Nat.le_of_ble_eq_true rfl⟩ rfl rfl (Nat.le_of_ble_eq_true rfl) hl.1 ⟨(show cells ≤ 600000 by omega), (show slots ≤ room_1.slots by omega)⟩ dL_law_586 (fun H locs hw => ?_)
  refine lv_aload_n hx hb dL_law_589 rfl (lv_at hl 2 rfl) ?_
  refine lv_aload_n hx hb dL_law_590 rfl (lv_at hl 0 rfl) ?_
  refine lv_iload_n hx hb dL_law_591 rfl (lv_at hl 3 rfl) ?_
  refine lv_iconst (v := (1 : Int32)) hx hb dL_law_592 (by decide) ?_
  refine lv_iadd hx hb dL_law_593 ?_
  refine va_sld hx hb hX hbl hbA hw.1.2.2 (law_in (k := 1) hLx hi ex (by decide)) dL_law_594 ?_
  refine lv_aload_n hx hb dL_law_595 rfl (lv_at hl 0 rfl) ?_
  refine lv_iload_n hx hb dL_law_596 rfl (lv_at hl 3 rfl) ?_
  refine lv_iconst (v := (2 : Int32)) hx hb dL_law_597 (by decide) ?_
  refine lv_iadd hx hb dL_law_598 ?_
  refine va_sld hx hb hX hbl hbA hw.1.2.2 (law_in (k := 2) hLx hi ex (by decide)) dL_law_599 ?_
  refine y_ref X hK hw (c12_down l D cz ev mb hq2) cpX12.1 vw_L_81 ⟨Nat.le_of_ble_eq_true rfl, Nat.le_of_ble_eq_true rfl⟩ rfl rfl (Nat.le_of_ble_eq_true rfl) hl.1 ⟨(show cells + 0 ≤ 600000 by omega), (show slots + 0 ≤ room_1.slots by omega)⟩ dL_law_600 (fun H locs hw => ?_)
  refine lv_icmp_eq (tgt := 994) hx hb dL_law_603 (by decide) (fun _ => ?_) (fun g => absurd rfl g)
  exact tl _ _ _ _ _ _ _ _ _ _ _ hRel hw (by omega) (by omega)
set_option maxHeartbeats 4000000 in
set_option maxRecDepth 100000 in
theorem law_commit {p : Program} {l : Launch} {e : Env} {s : State} {m : MethodId} {below : List Frame} {meth : Method} {c : Code} {D : va_G} {cz : Nat → ClassId} {ev : Nat × Nat × Nat} {N : Nat} {Rel : RelT} (hG : Good N Rel) {b0 Lx : Nat} {xs : Nat → Int32} (hLx : Lx ≤ 3072) (C0 : lw_At p s m meth c b0 Lx xs) (hK : KX D cz ev (AL s) s) {b mb n i cells slots : Nat} {x3 : Int32} (hi : i + 6 ≤ Lx) (ex : x3 = nI i) (hcc : cells + 23 * (n + 1) ≤ 600000) (hss : slots + 401 * (n + 1) ≤ room_1.slots) {L : List Nat} {S : ST} {Rf : RT} {I : IT} {J : JT} {I' : IT} {J' : JT} {H : Heap} {locs : List Loc} (hR : Rel b mb L S Rf I J I' J') (hw : LWd D cz s L S Rf I J mb I' J' H locs) {ls : Array Slot} (hl : lv_has ls 4 [(0, .ref b0), (1, .ref b), (2, .ref mb), (3, .int x3)])
    (tl : ∀ (L : List Nat) (S : ST) (Rf : RT) (I : IT) (J : JT) (I' : IT) (J' : JT) (H : Heap) (locs : List Loc) (cl sl : Nat), Rel b mb L S Rf I J I' J' → LWd D cz s L S Rf I J mb I' J' H locs → cl + 23 * n ≤ 600000 → sl + 401 * n ≤ room_1.slots → W p l e room_1 s m #[Value.ref b0] below meth c H locs cl sl (lw_Z below #[Value.ref b0] s) (F0 m 994 ls [])) :
    W p l e room_1 s m #[Value.ref b0] below meth c H locs cells slots (lw_Z below #[Value.ref b0] s) (F0 m 608 ls []) := by
  obtain ⟨hx, hb, hr, hml, hown, hts, hX, hbl, hlocks, hgv⟩ := C0
  have X : CallFix p m c code 4 s #[Value.ref b0] gw R_law := ⟨hx, hb, hml, hown, fun w hw => hts w (gw_tbl w hw)⟩
  have hbA : ¬ AL s b0 := Nat.not_le.mpr hbl
  have hC := hG.1 _ _ _ _ _ _ _ _ _ hR
  obtain ⟨r, I1, J1, I1', J1', hq1, hq2, hRel⟩ := hG.2.2.2.2.2.2.2.2.2.2.2.2.2.2.2.2.2.1 b mb L S Rf I J I' J' (xs (x3 + (1 : Int32)).toNatClampNeg) (xs (x3 + (2 : Int32)).toNatClampNeg) (xs (x3 + (3 : Int32)).toNatClampNeg) (xs (x3 + (4 : Int32)).toNatClampNeg) (xs (x3 + (5 : Int32)).toNatClampNeg) hR
  refine lv_aload_n hx hb dL_law_608 rfl (lv_at hl 1 rfl) ?_
  refine lv_aload_n hx hb dL_law_609 rfl (lv_at hl 0 rfl) ?_
  refine lv_iload_n hx hb dL_law_610 rfl (lv_at hl 3 rfl) ?_
  refine lv_iconst (v := (1 : Int32)) hx hb dL_law_611 (by decide) ?_
  refine lv_iadd hx hb dL_law_612 ?_
  refine va_sld hx hb hX hbl hbA hw.1.2.2 (law_in (k := 1) hLx hi ex (by decide)) dL_law_613 ?_
  refine lv_aload_n hx hb dL_law_614 rfl (lv_at hl 0 rfl) ?_
  refine lv_iload_n hx hb dL_law_615 rfl (lv_at hl 3 rfl) ?_
  refine lv_iconst (v := (2 : Int32)) hx hb dL_law_616 (by decide) ?_
  refine lv_iadd hx hb dL_law_617 ?_
  refine va_sld hx hb hX hbl hbA hw.1.2.2 (law_in (k := 2) hLx hi ex (by decide)) dL_law_618 ?_
  refine lv_aload_n hx hb dL_law_619 rfl (lv_at hl 0 rfl) ?_
  refine lv_iload_n hx hb dL_law_620 rfl (lv_at hl 3 rfl) ?_
  refine lv_iconst (v := (3 : Int32)) hx hb dL_law_621 (by decide) ?_
  refine lv_iadd hx hb dL_law_622 ?_
  refine va_sld hx hb hX hbl hbA hw.1.2.2 (law_in (k := 3) hLx hi ex (by decide)) dL_law_623 ?_
  refine lv_aload_n hx hb dL_law_624 rfl (lv_at hl 0 rfl) ?_
  refine lv_iload_n hx hb dL_law_625 rfl (lv_at hl 3 rfl) ?_
  refine lv_iconst (v := (4 : Int32)) hx hb dL_law_626 (by decide) ?_
  refine lv_iadd hx hb dL_law_627 ?_
  refine va_sld hx hb hX hbl hbA hw.1.2.2 (law_in (k := 4) hLx hi ex (by decide)) dL_law_628 ?_
  refine lv_aload_n hx hb dL_law_629 rfl (lv_at hl 0 rfl) ?_
  refine lv_iload_n hx hb dL_law_630 rfl (lv_at hl 3 rfl) ?_
  refine lv_iconst (v := (5 : Int32)) hx hb dL_law_631 (by decide) ?_
  refine lv_iadd hx hb dL_law_632 ?_
  refine va_sld hx hb hX hbl hbA hw.1.2.2 (law_in (k := 5) hLx hi ex (by decide)) dL_law_633 ?_
  refine y_cls X hK hw (c11_commit l D cz ev hC hq1) (cw_mem0 hC) (cw_S0 hC) cpX11.1 vw_L_82 ⟨Nat.le_of_ble_eq_true rfl, Nat.le_of_ble_eq_true rfl⟩ rfl rfl (Nat.le_of_ble_eq_true rfl) hl.1 ⟨(show cells ≤ 600000 by omega), (show slots ≤ room_1.slots by omega)⟩ dL_law_634 (fun H locs hw => ?_)
  refine lv_aload_n hx hb dL_law_637 rfl (lv_at hl 2 rfl) ?_
  refine lv_aload_n hx hb dL_law_638 rfl (lv_at hl 0 rfl) ?_
  refine lv_iload_n hx hb dL_law_639 rfl (lv_at hl 3 rfl) ?_
  refine lv_iconst (v := (1 : Int32)) hx hb dL_law_640 (by decide) ?_
  refine lv_iadd hx hb dL_law_641 ?_
  refine va_sld hx hb hX hbl hbA hw.1.2.2 (law_in (k := 1) hLx hi ex (by decide)) dL_law_642 ?_
  refine lv_aload_n hx hb dL_law_643 rfl (lv_at hl 0 rfl) ?_
  refine lv_iload_n hx hb dL_law_644 rfl (lv_at hl 3 rfl) ?_
  refine lv_iconst (v := (2 : Int32)) hx hb dL_law_645 (by decide) ?_
  refine lv_iadd hx hb dL_law_646 ?_
  refine va_sld hx hb hX hbl hbA hw.1.2.2 (law_in (k := 2) hLx hi ex (by decide)) dL_law_647 ?_
  refine lv_aload_n hx hb dL_law_648 rfl (lv_at hl 0 rfl) ?_
  refine lv_iload_n hx hb dL_law_649 rfl (lv_at hl 3 rfl) ?_
  refine lv_iconst (v := (3 : Int32)) hx hb dL_law_650 (by decide) ?_
  refine lv_iadd hx hb dL_law_651 ?_
  refine va_sld hx hb hX hbl hbA hw.1.2.2 (law_in (k := 3) hLx hi ex (by decide)) dL_law_652 ?_
  refine lv_aload_n hx hb dL_law_653 rfl (lv_at hl 0 rfl) ?_
  refine lv_iload_n hx hb dL_law_654 rfl (lv_at hl 3 rfl) ?_
  refine lv_iconst (v := (4 : Int32)) hx hb dL_law_655 (by decide) ?_
  refine lv_iadd hx hb dL_law_656 ?_
  refine va_sld hx hb hX hbl hbA hw.1.2.2 (law_in (k := 4) hLx hi ex (by decide)) dL_law_657 ?_
  refine lv_aload_n hx hb dL_law_658 rfl (lv_at hl 0 rfl) ?_
  refine lv_iload_n hx hb dL_law_659 rfl (lv_at hl 3 rfl) ?_
  refine lv_iconst (v := (5 : Int32)) hx hb dL_law_660 (by decide) ?_
  refine lv_iadd hx hb dL_law_661 ?_
  refine va_sld hx hb hX hbl hbA hw.1.2.2 (law_in (k := 5) hLx hi ex (by decide)) dL_law_662 ?_
  refine y_ref X hK hw (c12_commit l D cz ev mb hq2) cpX12.1 vw_L_85 ⟨Nat.le_of_ble_eq_true rfl, Nat.le_of_ble_eq_true rfl⟩ rfl rfl (Nat.le_of_ble_eq_true rfl) hl.1 ⟨(show cells + 0 ≤ 600000 by omega), (show slots + 0 ≤ room_1.slots by omega)⟩ dL_law_663 (fun H locs hw => ?_)
  refine lv_icmp_eq (tgt := 994) hx hb dL_law_666 (by decide) (fun _ => ?_) (fun g => absurd rfl g)
  exact tl _ _ _ _ _ _ _ _ _ _ _ hRel hw (by omega) (by omega)
set_option maxHeartbeats 4000000 in
set_option maxRecDepth 100000 in
theorem law_above {p : Program} {l : Launch} {e : Env} {s : State} {m : MethodId} {below : List Frame} {meth : Method} {c : Code} {D : va_G} {cz : Nat → ClassId} {ev : Nat × Nat × Nat} {N : Nat} {Rel : RelT} (hG : Good N Rel) {b0 Lx : Nat} {xs : Nat → Int32} (hLx : Lx ≤ 3072) (C0 : lw_At p s m meth c b0 Lx xs) (hK : KX D cz ev (AL s) s) {b mb n i cells slots : Nat} {x3 : Int32} (hi : i + 6 ≤ Lx) (ex : x3 = nI i) (hcc : cells + 23 * (n + 1) ≤ 600000) (hss : slots + 401 * (n + 1) ≤ room_1.slots) {L : List Nat} {S : ST} {Rf : RT} {I : IT} {J : JT} {I' : IT} {J' : JT} {H : Heap} {locs : List Loc} (hR : Rel b mb L S Rf I J I' J') (hw : LWd D cz s L S Rf I J mb I' J' H locs) {ls : Array Slot} (hl : lv_has ls 4 [(0, .ref b0), (1, .ref b), (2, .ref mb), (3, .int x3)])
    (tl : ∀ (L : List Nat) (S : ST) (Rf : RT) (I : IT) (J : JT) (I' : IT) (J' : JT) (H : Heap) (locs : List Loc) (cl sl : Nat), Rel b mb L S Rf I J I' J' → LWd D cz s L S Rf I J mb I' J' H locs → cl + 23 * n ≤ 600000 → sl + 401 * n ≤ room_1.slots → W p l e room_1 s m #[Value.ref b0] below meth c H locs cl sl (lw_Z below #[Value.ref b0] s) (F0 m 994 ls [])) :
    W p l e room_1 s m #[Value.ref b0] below meth c H locs cells slots (lw_Z below #[Value.ref b0] s) (F0 m 671 ls []) := by
  obtain ⟨hx, hb, hr, hml, hown, hts, hX, hbl, hlocks, hgv⟩ := C0
  have X : CallFix p m c code 4 s #[Value.ref b0] gw R_law := ⟨hx, hb, hml, hown, fun w hw => hts w (gw_tbl w hw)⟩
  have hbA : ¬ AL s b0 := Nat.not_le.mpr hbl
  have hC := hG.1 _ _ _ _ _ _ _ _ _ hR
  obtain ⟨r, I1, J1, I1', J1', hq1, hq2, hRel⟩ := hG.2.2.2.2.2.2.2.2.2.2.2.2.2.2.2.2.2.2.1 b mb L S Rf I J I' J' (xs (x3 + (1 : Int32)).toNatClampNeg) hR
  refine lv_aload_n hx hb dL_law_671 rfl (lv_at hl 1 rfl) ?_
  refine lv_aload_n hx hb dL_law_672 rfl (lv_at hl 0 rfl) ?_
  refine lv_iload_n hx hb dL_law_673 rfl (lv_at hl 3 rfl) ?_
  refine lv_iconst (v := (1 : Int32)) hx hb dL_law_674 (by decide) ?_
  refine lv_iadd hx hb dL_law_675 ?_
  refine va_sld hx hb hX hbl hbA hw.1.2.2 (law_in (k := 1) hLx hi ex (by decide)) dL_law_676 ?_
  refine y_cls X hK hw (c11_above l D cz ev hC hq1) (cw_mem0 hC) (cw_S0 hC) cpX11.1 vw_L_86 ⟨Nat.le_of_ble_eq_true rfl, Nat.le_of_ble_eq_true rfl⟩ rfl rfl (Nat.le_of_ble_eq_true rfl) hl.1 ⟨(show cells ≤ 600000 by omega), (show slots ≤ room_1.slots by omega)⟩ dL_law_677 (fun H locs hw => ?_)
  refine lv_aload_n hx hb dL_law_680 rfl (lv_at hl 2 rfl) ?_
  refine lv_aload_n hx hb dL_law_681 rfl (lv_at hl 0 rfl) ?_
  refine lv_iload_n hx hb dL_law_682 rfl (lv_at hl 3 rfl) ?_
  refine lv_iconst (v := (1 : Int32)) hx hb dL_law_683 (by decide) ?_
  refine lv_iadd hx hb dL_law_684 ?_
  refine va_sld hx hb hX hbl hbA hw.1.2.2 (law_in (k := 1) hLx hi ex (by decide)) dL_law_685 ?_
  refine y_ref X hK hw (c12_above l D cz ev mb hq2) cpX12.1 vw_L_89 ⟨Nat.le_of_ble_eq_true rfl, Nat.le_of_ble_eq_true rfl⟩ rfl rfl (Nat.le_of_ble_eq_true rfl) hl.1 ⟨(show cells + 0 ≤ 600000 by omega), (show slots + 0 ≤ room_1.slots by omega)⟩ dL_law_686 (fun H locs hw => ?_)
  refine lv_icmp_eq (tgt := 994) hx hb dL_law_689 (by decide) (fun _ => ?_) (fun g => absurd rfl g)
  exact tl _ _ _ _ _ _ _ _ _ _ _ hRel hw (by omega) (by omega)
set_option maxHeartbeats 4000000 in
set_option maxRecDepth 100000 in
theorem law_lesson {p : Program} {l : Launch} {e : Env} {s : State} {m : MethodId} {below : List Frame} {meth : Method} {c : Code} {D : va_G} {cz : Nat → ClassId} {ev : Nat × Nat × Nat} {N : Nat} {Rel : RelT} (hG : Good N Rel) {b0 Lx : Nat} {xs : Nat → Int32} (hLx : Lx ≤ 3072) (C0 : lw_At p s m meth c b0 Lx xs) (hK : KX D cz ev (AL s) s) {b mb n i cells slots : Nat} {x3 : Int32} (hi : i + 6 ≤ Lx) (ex : x3 = nI i) (hcc : cells + 23 * (n + 1) ≤ 600000) (hss : slots + 401 * (n + 1) ≤ room_1.slots) {L : List Nat} {S : ST} {Rf : RT} {I : IT} {J : JT} {I' : IT} {J' : JT} {H : Heap} {locs : List Loc} (hR : Rel b mb L S Rf I J I' J') (hw : LWd D cz s L S Rf I J mb I' J' H locs) {ls : Array Slot} (hl : lv_has ls 4 [(0, .ref b0), (1, .ref b), (2, .ref mb), (3, .int x3)])
    (tl : ∀ (L : List Nat) (S : ST) (Rf : RT) (I : IT) (J : JT) (I' : IT) (J' : JT) (H : Heap) (locs : List Loc) (cl sl : Nat), Rel b mb L S Rf I J I' J' → LWd D cz s L S Rf I J mb I' J' H locs → cl + 23 * n ≤ 600000 → sl + 401 * n ≤ room_1.slots → W p l e room_1 s m #[Value.ref b0] below meth c H locs cl sl (lw_Z below #[Value.ref b0] s) (F0 m 994 ls [])) :
    W p l e room_1 s m #[Value.ref b0] below meth c H locs cells slots (lw_Z below #[Value.ref b0] s) (F0 m 694 ls []) := by
  obtain ⟨hx, hb, hr, hml, hown, hts, hX, hbl, hlocks, hgv⟩ := C0
  have X : CallFix p m c code 4 s #[Value.ref b0] gw R_law := ⟨hx, hb, hml, hown, fun w hw => hts w (gw_tbl w hw)⟩
  have hbA : ¬ AL s b0 := Nat.not_le.mpr hbl
  have hC := hG.1 _ _ _ _ _ _ _ _ _ hR
  obtain ⟨r, I1, J1, I1', J1', hq1, hq2, hRel⟩ := hG.2.2.2.2.2.2.2.2.2.2.2.2.2.2.2.2.2.2.2.1 b mb L S Rf I J I' J' (xs (x3 + (1 : Int32)).toNatClampNeg) hR
  refine lv_aload_n hx hb dL_law_694 rfl (lv_at hl 1 rfl) ?_
  refine lv_aload_n hx hb dL_law_695 rfl (lv_at hl 0 rfl) ?_
  refine lv_iload_n hx hb dL_law_696 rfl (lv_at hl 3 rfl) ?_
  refine lv_iconst (v := (1 : Int32)) hx hb dL_law_697 (by decide) ?_
  refine lv_iadd hx hb dL_law_698 ?_
  refine va_sld hx hb hX hbl hbA hw.1.2.2 (law_in (k := 1) hLx hi ex (by decide)) dL_law_699 ?_
  refine y_cls X hK hw (c11_lesson l D cz ev hC hq1) (cw_mem0 hC) (cw_S0 hC) cpX11.1 vw_L_90 ⟨Nat.le_of_ble_eq_true rfl, Nat.le_of_ble_eq_true rfl⟩ rfl rfl (Nat.le_of_ble_eq_true rfl) hl.1 ⟨(show cells ≤ 600000 by omega), (show slots ≤ room_1.slots by omega)⟩ dL_law_700 (fun H locs hw => ?_)
  refine lv_aload_n hx hb dL_law_703 rfl (lv_at hl 2 rfl) ?_
  refine lv_aload_n hx hb dL_law_704 rfl (lv_at hl 0 rfl) ?_
  refine lv_iload_n hx hb dL_law_705 rfl (lv_at hl 3 rfl) ?_
  refine lv_iconst (v := (1 : Int32)) hx hb dL_law_706 (by decide) ?_
  refine lv_iadd hx hb dL_law_707 ?_
  refine va_sld hx hb hX hbl hbA hw.1.2.2 (law_in (k := 1) hLx hi ex (by decide)) dL_law_708 ?_
  refine y_ref X hK hw (c12_lesson l D cz ev mb hq2) cpX12.1 vw_L_93 ⟨Nat.le_of_ble_eq_true rfl, Nat.le_of_ble_eq_true rfl⟩ rfl rfl (Nat.le_of_ble_eq_true rfl) hl.1 ⟨(show cells + 0 ≤ 600000 by omega), (show slots + 0 ≤ room_1.slots by omega)⟩ dL_law_709 (fun H locs hw => ?_)
  refine lv_icmp_eq (tgt := 994) hx hb dL_law_712 (by decide) (fun _ => ?_) (fun g => absurd rfl g)
  exact tl _ _ _ _ _ _ _ _ _ _ _ hRel hw (by omega) (by omega)
set_option maxHeartbeats 4000000 in
set_option maxRecDepth 100000 in
theorem law_clement {p : Program} {l : Launch} {e : Env} {s : State} {m : MethodId} {below : List Frame} {meth : Method} {c : Code} {D : va_G} {cz : Nat → ClassId} {ev : Nat × Nat × Nat} {N : Nat} {Rel : RelT} (hG : Good N Rel) {b0 Lx : Nat} {xs : Nat → Int32} (hLx : Lx ≤ 3072) (C0 : lw_At p s m meth c b0 Lx xs) (hK : KX D cz ev (AL s) s) {b mb n i cells slots : Nat} {x3 : Int32} (hi : i + 6 ≤ Lx) (ex : x3 = nI i) (hcc : cells + 23 * (n + 1) ≤ 600000) (hss : slots + 401 * (n + 1) ≤ room_1.slots) {L : List Nat} {S : ST} {Rf : RT} {I : IT} {J : JT} {I' : IT} {J' : JT} {H : Heap} {locs : List Loc} (hR : Rel b mb L S Rf I J I' J') (hw : LWd D cz s L S Rf I J mb I' J' H locs) {ls : Array Slot} (hl : lv_has ls 4 [(0, .ref b0), (1, .ref b), (2, .ref mb), (3, .int x3)])
    (tl : ∀ (L : List Nat) (S : ST) (Rf : RT) (I : IT) (J : JT) (I' : IT) (J' : JT) (H : Heap) (locs : List Loc) (cl sl : Nat), Rel b mb L S Rf I J I' J' → LWd D cz s L S Rf I J mb I' J' H locs → cl + 23 * n ≤ 600000 → sl + 401 * n ≤ room_1.slots → W p l e room_1 s m #[Value.ref b0] below meth c H locs cl sl (lw_Z below #[Value.ref b0] s) (F0 m 994 ls [])) :
    W p l e room_1 s m #[Value.ref b0] below meth c H locs cells slots (lw_Z below #[Value.ref b0] s) (F0 m 717 ls []) := by
  obtain ⟨hx, hb, hr, hml, hown, hts, hX, hbl, hlocks, hgv⟩ := C0
  have X : CallFix p m c code 4 s #[Value.ref b0] gw R_law := ⟨hx, hb, hml, hown, fun w hw => hts w (gw_tbl w hw)⟩
  have hbA : ¬ AL s b0 := Nat.not_le.mpr hbl
  have hC := hG.1 _ _ _ _ _ _ _ _ _ hR
  obtain ⟨r, I1, J1, I1', J1', hq1, hq2, hRel⟩ := hG.2.2.2.2.2.2.2.2.2.2.2.2.2.2.2.2.2.2.2.2.1 b mb L S Rf I J I' J' (xs (x3 + (1 : Int32)).toNatClampNeg) (xs (x3 + (2 : Int32)).toNatClampNeg) hR
  refine lv_aload_n hx hb dL_law_717 rfl (lv_at hl 1 rfl) ?_
  refine lv_aload_n hx hb dL_law_718 rfl (lv_at hl 0 rfl) ?_
  refine lv_iload_n hx hb dL_law_719 rfl (lv_at hl 3 rfl) ?_
  refine lv_iconst (v := (1 : Int32)) hx hb dL_law_720 (by decide) ?_
  refine lv_iadd hx hb dL_law_721 ?_
  refine va_sld hx hb hX hbl hbA hw.1.2.2 (law_in (k := 1) hLx hi ex (by decide)) dL_law_722 ?_
  refine lv_aload_n hx hb dL_law_723 rfl (lv_at hl 0 rfl) ?_
  refine lv_iload_n hx hb dL_law_724 rfl (lv_at hl 3 rfl) ?_
  refine lv_iconst (v := (2 : Int32)) hx hb dL_law_725 (by decide) ?_
  refine lv_iadd hx hb dL_law_726 ?_
  refine va_sld hx hb hX hbl hbA hw.1.2.2 (law_in (k := 2) hLx hi ex (by decide)) dL_law_727 ?_
  refine y_cls X hK hw (c11_clement l D cz ev hC hq1) (cw_mem0 hC) (cw_S0 hC) cpX11.1 vw_L_94 ⟨Nat.le_of_ble_eq_true rfl, Nat.le_of_ble_eq_true rfl⟩ rfl rfl (Nat.le_of_ble_eq_true rfl) hl.1 ⟨(show cells ≤ 600000 by omega), (show slots ≤ room_1.slots by omega)⟩ dL_law_728 (fun H locs hw => ?_)
  refine lv_aload_n hx hb dL_law_731 rfl (lv_at hl 2 rfl) ?_
  refine lv_aload_n hx hb dL_law_732 rfl (lv_at hl 0 rfl) ?_
  refine lv_iload_n hx hb dL_law_733 rfl (lv_at hl 3 rfl) ?_
  refine lv_iconst (v := (1 : Int32)) hx hb dL_law_734 (by decide) ?_
  refine lv_iadd hx hb dL_law_735 ?_
  refine va_sld hx hb hX hbl hbA hw.1.2.2 (law_in (k := 1) hLx hi ex (by decide)) dL_law_736 ?_
  refine lv_aload_n hx hb dL_law_737 rfl (lv_at hl 0 rfl) ?_
  refine lv_iload_n hx hb dL_law_738 rfl (lv_at hl 3 rfl) ?_
  refine lv_iconst (v := (2 : Int32)) hx hb dL_law_739 (by decide) ?_
  refine lv_iadd hx hb dL_law_740 ?_
  refine va_sld hx hb hX hbl hbA hw.1.2.2 (law_in (k := 2) hLx hi ex (by decide)) dL_law_741 ?_
  refine y_ref X hK hw (c12_clement l D cz ev mb hq2) cpX12.1 vw_L_97 ⟨Nat.le_of_ble_eq_true rfl, Nat.le_of_ble_eq_true rfl⟩ rfl rfl (Nat.le_of_ble_eq_true rfl) hl.1 ⟨(show cells + 0 ≤ 600000 by omega), (show slots + 0 ≤ room_1.slots by omega)⟩ dL_law_742 (fun H locs hw => ?_)
  refine lv_icmp_eq (tgt := 994) hx hb dL_law_745 (by decide) (fun _ => ?_) (fun g => absurd rfl g)
  exact tl _ _ _ _ _ _ _ _ _ _ _ hRel hw (by omega) (by omega)
set_option maxHeartbeats 4000000 in
set_option maxRecDepth 100000 in
theorem law_fact {p : Program} {l : Launch} {e : Env} {s : State} {m : MethodId} {below : List Frame} {meth : Method} {c : Code} {D : va_G} {cz : Nat → ClassId} {ev : Nat × Nat × Nat} {N : Nat} {Rel : RelT} (hG : Good N Rel) {b0 Lx : Nat} {xs : Nat → Int32} (hLx : Lx ≤ 3072) (C0 : lw_At p s m meth c b0 Lx xs) (hK : KX D cz ev (AL s) s) {b mb n i cells slots : Nat} {x3 : Int32} (hi : i + 6 ≤ Lx) (ex : x3 = nI i) (hcc : cells + 23 * (n + 1) ≤ 600000) (hss : slots + 401 * (n + 1) ≤ room_1.slots) {L : List Nat} {S : ST} {Rf : RT} {I : IT} {J : JT} {I' : IT} {J' : JT} {H : Heap} {locs : List Loc} (hR : Rel b mb L S Rf I J I' J') (hw : LWd D cz s L S Rf I J mb I' J' H locs) {ls : Array Slot} (hl : lv_has ls 4 [(0, .ref b0), (1, .ref b), (2, .ref mb), (3, .int x3)])
    (tl : ∀ (L : List Nat) (S : ST) (Rf : RT) (I : IT) (J : JT) (I' : IT) (J' : JT) (H : Heap) (locs : List Loc) (cl sl : Nat), Rel b mb L S Rf I J I' J' → LWd D cz s L S Rf I J mb I' J' H locs → cl + 23 * n ≤ 600000 → sl + 401 * n ≤ room_1.slots → W p l e room_1 s m #[Value.ref b0] below meth c H locs cl sl (lw_Z below #[Value.ref b0] s) (F0 m 994 ls [])) :
    W p l e room_1 s m #[Value.ref b0] below meth c H locs cells slots (lw_Z below #[Value.ref b0] s) (F0 m 750 ls []) := by
  obtain ⟨hx, hb, hr, hml, hown, hts, hX, hbl, hlocks, hgv⟩ := C0
  have X : CallFix p m c code 4 s #[Value.ref b0] gw R_law := ⟨hx, hb, hml, hown, fun w hw => hts w (gw_tbl w hw)⟩
  have hbA : ¬ AL s b0 := Nat.not_le.mpr hbl
  have hC := hG.1 _ _ _ _ _ _ _ _ _ hR
  obtain ⟨r, I1, J1, I1', J1', hq1, hq2, hRel⟩ := hG.2.2.2.2.2.2.2.2.2.2.2.2.2.2.2.2.2.2.2.2.2.1 b mb L S Rf I J I' J' (xs (x3 + (1 : Int32)).toNatClampNeg) (xs (x3 + (2 : Int32)).toNatClampNeg) (xs (x3 + (3 : Int32)).toNatClampNeg) hR
  refine lv_aload_n hx hb dL_law_750 rfl (lv_at hl 1 rfl) ?_
  refine lv_aload_n hx hb dL_law_751 rfl (lv_at hl 0 rfl) ?_
  refine lv_iload_n hx hb dL_law_752 rfl (lv_at hl 3 rfl) ?_
  refine lv_iconst (v := (1 : Int32)) hx hb dL_law_753 (by decide) ?_
  refine lv_iadd hx hb dL_law_754 ?_
  refine va_sld hx hb hX hbl hbA hw.1.2.2 (law_in (k := 1) hLx hi ex (by decide)) dL_law_755 ?_
  refine lv_aload_n hx hb dL_law_756 rfl (lv_at hl 0 rfl) ?_
  refine lv_iload_n hx hb dL_law_757 rfl (lv_at hl 3 rfl) ?_
  refine lv_iconst (v := (2 : Int32)) hx hb dL_law_758 (by decide) ?_
  refine lv_iadd hx hb dL_law_759 ?_
  refine va_sld hx hb hX hbl hbA hw.1.2.2 (law_in (k := 2) hLx hi ex (by decide)) dL_law_760 ?_
  refine lv_aload_n hx hb dL_law_761 rfl (lv_at hl 0 rfl) ?_
  refine lv_iload_n hx hb dL_law_762 rfl (lv_at hl 3 rfl) ?_
  refine lv_iconst (v := (3 : Int32)) hx hb dL_law_763 (by decide) ?_
  refine lv_iadd hx hb dL_law_764 ?_
  refine va_sld hx hb hX hbl hbA hw.1.2.2 (law_in (k := 3) hLx hi ex (by decide)) dL_law_765 ?_
  refine y_cls X hK hw (c11_fact l D cz ev hC hq1) (cw_mem0 hC) (cw_S0 hC) cpX11.1 vw_L_98 ⟨Nat.le_of_ble_eq_true rfl, Nat.le_of_ble_eq_true rfl⟩ rfl rfl (Nat.le_of_ble_eq_true rfl) hl.1 ⟨(show cells ≤ 600000 by omega), (show slots ≤ room_1.slots by omega)⟩ dL_law_766 (fun H locs hw => ?_)
  refine lv_aload_n hx hb dL_law_769 rfl (lv_at hl 2 rfl) ?_
  refine lv_aload_n hx hb dL_law_770 rfl (lv_at hl 0 rfl) ?_
  refine lv_iload_n hx hb dL_law_771 rfl (lv_at hl 3 rfl) ?_
  refine lv_iconst (v := (1 : Int32)) hx hb dL_law_772 (by decide) ?_
  refine lv_iadd hx hb dL_law_773 ?_
  refine va_sld hx hb hX hbl hbA hw.1.2.2 (law_in (k := 1) hLx hi ex (by decide)) dL_law_774 ?_
  refine lv_aload_n hx hb dL_law_775 rfl (lv_at hl 0 rfl) ?_
  refine lv_iload_n hx hb dL_law_776 rfl (lv_at hl 3 rfl) ?_
  refine lv_iconst (v := (2 : Int32)) hx hb dL_law_777 (by decide) ?_
  refine lv_iadd hx hb dL_law_778 ?_
  refine va_sld hx hb hX hbl hbA hw.1.2.2 (law_in (k := 2) hLx hi ex (by decide)) dL_law_779 ?_
  refine lv_aload_n hx hb dL_law_780 rfl (lv_at hl 0 rfl) ?_
  refine lv_iload_n hx hb dL_law_781 rfl (lv_at hl 3 rfl) ?_
  refine lv_iconst (v := (3 : Int32)) hx hb dL_law_782 (by decide) ?_
  refine lv_iadd hx hb dL_law_783 ?_
  refine va_sld hx hb hX hbl hbA hw.1.2.2 (law_in (k := 3) hLx hi ex (by decide)) dL_law_784 ?_
  refine y_ref X hK hw (c12_fact_ l D cz ev mb hq2) cpX12.1 vw_L_101 ⟨Nat.le_of_ble_eq_true rfl, Nat.le_of_ble_eq_true rfl⟩ rfl rfl (Nat.le_of_ble_eq_true rfl) hl.1 ⟨(show cells + 0 ≤ 600000 by omega), (show slots + 0 ≤ room_1.slots by omega)⟩ dL_law_785 (fun H locs hw => ?_)
  refine lv_icmp_eq (tgt := 994) hx hb dL_law_788 (by decide) (fun _ => ?_) (fun g => absurd rfl g)
  exact tl _ _ _ _ _ _ _ _ _ _ _ hRel hw (by omega) (by omega)
set_option maxHeartbeats 4000000 in
set_option maxRecDepth 100000 in
theorem law_who {p : Program} {l : Launch} {e : Env} {s : State} {m : MethodId} {below : List Frame} {meth : Method} {c : Code} {D : va_G} {cz : Nat → ClassId} {ev : Nat × Nat × Nat} {N : Nat} {Rel : RelT} (hG : Good N Rel) {b0 Lx : Nat} {xs : Nat → Int32} (hLx : Lx ≤ 3072) (C0 : lw_At p s m meth c b0 Lx xs) (hK : KX D cz ev (AL s) s) {b mb n i cells slots : Nat} {x3 : Int32} (hi : i + 6 ≤ Lx) (ex : x3 = nI i) (hcc : cells + 23 * (n + 1) ≤ 600000) (hss : slots + 401 * (n + 1) ≤ room_1.slots) {L : List Nat} {S : ST} {Rf : RT} {I : IT} {J : JT} {I' : IT} {J' : JT} {H : Heap} {locs : List Loc} (hR : Rel b mb L S Rf I J I' J') (hw : LWd D cz s L S Rf I J mb I' J' H locs) {ls : Array Slot} (hl : lv_has ls 4 [(0, .ref b0), (1, .ref b), (2, .ref mb), (3, .int x3)])
    (tl : ∀ (L : List Nat) (S : ST) (Rf : RT) (I : IT) (J : JT) (I' : IT) (J' : JT) (H : Heap) (locs : List Loc) (cl sl : Nat), Rel b mb L S Rf I J I' J' → LWd D cz s L S Rf I J mb I' J' H locs → cl + 23 * n ≤ 600000 → sl + 401 * n ≤ room_1.slots → W p l e room_1 s m #[Value.ref b0] below meth c H locs cl sl (lw_Z below #[Value.ref b0] s) (F0 m 994 ls [])) :
    W p l e room_1 s m #[Value.ref b0] below meth c H locs cells slots (lw_Z below #[Value.ref b0] s) (F0 m 793 ls []) := by
  obtain ⟨hx, hb, hr, hml, hown, hts, hX, hbl, hlocks, hgv⟩ := C0
  have X : CallFix p m c code 4 s #[Value.ref b0] gw R_law := ⟨hx, hb, hml, hown, fun w hw => hts w (gw_tbl w hw)⟩
  have hbA : ¬ AL s b0 := Nat.not_le.mpr hbl
  have hC := hG.1 _ _ _ _ _ _ _ _ _ hR
  obtain ⟨r, I1, J1, I1', J1', hq1, hq2, hRel⟩ := hG.2.2.2.2.2.2.2.2.2.2.2.2.2.2.2.2.2.2.2.2.2.2.1 b mb L S Rf I J I' J' (xs (x3 + (1 : Int32)).toNatClampNeg) (xs (x3 + (2 : Int32)).toNatClampNeg) hR
  refine lv_aload_n hx hb dL_law_793 rfl (lv_at hl 1 rfl) ?_
  refine lv_aload_n hx hb dL_law_794 rfl (lv_at hl 0 rfl) ?_
  refine lv_iload_n hx hb dL_law_795 rfl (lv_at hl 3 rfl) ?_
  refine lv_iconst (v := (1 : Int32)) hx hb dL_law_796 (by decide) ?_
  refine lv_iadd hx hb dL_law_797 ?_
  refine va_sld hx hb hX hbl hbA hw.1.2.2 (law_in (k := 1) hLx hi ex (by decide)) dL_law_798 ?_
  refine lv_aload_n hx hb dL_law_799 rfl (lv_at hl 0 rfl) ?_
  refine lv_iload_n hx hb dL_law_800 rfl (lv_at hl 3 rfl) ?_
  refine lv_iconst (v := (2 : Int32)) hx hb dL_law_801 (by decide) ?_
  refine lv_iadd hx hb dL_law_802 ?_
  refine va_sld hx hb hX hbl hbA hw.1.2.2 (law_in (k := 2) hLx hi ex (by decide)) dL_law_803 ?_
  refine y_cls X hK hw (c11_who l D cz ev hC hq1) (cw_mem0 hC) (cw_S0 hC) cpX11.1 vw_L_102 ⟨Nat.le_of_ble_eq_true rfl, Nat.le_of_ble_eq_true rfl⟩ rfl rfl (Nat.le_of_ble_eq_true rfl) hl.1 ⟨(show cells ≤ 600000 by omega), (show slots ≤ room_1.slots by omega)⟩ dL_law_804 (fun H locs hw => ?_)
  refine lv_aload_n hx hb dL_law_807 rfl (lv_at hl 2 rfl) ?_
  refine lv_aload_n hx hb dL_law_808 rfl (lv_at hl 0 rfl) ?_
  refine lv_iload_n hx hb dL_law_809 rfl (lv_at hl 3 rfl) ?_
  refine lv_iconst (v := (1 : Int32)) hx hb dL_law_810 (by decide) ?_
  refine lv_iadd hx hb dL_law_811 ?_
  refine va_sld hx hb hX hbl hbA hw.1.2.2 (law_in (k := 1) hLx hi ex (by decide)) dL_law_812 ?_
  refine lv_aload_n hx hb dL_law_813 rfl (lv_at hl 0 rfl) ?_
  refine lv_iload_n hx hb dL_law_814 rfl (lv_at hl 3 rfl) ?_
  refine lv_iconst (v := (2 : Int32)) hx hb dL_law_815 (by decide) ?_
  refine lv_iadd hx hb dL_law_816 ?_
  refine va_sld hx hb hX hbl hbA hw.1.2.2 (law_in (k := 2) hLx hi ex (by decide)) dL_law_817 ?_
  refine y_ref X hK hw (c12_who l D cz ev mb hq2) cpX12.1 vw_L_105 ⟨Nat.le_of_ble_eq_true rfl, Nat.le_of_ble_eq_true rfl⟩ rfl rfl (Nat.le_of_ble_eq_true rfl) hl.1 ⟨(show cells + 0 ≤ 600000 by omega), (show slots + 0 ≤ room_1.slots by omega)⟩ dL_law_818 (fun H locs hw => ?_)
  refine lv_icmp_eq (tgt := 994) hx hb dL_law_821 (by decide) (fun _ => ?_) (fun g => absurd rfl g)
  exact tl _ _ _ _ _ _ _ _ _ _ _ hRel hw (by omega) (by omega)
set_option maxHeartbeats 4000000 in
set_option maxRecDepth 100000 in
theorem law_look {p : Program} {l : Launch} {e : Env} {s : State} {m : MethodId} {below : List Frame} {meth : Method} {c : Code} {D : va_G} {cz : Nat → ClassId} {ev : Nat × Nat × Nat} {N : Nat} {Rel : RelT} (hG : Good N Rel) {b0 Lx : Nat} {xs : Nat → Int32} (hLx : Lx ≤ 3072) (C0 : lw_At p s m meth c b0 Lx xs) (hK : KX D cz ev (AL s) s) {b mb n i cells slots : Nat} {x3 : Int32} (hi : i + 6 ≤ Lx) (ex : x3 = nI i) (hcc : cells + 23 * (n + 1) ≤ 600000) (hss : slots + 401 * (n + 1) ≤ room_1.slots) {L : List Nat} {S : ST} {Rf : RT} {I : IT} {J : JT} {I' : IT} {J' : JT} {H : Heap} {locs : List Loc} (hR : Rel b mb L S Rf I J I' J') (hw : LWd D cz s L S Rf I J mb I' J' H locs) {ls : Array Slot} (hl : lv_has ls 4 [(0, .ref b0), (1, .ref b), (2, .ref mb), (3, .int x3)])
    (tl : ∀ (L : List Nat) (S : ST) (Rf : RT) (I : IT) (J : JT) (I' : IT) (J' : JT) (H : Heap) (locs : List Loc) (cl sl : Nat), Rel b mb L S Rf I J I' J' → LWd D cz s L S Rf I J mb I' J' H locs → cl + 23 * n ≤ 600000 → sl + 401 * n ≤ room_1.slots → W p l e room_1 s m #[Value.ref b0] below meth c H locs cl sl (lw_Z below #[Value.ref b0] s) (F0 m 994 ls [])) :
    W p l e room_1 s m #[Value.ref b0] below meth c H locs cells slots (lw_Z below #[Value.ref b0] s) (F0 m 826 ls []) := by
  obtain ⟨hx, hb, hr, hml, hown, hts, hX, hbl, hlocks, hgv⟩ := C0
  have X : CallFix p m c code 4 s #[Value.ref b0] gw R_law := ⟨hx, hb, hml, hown, fun w hw => hts w (gw_tbl w hw)⟩
  have hbA : ¬ AL s b0 := Nat.not_le.mpr hbl
  have hC := hG.1 _ _ _ _ _ _ _ _ _ hR
  obtain ⟨r, I1, J1, I1', J1', hq1, hq2, hRel⟩ := hG.2.2.2.2.2.2.2.2.2.2.2.2.2.2.2.2.2.2.2.2.2.2.2.1 b mb L S Rf I J I' J' (xs (x3 + (1 : Int32)).toNatClampNeg) (xs (x3 + (2 : Int32)).toNatClampNeg) hR
  refine lv_aload_n hx hb dL_law_826 rfl (lv_at hl 1 rfl) ?_
  refine lv_aload_n hx hb dL_law_827 rfl (lv_at hl 0 rfl) ?_
  refine lv_iload_n hx hb dL_law_828 rfl (lv_at hl 3 rfl) ?_
  refine lv_iconst (v := (1 : Int32)) hx hb dL_law_829 (by decide) ?_
  refine lv_iadd hx hb dL_law_830 ?_
  refine va_sld hx hb hX hbl hbA hw.1.2.2 (law_in (k := 1) hLx hi ex (by decide)) dL_law_831 ?_
  refine lv_aload_n hx hb dL_law_832 rfl (lv_at hl 0 rfl) ?_
  refine lv_iload_n hx hb dL_law_833 rfl (lv_at hl 3 rfl) ?_
  refine lv_iconst (v := (2 : Int32)) hx hb dL_law_834 (by decide) ?_
  refine lv_iadd hx hb dL_law_835 ?_
  refine va_sld hx hb hX hbl hbA hw.1.2.2 (law_in (k := 2) hLx hi ex (by decide)) dL_law_836 ?_
  refine y_cls X hK hw (c11_look l D cz ev hC hq1) (cw_mem0 hC) (cw_S0 hC) cpX11.1 vw_L_106 ⟨Nat.le_of_ble_eq_true rfl, Nat.le_of_ble_eq_true rfl⟩ rfl rfl (Nat.le_of_ble_eq_true rfl) hl.1 ⟨(show cells ≤ 600000 by omega), (show slots ≤ room_1.slots by omega)⟩ dL_law_837 (fun H locs hw => ?_)
  refine lv_aload_n hx hb dL_law_840 rfl (lv_at hl 2 rfl) ?_
  refine lv_aload_n hx hb dL_law_841 rfl (lv_at hl 0 rfl) ?_
  refine lv_iload_n hx hb dL_law_842 rfl (lv_at hl 3 rfl) ?_
  refine lv_iconst (v := (1 : Int32)) hx hb dL_law_843 (by decide) ?_
  refine lv_iadd hx hb dL_law_844 ?_
  refine va_sld hx hb hX hbl hbA hw.1.2.2 (law_in (k := 1) hLx hi ex (by decide)) dL_law_845 ?_
  refine lv_aload_n hx hb dL_law_846 rfl (lv_at hl 0 rfl) ?_
  refine lv_iload_n hx hb dL_law_847 rfl (lv_at hl 3 rfl) ?_
  refine lv_iconst (v := (2 : Int32)) hx hb dL_law_848 (by decide) ?_
  refine lv_iadd hx hb dL_law_849 ?_
  refine va_sld hx hb hX hbl hbA hw.1.2.2 (law_in (k := 2) hLx hi ex (by decide)) dL_law_850 ?_
  refine y_ref X hK hw (c12_look l D cz ev mb hq2) cpX12.1 vw_L_109 ⟨Nat.le_of_ble_eq_true rfl, Nat.le_of_ble_eq_true rfl⟩ rfl rfl (Nat.le_of_ble_eq_true rfl) hl.1 ⟨(show cells + 0 ≤ 600000 by omega), (show slots + 0 ≤ room_1.slots by omega)⟩ dL_law_851 (fun H locs hw => ?_)
  refine lv_icmp_eq (tgt := 994) hx hb dL_law_854 (by decide) (fun _ => ?_) (fun g => absurd rfl g)
  exact tl _ _ _ _ _ _ _ _ _ _ _ hRel hw (by omega) (by omega)
set_option maxHeartbeats 4000000 in
set_option maxRecDepth 100000 in
theorem law_seed {p : Program} {l : Launch} {e : Env} {s : State} {m : MethodId} {below : List Frame} {meth : Method} {c : Code} {D : va_G} {cz : Nat → ClassId} {ev : Nat × Nat × Nat} {N : Nat} {Rel : RelT} (hG : Good N Rel) {b0 Lx : Nat} {xs : Nat → Int32} (hLx : Lx ≤ 3072) (C0 : lw_At p s m meth c b0 Lx xs) (hK : KX D cz ev (AL s) s) {b mb n i cells slots : Nat} {x3 : Int32} (hi : i + 6 ≤ Lx) (ex : x3 = nI i) (hcc : cells + 23 * (n + 1) ≤ 600000) (hss : slots + 401 * (n + 1) ≤ room_1.slots) {L : List Nat} {S : ST} {Rf : RT} {I : IT} {J : JT} {I' : IT} {J' : JT} {H : Heap} {locs : List Loc} (hR : Rel b mb L S Rf I J I' J') (hw : LWd D cz s L S Rf I J mb I' J' H locs) {ls : Array Slot} (hl : lv_has ls 4 [(0, .ref b0), (1, .ref b), (2, .ref mb), (3, .int x3)])
    (tl : ∀ (L : List Nat) (S : ST) (Rf : RT) (I : IT) (J : JT) (I' : IT) (J' : JT) (H : Heap) (locs : List Loc) (cl sl : Nat), Rel b mb L S Rf I J I' J' → LWd D cz s L S Rf I J mb I' J' H locs → cl + 23 * n ≤ 600000 → sl + 401 * n ≤ room_1.slots → W p l e room_1 s m #[Value.ref b0] below meth c H locs cl sl (lw_Z below #[Value.ref b0] s) (F0 m 994 ls [])) :
    W p l e room_1 s m #[Value.ref b0] below meth c H locs cells slots (lw_Z below #[Value.ref b0] s) (F0 m 859 ls []) := by
  obtain ⟨hx, hb, hr, hml, hown, hts, hX, hbl, hlocks, hgv⟩ := C0
  have X : CallFix p m c code 4 s #[Value.ref b0] gw R_law := ⟨hx, hb, hml, hown, fun w hw => hts w (gw_tbl w hw)⟩
  have hbA : ¬ AL s b0 := Nat.not_le.mpr hbl
  have hC := hG.1 _ _ _ _ _ _ _ _ _ hR
  obtain ⟨r, I1, J1, I1', J1', hq1, hq2, hRel⟩ := hG.2.2.2.2.2.2.2.2.2.2.2.2.2.2.2.2.2.2.2.2.2.2.2.2.1 b mb L S Rf I J I' J' (xs (x3 + (1 : Int32)).toNatClampNeg) hR
  refine lv_aload_n hx hb dL_law_859 rfl (lv_at hl 1 rfl) ?_
  refine lv_aload_n hx hb dL_law_860 rfl (lv_at hl 0 rfl) ?_
  refine lv_iload_n hx hb dL_law_861 rfl (lv_at hl 3 rfl) ?_
  refine lv_iconst (v := (1 : Int32)) hx hb dL_law_862 (by decide) ?_
  refine lv_iadd hx hb dL_law_863 ?_
  refine va_sld hx hb hX hbl hbA hw.1.2.2 (law_in (k := 1) hLx hi ex (by decide)) dL_law_864 ?_
  refine y_cls X hK hw (c11_seed l D cz ev hC hq1) (cw_mem0 hC) (cw_S0 hC) cpX11.1 vw_L_110 ⟨Nat.le_of_ble_eq_true rfl, Nat.le_of_ble_eq_true rfl⟩ rfl rfl (Nat.le_of_ble_eq_true rfl) hl.1 ⟨(show cells ≤ 600000 by omega), (show slots ≤ room_1.slots by omega)⟩ dL_law_865 (fun H locs hw => ?_)
  refine lv_aload_n hx hb dL_law_868 rfl (lv_at hl 2 rfl) ?_
  refine lv_aload_n hx hb dL_law_869 rfl (lv_at hl 0 rfl) ?_
  refine lv_iload_n hx hb dL_law_870 rfl (lv_at hl 3 rfl) ?_
  refine lv_iconst (v := (1 : Int32)) hx hb dL_law_871 (by decide) ?_
  refine lv_iadd hx hb dL_law_872 ?_
  refine va_sld hx hb hX hbl hbA hw.1.2.2 (law_in (k := 1) hLx hi ex (by decide)) dL_law_873 ?_
  refine y_ref X hK hw (c12_seed l D cz ev mb hq2) cpX12.1 vw_L_113 ⟨Nat.le_of_ble_eq_true rfl, Nat.le_of_ble_eq_true rfl⟩ rfl rfl (Nat.le_of_ble_eq_true rfl) hl.1 ⟨(show cells + 0 ≤ 600000 by omega), (show slots + 0 ≤ room_1.slots by omega)⟩ dL_law_874 (fun H locs hw => ?_)
  refine lv_icmp_eq (tgt := 994) hx hb dL_law_877 (by decide) (fun _ => ?_) (fun g => absurd rfl g)
  exact tl _ _ _ _ _ _ _ _ _ _ _ hRel hw (by omega) (by omega)
set_option maxHeartbeats 4000000 in
set_option maxRecDepth 100000 in
theorem law_years {p : Program} {l : Launch} {e : Env} {s : State} {m : MethodId} {below : List Frame} {meth : Method} {c : Code} {D : va_G} {cz : Nat → ClassId} {ev : Nat × Nat × Nat} {N : Nat} {Rel : RelT} (hG : Good N Rel) {b0 Lx : Nat} {xs : Nat → Int32} (hLx : Lx ≤ 3072) (C0 : lw_At p s m meth c b0 Lx xs) (hK : KX D cz ev (AL s) s) {b mb n i cells slots : Nat} {x3 : Int32} (hi : i + 6 ≤ Lx) (ex : x3 = nI i) (hcc : cells + 23 * (n + 1) ≤ 600000) (hss : slots + 401 * (n + 1) ≤ room_1.slots) {L : List Nat} {S : ST} {Rf : RT} {I : IT} {J : JT} {I' : IT} {J' : JT} {H : Heap} {locs : List Loc} (hR : Rel b mb L S Rf I J I' J') (hw : LWd D cz s L S Rf I J mb I' J' H locs) {ls : Array Slot} (hl : lv_has ls 4 [(0, .ref b0), (1, .ref b), (2, .ref mb), (3, .int x3)])
    (tl : ∀ (L : List Nat) (S : ST) (Rf : RT) (I : IT) (J : JT) (I' : IT) (J' : JT) (H : Heap) (locs : List Loc) (cl sl : Nat), Rel b mb L S Rf I J I' J' → LWd D cz s L S Rf I J mb I' J' H locs → cl + 23 * n ≤ 600000 → sl + 401 * n ≤ room_1.slots → W p l e room_1 s m #[Value.ref b0] below meth c H locs cl sl (lw_Z below #[Value.ref b0] s) (F0 m 994 ls [])) :
    W p l e room_1 s m #[Value.ref b0] below meth c H locs cells slots (lw_Z below #[Value.ref b0] s) (F0 m 882 ls []) := by
  obtain ⟨hx, hb, hr, hml, hown, hts, hX, hbl, hlocks, hgv⟩ := C0
  have X : CallFix p m c code 4 s #[Value.ref b0] gw R_law := ⟨hx, hb, hml, hown, fun w hw => hts w (gw_tbl w hw)⟩
  have hbA : ¬ AL s b0 := Nat.not_le.mpr hbl
  have hC := hG.1 _ _ _ _ _ _ _ _ _ hR
  obtain ⟨r, I1, J1, I1', J1', hq1, hq2, hRel⟩ := hG.2.2.2.2.2.2.2.2.2.2.2.2.2.2.2.2.2.2.2.2.2.2.2.2.2.1 b mb L S Rf I J I' J' (xs (x3 + (1 : Int32)).toNatClampNeg) (xs (x3 + (2 : Int32)).toNatClampNeg) (xs (x3 + (3 : Int32)).toNatClampNeg) hR
  refine lv_aload_n hx hb dL_law_882 rfl (lv_at hl 1 rfl) ?_
  refine lv_aload_n hx hb dL_law_883 rfl (lv_at hl 0 rfl) ?_
  refine lv_iload_n hx hb dL_law_884 rfl (lv_at hl 3 rfl) ?_
  refine lv_iconst (v := (1 : Int32)) hx hb dL_law_885 (by decide) ?_
  refine lv_iadd hx hb dL_law_886 ?_
  refine va_sld hx hb hX hbl hbA hw.1.2.2 (law_in (k := 1) hLx hi ex (by decide)) dL_law_887 ?_
  refine lv_aload_n hx hb dL_law_888 rfl (lv_at hl 0 rfl) ?_
  refine lv_iload_n hx hb dL_law_889 rfl (lv_at hl 3 rfl) ?_
  refine lv_iconst (v := (2 : Int32)) hx hb dL_law_890 (by decide) ?_
  refine lv_iadd hx hb dL_law_891 ?_
  refine va_sld hx hb hX hbl hbA hw.1.2.2 (law_in (k := 2) hLx hi ex (by decide)) dL_law_892 ?_
  refine lv_aload_n hx hb dL_law_893 rfl (lv_at hl 0 rfl) ?_
  refine lv_iload_n hx hb dL_law_894 rfl (lv_at hl 3 rfl) ?_
  refine lv_iconst (v := (3 : Int32)) hx hb dL_law_895 (by decide) ?_
  refine lv_iadd hx hb dL_law_896 ?_
  refine va_sld hx hb hX hbl hbA hw.1.2.2 (law_in (k := 3) hLx hi ex (by decide)) dL_law_897 ?_
  refine y_cls X hK hw (c11_years l D cz ev hC hq1) (cw_mem0 hC) (cw_S0 hC) cpX11.1 vw_L_114 ⟨Nat.le_of_ble_eq_true rfl, Nat.le_of_ble_eq_true rfl⟩ rfl rfl (Nat.le_of_ble_eq_true rfl) hl.1 ⟨(show cells ≤ 600000 by omega), (show slots ≤ room_1.slots by omega)⟩ dL_law_898 (fun H locs hw => ?_)
  refine lv_aload_n hx hb dL_law_901 rfl (lv_at hl 2 rfl) ?_
  refine lv_aload_n hx hb dL_law_902 rfl (lv_at hl 0 rfl) ?_
  refine lv_iload_n hx hb dL_law_903 rfl (lv_at hl 3 rfl) ?_
  refine lv_iconst (v := (1 : Int32)) hx hb dL_law_904 (by decide) ?_
  refine lv_iadd hx hb dL_law_905 ?_
  refine va_sld hx hb hX hbl hbA hw.1.2.2 (law_in (k := 1) hLx hi ex (by decide)) dL_law_906 ?_
  refine lv_aload_n hx hb dL_law_907 rfl (lv_at hl 0 rfl) ?_
  refine lv_iload_n hx hb dL_law_908 rfl (lv_at hl 3 rfl) ?_
  refine lv_iconst (v := (2 : Int32)) hx hb dL_law_909 (by decide) ?_
  refine lv_iadd hx hb dL_law_910 ?_
  refine va_sld hx hb hX hbl hbA hw.1.2.2 (law_in (k := 2) hLx hi ex (by decide)) dL_law_911 ?_
  refine lv_aload_n hx hb dL_law_912 rfl (lv_at hl 0 rfl) ?_
  refine lv_iload_n hx hb dL_law_913 rfl (lv_at hl 3 rfl) ?_
  refine lv_iconst (v := (3 : Int32)) hx hb dL_law_914 (by decide) ?_
  refine lv_iadd hx hb dL_law_915 ?_
  refine va_sld hx hb hX hbl hbA hw.1.2.2 (law_in (k := 3) hLx hi ex (by decide)) dL_law_916 ?_
  refine y_ref X hK hw (c12_years l D cz ev mb hq2) cpX12.1 vw_L_117 ⟨Nat.le_of_ble_eq_true rfl, Nat.le_of_ble_eq_true rfl⟩ rfl rfl (Nat.le_of_ble_eq_true rfl) hl.1 ⟨(show cells + 0 ≤ 600000 by omega), (show slots + 0 ≤ room_1.slots by omega)⟩ dL_law_917 (fun H locs hw => ?_)
  refine lv_icmp_eq (tgt := 994) hx hb dL_law_920 (by decide) (fun _ => ?_) (fun g => absurd rfl g)
  exact tl _ _ _ _ _ _ _ _ _ _ _ hRel hw (by omega) (by omega)
set_option maxHeartbeats 4000000 in
set_option maxRecDepth 100000 in
theorem law_count {p : Program} {l : Launch} {e : Env} {s : State} {m : MethodId} {below : List Frame} {meth : Method} {c : Code} {D : va_G} {cz : Nat → ClassId} {ev : Nat × Nat × Nat} {N : Nat} {Rel : RelT} (hG : Good N Rel) {b0 Lx : Nat} {xs : Nat → Int32} (hLx : Lx ≤ 3072) (C0 : lw_At p s m meth c b0 Lx xs) (hK : KX D cz ev (AL s) s) {b mb n i cells slots : Nat} {x3 : Int32} (hi : i + 6 ≤ Lx) (ex : x3 = nI i) (hcc : cells + 23 * (n + 1) ≤ 600000) (hss : slots + 401 * (n + 1) ≤ room_1.slots) {L : List Nat} {S : ST} {Rf : RT} {I : IT} {J : JT} {I' : IT} {J' : JT} {H : Heap} {locs : List Loc} (hR : Rel b mb L S Rf I J I' J') (hw : LWd D cz s L S Rf I J mb I' J' H locs) {ls : Array Slot} (hl : lv_has ls 4 [(0, .ref b0), (1, .ref b), (2, .ref mb), (3, .int x3)])
    (tl : ∀ (L : List Nat) (S : ST) (Rf : RT) (I : IT) (J : JT) (I' : IT) (J' : JT) (H : Heap) (locs : List Loc) (cl sl : Nat), Rel b mb L S Rf I J I' J' → LWd D cz s L S Rf I J mb I' J' H locs → cl + 23 * n ≤ 600000 → sl + 401 * n ≤ room_1.slots → W p l e room_1 s m #[Value.ref b0] below meth c H locs cl sl (lw_Z below #[Value.ref b0] s) (F0 m 994 ls [])) :
    W p l e room_1 s m #[Value.ref b0] below meth c H locs cells slots (lw_Z below #[Value.ref b0] s) (F0 m 925 ls []) := by
  obtain ⟨hx, hb, hr, hml, hown, hts, hX, hbl, hlocks, hgv⟩ := C0
  have X : CallFix p m c code 4 s #[Value.ref b0] gw R_law := ⟨hx, hb, hml, hown, fun w hw => hts w (gw_tbl w hw)⟩
  have hbA : ¬ AL s b0 := Nat.not_le.mpr hbl
  have hC := hG.1 _ _ _ _ _ _ _ _ _ hR
  obtain ⟨r, I1, J1, I1', J1', hq1, hq2, hRel⟩ := hG.2.2.2.2.2.2.2.2.2.2.2.2.2.2.2.2.2.2.2.2.2.2.2.2.2.2.1 b mb L S Rf I J I' J' (xs (x3 + (1 : Int32)).toNatClampNeg) hR
  refine lv_aload_n hx hb dL_law_925 rfl (lv_at hl 1 rfl) ?_
  refine lv_aload_n hx hb dL_law_926 rfl (lv_at hl 0 rfl) ?_
  refine lv_iload_n hx hb dL_law_927 rfl (lv_at hl 3 rfl) ?_
  refine lv_iconst (v := (1 : Int32)) hx hb dL_law_928 (by decide) ?_
  refine lv_iadd hx hb dL_law_929 ?_
  refine va_sld hx hb hX hbl hbA hw.1.2.2 (law_in (k := 1) hLx hi ex (by decide)) dL_law_930 ?_
  refine y_cls X hK hw (c11_count l D cz ev hC hq1) (cw_mem0 hC) (cw_S0 hC) cpX11.1 vw_L_118 ⟨Nat.le_of_ble_eq_true rfl, Nat.le_of_ble_eq_true rfl⟩ rfl rfl (Nat.le_of_ble_eq_true rfl) hl.1 ⟨(show cells ≤ 600000 by omega), (show slots ≤ room_1.slots by omega)⟩ dL_law_931 (fun H locs hw => ?_)
  refine lv_aload_n hx hb dL_law_934 rfl (lv_at hl 2 rfl) ?_
  refine lv_aload_n hx hb dL_law_935 rfl (lv_at hl 0 rfl) ?_
  refine lv_iload_n hx hb dL_law_936 rfl (lv_at hl 3 rfl) ?_
  refine lv_iconst (v := (1 : Int32)) hx hb dL_law_937 (by decide) ?_
  refine lv_iadd hx hb dL_law_938 ?_
  refine va_sld hx hb hX hbl hbA hw.1.2.2 (law_in (k := 1) hLx hi ex (by decide)) dL_law_939 ?_
  refine y_ref X hK hw (c12_count l D cz ev mb hq2) cpX12.1 vw_L_121 ⟨Nat.le_of_ble_eq_true rfl, Nat.le_of_ble_eq_true rfl⟩ rfl rfl (Nat.le_of_ble_eq_true rfl) hl.1 ⟨(show cells + 0 ≤ 600000 by omega), (show slots + 0 ≤ room_1.slots by omega)⟩ dL_law_940 (fun H locs hw => ?_)
  refine lv_icmp_eq (tgt := 994) hx hb dL_law_943 (by decide) (fun _ => ?_) (fun g => absurd rfl g)
  exact tl _ _ _ _ _ _ _ _ _ _ _ hRel hw (by omega) (by omega)
set_option maxHeartbeats 4000000 in
set_option maxRecDepth 100000 in
theorem law_image {p : Program} {l : Launch} {e : Env} {s : State} {m : MethodId} {below : List Frame} {meth : Method} {c : Code} {D : va_G} {cz : Nat → ClassId} {ev : Nat × Nat × Nat} {N : Nat} {Rel : RelT} (hG : Good N Rel) {b0 Lx : Nat} {xs : Nat → Int32} (hLx : Lx ≤ 3072) (C0 : lw_At p s m meth c b0 Lx xs) (hK : KX D cz ev (AL s) s) {b mb n i cells slots : Nat} {x3 : Int32} (hi : i + 6 ≤ Lx) (ex : x3 = nI i) (hcc : cells + 23 * (n + 1) ≤ 600000) (hss : slots + 401 * (n + 1) ≤ room_1.slots) {L : List Nat} {S : ST} {Rf : RT} {I : IT} {J : JT} {I' : IT} {J' : JT} {H : Heap} {locs : List Loc} (hR : Rel b mb L S Rf I J I' J') (hw : LWd D cz s L S Rf I J mb I' J' H locs) {ls : Array Slot} (hl : lv_has ls 4 [(0, .ref b0), (1, .ref b), (2, .ref mb), (3, .int x3)])
    (tl : ∀ (L : List Nat) (S : ST) (Rf : RT) (I : IT) (J : JT) (I' : IT) (J' : JT) (H : Heap) (locs : List Loc) (cl sl : Nat), Rel b mb L S Rf I J I' J' → LWd D cz s L S Rf I J mb I' J' H locs → cl + 23 * n ≤ 600000 → sl + 401 * n ≤ room_1.slots → W p l e room_1 s m #[Value.ref b0] below meth c H locs cl sl (lw_Z below #[Value.ref b0] s) (F0 m 994 ls [])) :
    W p l e room_1 s m #[Value.ref b0] below meth c H locs cells slots (lw_Z below #[Value.ref b0] s) (F0 m 948 ls []) := by
  obtain ⟨hx, hb, hr, hml, hown, hts, hX, hbl, hlocks, hgv⟩ := C0
  have X : CallFix p m c code 4 s #[Value.ref b0] gw R_law := ⟨hx, hb, hml, hown, fun w hw => hts w (gw_tbl w hw)⟩
  have hbA : ¬ AL s b0 := Nat.not_le.mpr hbl
  have hC := hG.1 _ _ _ _ _ _ _ _ _ hR
  rcases hG.2.2.2.2.2.2.2.2.2.2.2.2.2.2.2.2.2.2.2.2.2.2.2.2.2.2.2.1 b mb L S Rf I J I' J' (xs (x3 + (1 : Int32)).toNatClampNeg) hR with ⟨r, I1, J1, I1', J1', hq1, hq2, hRel⟩ | hN
  · refine lv_aload_n hx hb dL_law_948 rfl (lv_at hl 1 rfl) ?_
    refine lv_aload_n hx hb dL_law_949 rfl (lv_at hl 0 rfl) ?_
    refine lv_iload_n hx hb dL_law_950 rfl (lv_at hl 3 rfl) ?_
    refine lv_iconst (v := (1 : Int32)) hx hb dL_law_951 (by decide) ?_
    refine lv_iadd hx hb dL_law_952 ?_
    refine va_sld hx hb hX hbl hbA hw.1.2.2 (law_in (k := 1) hLx hi ex (by decide)) dL_law_953 ?_
    refine y_cls X hK hw (c11_image l D cz ev hC hq1) (cw_mem0 hC) (cw_S0 hC) cpX11.1 vw_L_122 ⟨Nat.le_of_ble_eq_true rfl, Nat.le_of_ble_eq_true rfl⟩ rfl rfl (Nat.le_of_ble_eq_true rfl) hl.1 ⟨(show cells ≤ 600000 by omega), (show slots ≤ room_1.slots by omega)⟩ dL_law_954 (fun H locs hw => ?_)
    refine lv_aload_n hx hb dL_law_957 rfl (lv_at hl 2 rfl) ?_
    refine lv_aload_n hx hb dL_law_958 rfl (lv_at hl 0 rfl) ?_
    refine lv_iload_n hx hb dL_law_959 rfl (lv_at hl 3 rfl) ?_
    refine lv_iconst (v := (1 : Int32)) hx hb dL_law_960 (by decide) ?_
    refine lv_iadd hx hb dL_law_961 ?_
    refine va_sld hx hb hX hbl hbA hw.1.2.2 (law_in (k := 1) hLx hi ex (by decide)) dL_law_962 ?_
    refine y_ref X hK hw (c12_image l D cz ev mb hq2) cpX12.1 vw_L_125 ⟨Nat.le_of_ble_eq_true rfl, Nat.le_of_ble_eq_true rfl⟩ rfl rfl (Nat.le_of_ble_eq_true rfl) hl.1 ⟨(show cells + 0 ≤ 600000 by omega), (show slots + 0 ≤ room_1.slots by omega)⟩ dL_law_963 (fun H locs hw => ?_)
    refine lv_icmp_eq (tgt := 994) hx hb dL_law_966 (by decide) (fun _ => ?_) (fun g => absurd rfl g)
    exact tl _ _ _ _ _ _ _ _ _ _ _ hRel hw (by omega) (by omega)
  · obtain ⟨r, S1, Rf1, I1, J1, I1', J1', hq1, hq2, hRel⟩ := hN H.size (fun a ha => wx_lt hw.1 ha) (fun a ha => wx_lt hw.2.1 ha)
    refine lv_aload_n hx hb dL_law_948 rfl (lv_at hl 1 rfl) ?_
    refine lv_aload_n hx hb dL_law_949 rfl (lv_at hl 0 rfl) ?_
    refine lv_iload_n hx hb dL_law_950 rfl (lv_at hl 3 rfl) ?_
    refine lv_iconst (v := (1 : Int32)) hx hb dL_law_951 (by decide) ?_
    refine lv_iadd hx hb dL_law_952 ?_
    refine va_sld hx hb hX hbl hbA hw.1.2.2 (law_in (k := 1) hLx hi ex (by decide)) dL_law_953 ?_
    refine y_mak (z := H.size) X hK hw rfl (c11_imageN l D cz ev hC hq1) (fun a ha => (apn_mem 23 ha).imp id (fun g => g.1)) (cw_mem0 hC) (cw_S0 hC) cpX11.1 vw_L_122 ⟨Nat.le_of_ble_eq_true rfl, Nat.le_of_ble_eq_true rfl⟩ rfl rfl (Nat.le_of_ble_eq_true rfl) hl.1 ⟨(show cells + 23 ≤ 600000 by omega), (show slots + 171 ≤ room_1.slots by omega)⟩ dL_law_954 (fun H locs hw => ?_)
    refine lv_aload_n hx hb dL_law_957 rfl (lv_at hl 2 rfl) ?_
    refine lv_aload_n hx hb dL_law_958 rfl (lv_at hl 0 rfl) ?_
    refine lv_iload_n hx hb dL_law_959 rfl (lv_at hl 3 rfl) ?_
    refine lv_iconst (v := (1 : Int32)) hx hb dL_law_960 (by decide) ?_
    refine lv_iadd hx hb dL_law_961 ?_
    refine va_sld hx hb hX hbl hbA hw.1.2.2 (law_in (k := 1) hLx hi ex (by decide)) dL_law_962 ?_
    refine y_ref X hK hw (c12_image l D cz ev mb hq2) cpX12.1 vw_L_125 ⟨Nat.le_of_ble_eq_true rfl, Nat.le_of_ble_eq_true rfl⟩ rfl rfl (Nat.le_of_ble_eq_true rfl) hl.1 ⟨(show cells + 23 ≤ 600000 by omega), (show slots + 171 ≤ room_1.slots by omega)⟩ dL_law_963 (fun H locs hw => ?_)
    refine lv_icmp_eq (tgt := 994) hx hb dL_law_966 (by decide) (fun _ => ?_) (fun g => absurd rfl g)
    exact tl _ _ _ _ _ _ _ _ _ _ _ hRel hw (by omega) (by omega)
set_option maxHeartbeats 4000000 in
set_option maxRecDepth 100000 in
theorem law_back {p : Program} {l : Launch} {e : Env} {s : State} {m : MethodId} {below : List Frame} {meth : Method} {c : Code} {D : va_G} {cz : Nat → ClassId} {ev : Nat × Nat × Nat} {N : Nat} {Rel : RelT} (hG : Good N Rel) {b0 Lx : Nat} {xs : Nat → Int32} (hLx : Lx ≤ 3072) (C0 : lw_At p s m meth c b0 Lx xs) (hK : KX D cz ev (AL s) s) {b mb n i cells slots : Nat} {x3 : Int32} (hi : i + 6 ≤ Lx) (ex : x3 = nI i) (hcc : cells + 23 * (n + 1) ≤ 600000) (hss : slots + 401 * (n + 1) ≤ room_1.slots) {L : List Nat} {S : ST} {Rf : RT} {I : IT} {J : JT} {I' : IT} {J' : JT} {H : Heap} {locs : List Loc} (hR : Rel b mb L S Rf I J I' J') (hw : LWd D cz s L S Rf I J mb I' J' H locs) {ls : Array Slot} (hl : lv_has ls 4 [(0, .ref b0), (1, .ref b), (2, .ref mb), (3, .int x3)])
    (tl : ∀ (L : List Nat) (S : ST) (Rf : RT) (I : IT) (J : JT) (I' : IT) (J' : JT) (H : Heap) (locs : List Loc) (cl sl : Nat), Rel b mb L S Rf I J I' J' → LWd D cz s L S Rf I J mb I' J' H locs → cl + 23 * n ≤ 600000 → sl + 401 * n ≤ room_1.slots → W p l e room_1 s m #[Value.ref b0] below meth c H locs cl sl (lw_Z below #[Value.ref b0] s) (F0 m 994 ls [])) :
    W p l e room_1 s m #[Value.ref b0] below meth c H locs cells slots (lw_Z below #[Value.ref b0] s) (F0 m 971 ls []) := by
  obtain ⟨hx, hb, hr, hml, hown, hts, hX, hbl, hlocks, hgv⟩ := C0
  have X : CallFix p m c code 4 s #[Value.ref b0] gw R_law := ⟨hx, hb, hml, hown, fun w hw => hts w (gw_tbl w hw)⟩
  have hbA : ¬ AL s b0 := Nat.not_le.mpr hbl
  have hC := hG.1 _ _ _ _ _ _ _ _ _ hR
  obtain ⟨r, I1, J1, I1', J1', hq1, hq2, hRel⟩ := hG.2.2.2.2.2.2.2.2.2.2.2.2.2.2.2.2.2.2.2.2.2.2.2.2.2.2.2.2 b mb L S Rf I J I' J' (xs (x3 + (1 : Int32)).toNatClampNeg) hR
  refine lv_aload_n hx hb dL_law_971 rfl (lv_at hl 1 rfl) ?_
  refine lv_aload_n hx hb dL_law_972 rfl (lv_at hl 0 rfl) ?_
  refine lv_iload_n hx hb dL_law_973 rfl (lv_at hl 3 rfl) ?_
  refine lv_iconst (v := (1 : Int32)) hx hb dL_law_974 (by decide) ?_
  refine lv_iadd hx hb dL_law_975 ?_
  refine va_sld hx hb hX hbl hbA hw.1.2.2 (law_in (k := 1) hLx hi ex (by decide)) dL_law_976 ?_
  refine y_cls X hK hw (c11_back l D cz ev hC hq1) (cw_mem0 hC) (cw_S0 hC) cpX11.1 vw_L_126 ⟨Nat.le_of_ble_eq_true rfl, Nat.le_of_ble_eq_true rfl⟩ rfl rfl (Nat.le_of_ble_eq_true rfl) hl.1 ⟨(show cells ≤ 600000 by omega), (show slots ≤ room_1.slots by omega)⟩ dL_law_977 (fun H locs hw => ?_)
  refine lv_aload_n hx hb dL_law_980 rfl (lv_at hl 2 rfl) ?_
  refine lv_aload_n hx hb dL_law_981 rfl (lv_at hl 0 rfl) ?_
  refine lv_iload_n hx hb dL_law_982 rfl (lv_at hl 3 rfl) ?_
  refine lv_iconst (v := (1 : Int32)) hx hb dL_law_983 (by decide) ?_
  refine lv_iadd hx hb dL_law_984 ?_
  refine va_sld hx hb hX hbl hbA hw.1.2.2 (law_in (k := 1) hLx hi ex (by decide)) dL_law_985 ?_
  refine y_ref X hK hw (c12_back l D cz ev mb hq2) cpX12.1 vw_L_129 ⟨Nat.le_of_ble_eq_true rfl, Nat.le_of_ble_eq_true rfl⟩ rfl rfl (Nat.le_of_ble_eq_true rfl) hl.1 ⟨(show cells + 0 ≤ 600000 by omega), (show slots + 0 ≤ room_1.slots by omega)⟩ dL_law_986 (fun H locs hw => ?_)
  refine lv_icmp_eq (tgt := 994) hx hb dL_law_989 (by decide) (fun _ => ?_) (fun g => absurd rfl g)
  exact tl _ _ _ _ _ _ _ _ _ _ _ hRel hw (by omega) (by omega)
set_option maxHeartbeats 4000000 in
set_option maxRecDepth 100000 in
theorem law_loop {p : Program} {l : Launch} {e : Env} {s : State} {m : MethodId} {below : List Frame} {meth : Method} {c : Code} {D : va_G} {cz : Nat → ClassId} {ev : Nat × Nat × Nat} {N : Nat} {Rel : RelT} (hG : Good N Rel) {b0 Lx : Nat} {xs : Nat → Int32} (hLx : Lx ≤ 3072) (C0 : lw_At p s m meth c b0 Lx xs) (hK : KX D cz ev (AL s) s) {b mb : Nat} :
    ∀ (n i cells slots : Nat) (x3 : Int32), i ≤ Lx → Lx < i + 6 * n → x3 = nI i → cells + 23 * n ≤ 600000 → slots + 401 * n ≤ room_1.slots → ∀ (L : List Nat) (S : ST) (Rf : RT) (I : IT) (J : JT) (I' : IT) (J' : JT) (H : Heap) (locs : List Loc), Rel b mb L S Rf I J I' J' → LWd D cz s L S Rf I J mb I' J' H locs → ∀ ls : Array Slot, lv_has ls 4 [(0, .ref b0), (1, .ref b), (2, .ref mb), (3, .int x3)] → W p l e room_1 s m #[Value.ref b0] below meth c H locs cells slots (lw_Z below #[Value.ref b0] s) (F0 m 18 ls []) := by
  obtain ⟨hx, hb, hr, hml, hown, hts, hX, hbl, hlocks, hgv⟩ := id C0
  have hbA : ¬ AL s b0 := Nat.not_le.mpr hbl
  intro n
  induction n with
  | zero => intro i cells slots x3 h1 h2; exact absurd h2 (by omega)
  | succ n ih =>
    intro i cells slots x3 hiL hn ex hcc hss L S Rf I J I' J' H locs hR hw ls hl
    refine lv_iload_n hx hb dL_law_18 rfl (lv_at hl 3 rfl) ?_
    refine lv_aload_n hx hb dL_law_19 rfl (lv_at hl 0 rfl) ?_
    refine va_slen hx hb hX hbl hbA hw.1.2.2 dL_law_20 ?_
    refine lv_bipush (v := 6) hx hb dL_law_21 (by decide) ?_
    refine lv_isub hx hb dL_law_23 ?_
    refine lv_icmp_gt (tgt := 1000) hx hb dL_law_24 (by decide) (fun _ => ?_) (fun cg => ?_)
    · refine lv_iconst (v := 1) hx hb dL_law_1000 (by decide) ?_
      refine va_forget (fun q hq => hw.1.2.2.2.2 q hq) ?_
      refine W.widen (k := 600000) (n := room_1.slots) (by omega) (by omega) ?_
      exact lw_ret hx hb hr hlocks dL_law_1001
    · have hi : i + 6 ≤ Lx := law_go hLx hiL (by rw [← ex]; exact cg)
      have tl : ∀ (L : List Nat) (S : ST) (Rf : RT) (I : IT) (J : JT) (I' : IT) (J' : JT) (H : Heap) (locs : List Loc) (cl sl : Nat), Rel b mb L S Rf I J I' J' → LWd D cz s L S Rf I J mb I' J' H locs → cl + 23 * n ≤ 600000 → sl + 401 * n ≤ room_1.slots → W p l e room_1 s m #[Value.ref b0] below meth c H locs cl sl (lw_Z below #[Value.ref b0] s) (F0 m 994 ls []) := by
        intro L S Rf I J I' J' H locs cl sl hR hw hc1 hs1
        obtain ⟨x4, ex4⟩ : ∃ q : Int32, q = x3 + 6 := ⟨_, rfl⟩
        refine lv_iinc (v := x4) (lv' := [(3, .int x4), (0, .ref b0), (1, .ref b), (2, .ref mb)]) hx hb dL_law_994 hl (k := 3) rfl (by rw [ex4]; rfl) (by decide) rfl (fun ls hl => ?_)
        refine lv_goto (tgt := 18) hx hb dL_law_997 (by decide) ?_
        exact ih (i + 6) cl sl x4 hi (by omega) (by rw [ex4, ex]; exact nI_add i 6) hc1 hs1 L S Rf I J I' J' H locs hR hw ls (lv_sub hl [1, 2, 3, 0] rfl)
      refine lv_aload_n hx hb dL_law_27 rfl (lv_at hl 0 rfl) ?_
      refine lv_iload_n hx hb dL_law_28 rfl (lv_at hl 3 rfl) ?_
      refine va_sld hx hb hX hbl hbA hw.1.2.2 (by rw [ex]; exact vp_in_nI (by omega) (by omega)) dL_law_29 ?_
      refine lv_bipush (v := 31) hx hb dL_law_30 (by decide) ?_
      refine lv_iand hx hb dL_law_32 ?_
      refine lv_topi (fun v _ => ?_)
      by_cases c0 : v = (0 : Int32)
      · refine lv_tableIn (off := 127) (tgt := 160) hx hb dL_law_33 (by rw [c0]; decide) (by rw [c0]; decide) (by rw [c0]; rfl) (by decide) ?_
        exact law_feed hG hLx C0 hK hi ex hcc hss hR hw hl tl
      by_cases c1 : v = (1 : Int32)
      · refine lv_tableIn (off := 190) (tgt := 223) hx hb dL_law_33 (by rw [c1]; decide) (by rw [c1]; decide) (by rw [c1]; rfl) (by decide) ?_
        exact law_end hG hLx C0 hK hi ex hcc hss hR hw hl tl
      by_cases c2 : v = (2 : Int32)
      · refine lv_tableIn (off := 213) (tgt := 246) hx hb dL_law_33 (by rw [c2]; decide) (by rw [c2]; decide) (by rw [c2]; rfl) (by decide) ?_
        exact law_town hG hLx C0 hK hi ex hcc hss hR hw hl tl
      by_cases c3 : v = (3 : Int32)
      · refine lv_tableIn (off := 226) (tgt := 259) hx hb dL_law_33 (by rw [c3]; decide) (by rw [c3]; decide) (by rw [c3]; rfl) (by decide) ?_
        exact law_rule hG hLx C0 hK hi ex hcc hss hR hw hl tl
      by_cases c4 : v = (4 : Int32)
      · refine lv_tableIn (off := 239) (tgt := 272) hx hb dL_law_33 (by rw [c4]; decide) (by rw [c4]; decide) (by rw [c4]; rfl) (by decide) ?_
        exact law_force hG hLx C0 hK hi ex hcc hss hR hw hl tl
      by_cases c5 : v = (5 : Int32)
      · refine lv_tableIn (off := 262) (tgt := 295) hx hb dL_law_33 (by rw [c5]; decide) (by rw [c5]; decide) (by rw [c5]; rfl) (by decide) ?_
        exact law_person hG hLx C0 hK hi ex hcc hss hR hw hl tl
      by_cases c6 : v = (6 : Int32)
      · refine lv_tableIn (off := 295) (tgt := 328) hx hb dL_law_33 (by rw [c6]; decide) (by rw [c6]; decide) (by rw [c6]; rfl) (by decide) ?_
        exact law_trial hG hLx C0 hK hi ex hcc hss hR hw hl tl
      by_cases c7 : v = (7 : Int32)
      · refine lv_tableIn (off := 328) (tgt := 361) hx hb dL_law_33 (by rw [c7]; decide) (by rw [c7]; decide) (by rw [c7]; rfl) (by decide) ?_
        exact law_can hG hLx C0 hK hi ex hcc hss hR hw hl tl
      by_cases c8 : v = (8 : Int32)
      · refine lv_tableIn (off := 371) (tgt := 404) hx hb dL_law_33 (by rw [c8]; decide) (by rw [c8]; decide) (by rw [c8]; rfl) (by decide) ?_
        exact law_right hG hLx C0 hK hi ex hcc hss hR hw hl tl
      by_cases c9 : v = (9 : Int32)
      · refine lv_tableIn (off := 404) (tgt := 437) hx hb dL_law_33 (by rw [c9]; decide) (by rw [c9]; decide) (by rw [c9]; rfl) (by decide) ?_
        exact law_day hG hLx C0 hK hi ex hcc hss hR hw hl tl
      by_cases c10 : v = (10 : Int32)
      · refine lv_tableIn (off := 417) (tgt := 450) hx hb dL_law_33 (by rw [c10]; decide) (by rw [c10]; decide) (by rw [c10]; rfl) (by decide) ?_
        exact law_hear hG hLx C0 hK hi ex hcc hss hR hw hl tl
      by_cases c11 : v = (11 : Int32)
      · refine lv_tableIn (off := 450) (tgt := 483) hx hb dL_law_33 (by rw [c11]; decide) (by rw [c11]; decide) (by rw [c11]; rfl) (by decide) ?_
        exact law_teach hG hLx C0 hK hi ex hcc hss hR hw hl tl
      by_cases c12 : v = (12 : Int32)
      · refine lv_tableIn (off := 473) (tgt := 506) hx hb dL_law_33 (by rw [c12]; decide) (by rw [c12]; decide) (by rw [c12]; rfl) (by decide) ?_
        exact law_undo hG hLx C0 hK hi ex hcc hss hR hw hl tl
      by_cases c13 : v = (13 : Int32)
      · refine lv_tableIn (off := 486) (tgt := 519) hx hb dL_law_33 (by rw [c13]; decide) (by rw [c13]; decide) (by rw [c13]; rfl) (by decide) ?_
        exact law_soonest hG hLx C0 hK hi ex hcc hss hR hw hl tl
      by_cases c14 : v = (14 : Int32)
      · refine lv_tableIn (off := 519) (tgt := 552) hx hb dL_law_33 (by rw [c14]; decide) (by rw [c14]; decide) (by rw [c14]; rfl) (by decide) ?_
        exact law_benches hG hLx C0 hK hi ex hcc hss hR hw hl tl
      by_cases c15 : v = (15 : Int32)
      · refine lv_tableIn (off := 542) (tgt := 575) hx hb dL_law_33 (by rw [c15]; decide) (by rw [c15]; decide) (by rw [c15]; rfl) (by decide) ?_
        exact law_down hG hLx C0 hK hi ex hcc hss hR hw hl tl
      by_cases c16 : v = (16 : Int32)
      · refine lv_tableIn (off := 575) (tgt := 608) hx hb dL_law_33 (by rw [c16]; decide) (by rw [c16]; decide) (by rw [c16]; rfl) (by decide) ?_
        exact law_commit hG hLx C0 hK hi ex hcc hss hR hw hl tl
      by_cases c17 : v = (17 : Int32)
      · refine lv_tableIn (off := 638) (tgt := 671) hx hb dL_law_33 (by rw [c17]; decide) (by rw [c17]; decide) (by rw [c17]; rfl) (by decide) ?_
        exact law_above hG hLx C0 hK hi ex hcc hss hR hw hl tl
      by_cases c18 : v = (18 : Int32)
      · refine lv_tableIn (off := 661) (tgt := 694) hx hb dL_law_33 (by rw [c18]; decide) (by rw [c18]; decide) (by rw [c18]; rfl) (by decide) ?_
        exact law_lesson hG hLx C0 hK hi ex hcc hss hR hw hl tl
      by_cases c19 : v = (19 : Int32)
      · refine lv_tableIn (off := 684) (tgt := 717) hx hb dL_law_33 (by rw [c19]; decide) (by rw [c19]; decide) (by rw [c19]; rfl) (by decide) ?_
        exact law_clement hG hLx C0 hK hi ex hcc hss hR hw hl tl
      by_cases c20 : v = (20 : Int32)
      · refine lv_tableIn (off := 717) (tgt := 750) hx hb dL_law_33 (by rw [c20]; decide) (by rw [c20]; decide) (by rw [c20]; rfl) (by decide) ?_
        exact law_fact hG hLx C0 hK hi ex hcc hss hR hw hl tl
      by_cases c21 : v = (21 : Int32)
      · refine lv_tableIn (off := 760) (tgt := 793) hx hb dL_law_33 (by rw [c21]; decide) (by rw [c21]; decide) (by rw [c21]; rfl) (by decide) ?_
        exact law_who hG hLx C0 hK hi ex hcc hss hR hw hl tl
      by_cases c22 : v = (22 : Int32)
      · refine lv_tableIn (off := 793) (tgt := 826) hx hb dL_law_33 (by rw [c22]; decide) (by rw [c22]; decide) (by rw [c22]; rfl) (by decide) ?_
        exact law_look hG hLx C0 hK hi ex hcc hss hR hw hl tl
      by_cases c23 : v = (23 : Int32)
      · refine lv_tableIn (off := 826) (tgt := 859) hx hb dL_law_33 (by rw [c23]; decide) (by rw [c23]; decide) (by rw [c23]; rfl) (by decide) ?_
        exact law_seed hG hLx C0 hK hi ex hcc hss hR hw hl tl
      by_cases c24 : v = (24 : Int32)
      · refine lv_tableIn (off := 849) (tgt := 882) hx hb dL_law_33 (by rw [c24]; decide) (by rw [c24]; decide) (by rw [c24]; rfl) (by decide) ?_
        exact law_years hG hLx C0 hK hi ex hcc hss hR hw hl tl
      by_cases c25 : v = (25 : Int32)
      · refine lv_tableIn (off := 892) (tgt := 925) hx hb dL_law_33 (by rw [c25]; decide) (by rw [c25]; decide) (by rw [c25]; rfl) (by decide) ?_
        exact law_count hG hLx C0 hK hi ex hcc hss hR hw hl tl
      by_cases c26 : v = (26 : Int32)
      · refine lv_tableIn (off := 915) (tgt := 948) hx hb dL_law_33 (by rw [c26]; decide) (by rw [c26]; decide) (by rw [c26]; rfl) (by decide) ?_
        exact law_image hG hLx C0 hK hi ex hcc hss hR hw hl tl
      by_cases c27 : v = (27 : Int32)
      · refine lv_tableIn (off := 938) (tgt := 971) hx hb dL_law_33 (by rw [c27]; decide) (by rw [c27]; decide) (by rw [c27]; rfl) (by decide) ?_
        exact law_back hG hLx C0 hK hi ex hcc hss hR hw hl tl
      refine lv_tableOut (tgt := 994) hx hb dL_law_33 (by
        rcases Int.lt_or_le v.toInt 0 with g1 | g1
        · exact Or.inl g1
        · rcases Int.lt_or_le 27 v.toInt with g2 | g2
          · exact Or.inr g2
          · exfalso
            obtain ⟨j, hj, ej⟩ : ∃ j : Nat, j < 28 ∧ v.toInt = (j : Int) := ⟨v.toInt.toNat, by omega, by omega⟩
            have hvj : v = nI j := yb_sw (nI j) ej (nI_toInt (by omega))
            have hall : ∀ j, j < 28 → v ≠ nI j := by
              intro j hj g
              match j, hj, g with
              | 0, _, g => exact c0 g
              | 1, _, g => exact c1 g
              | 2, _, g => exact c2 g
              | 3, _, g => exact c3 g
              | 4, _, g => exact c4 g
              | 5, _, g => exact c5 g
              | 6, _, g => exact c6 g
              | 7, _, g => exact c7 g
              | 8, _, g => exact c8 g
              | 9, _, g => exact c9 g
              | 10, _, g => exact c10 g
              | 11, _, g => exact c11 g
              | 12, _, g => exact c12 g
              | 13, _, g => exact c13 g
              | 14, _, g => exact c14 g
              | 15, _, g => exact c15 g
              | 16, _, g => exact c16 g
              | 17, _, g => exact c17 g
              | 18, _, g => exact c18 g
              | 19, _, g => exact c19 g
              | 20, _, g => exact c20 g
              | 21, _, g => exact c21 g
              | 22, _, g => exact c22 g
              | 23, _, g => exact c23 g
              | 24, _, g => exact c24 g
              | 25, _, g => exact c25 g
              | 26, _, g => exact c26 g
              | 27, _, g => exact c27 g
              | j + 28, hj, _ => exact absurd hj (by omega)
            exact hall j hj hvj) (by decide) ?_
      exact tl L S Rf I J I' J' H locs cells slots hR hw (by omega) (by omega)
