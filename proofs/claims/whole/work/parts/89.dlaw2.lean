/-! ===== the law: its instructions, 2 ===== -/
theorem dLaw_229 : decode code 229 = .ok (.aload_n 0, 1) := by decide +kernel
theorem dLaw_230 : decode code 230 = .ok (.iload 4, 2) := by decide +kernel
theorem dLaw_232 : decode code 232 = .ok (.iconst 1, 1) := by decide +kernel
theorem dLaw_233 : decode code 233 = .ok (.iadd, 1) := by decide +kernel
theorem dLaw_234 : decode code 234 = .ok (.iaload, 1) := by decide +kernel
theorem dLaw_235 : decode code 235 = .ok (.aload_n 0, 1) := by decide +kernel
theorem dLaw_236 : decode code 236 = .ok (.iload 4, 2) := by decide +kernel
theorem dLaw_238 : decode code 238 = .ok (.iconst 2, 1) := by decide +kernel
theorem dLaw_239 : decode code 239 = .ok (.iadd, 1) := by decide +kernel
theorem dLaw_240 : decode code 240 = .ok (.iaload, 1) := by decide +kernel
theorem dLaw_241 : decode code 241 = .ok (.aload_n 0, 1) := by decide +kernel
theorem dLaw_242 : decode code 242 = .ok (.iload 4, 2) := by decide +kernel
theorem dLaw_244 : decode code 244 = .ok (.iconst 3, 1) := by decide +kernel
theorem dLaw_245 : decode code 245 = .ok (.iadd, 1) := by decide +kernel
theorem dLaw_246 : decode code 246 = .ok (.iaload, 1) := by decide +kernel
theorem dLaw_247 : decode code 247 = .ok (.aload_n 0, 1) := by decide +kernel
theorem dLaw_248 : decode code 248 = .ok (.iload 4, 2) := by decide +kernel
theorem dLaw_250 : decode code 250 = .ok (.iconst 4, 1) := by decide +kernel
theorem dLaw_251 : decode code 251 = .ok (.iadd, 1) := by decide +kernel
theorem dLaw_252 : decode code 252 = .ok (.iaload, 1) := by decide +kernel
theorem dLaw_253 : decode code 253 = .ok (.invokestatic 73, 3) := by decide +kernel
theorem dLaw_256 : decode code 256 = .ok (.istore 5, 2) := by decide +kernel
theorem dLaw_258 : decode code 258 = .ok (.aload_n 2, 1) := by decide +kernel
theorem dLaw_259 : decode code 259 = .ok (.aload_n 0, 1) := by decide +kernel
theorem dLaw_260 : decode code 260 = .ok (.iload 4, 2) := by decide +kernel
theorem dLaw_262 : decode code 262 = .ok (.iconst 1, 1) := by decide +kernel
theorem dLaw_263 : decode code 263 = .ok (.iadd, 1) := by decide +kernel
theorem dLaw_264 : decode code 264 = .ok (.iaload, 1) := by decide +kernel
theorem dLaw_265 : decode code 265 = .ok (.aload_n 0, 1) := by decide +kernel
theorem dLaw_266 : decode code 266 = .ok (.iload 4, 2) := by decide +kernel
theorem dLaw_268 : decode code 268 = .ok (.iconst 2, 1) := by decide +kernel
theorem dLaw_269 : decode code 269 = .ok (.iadd, 1) := by decide +kernel
theorem dLaw_270 : decode code 270 = .ok (.iaload, 1) := by decide +kernel
theorem dLaw_271 : decode code 271 = .ok (.aload_n 0, 1) := by decide +kernel
theorem dLaw_272 : decode code 272 = .ok (.iload 4, 2) := by decide +kernel
theorem dLaw_274 : decode code 274 = .ok (.iconst 3, 1) := by decide +kernel
theorem dLaw_275 : decode code 275 = .ok (.iadd, 1) := by decide +kernel
theorem dLaw_276 : decode code 276 = .ok (.iaload, 1) := by decide +kernel
theorem dLaw_277 : decode code 277 = .ok (.aload_n 0, 1) := by decide +kernel
theorem dLaw_278 : decode code 278 = .ok (.iload 4, 2) := by decide +kernel
theorem dLaw_280 : decode code 280 = .ok (.iconst 4, 1) := by decide +kernel
theorem dLaw_281 : decode code 281 = .ok (.iadd, 1) := by decide +kernel
theorem dLaw_282 : decode code 282 = .ok (.iaload, 1) := by decide +kernel
theorem dLaw_283 : decode code 283 = .ok (.invokevirtual 76, 3) := by decide +kernel
theorem dLaw_286 : decode code 286 = .ok (.aload_n 2, 1) := by decide +kernel
theorem dLaw_287 : decode code 287 = .ok (.invokevirtual 69, 3) := by decide +kernel
theorem dLaw_290 : decode code 290 = .ok (.iload 5, 2) := by decide +kernel
theorem dLaw_292 : decode code 292 = .ok (.if_icmp .eq 5, 3) := by decide +kernel
theorem dLaw_295 : decode code 295 = .ok (.iconst 0, 1) := by decide +kernel
theorem dLaw_296 : decode code 296 = .ok (.ireturn, 1) := by decide +kernel
theorem dLaw_297 : decode code 297 = .ok (.goto 573, 3) := by decide +kernel
theorem dLaw_300 : decode code 300 = .ok (.aload_n 1, 1) := by decide +kernel
theorem dLaw_301 : decode code 301 = .ok (.aload_n 0, 1) := by decide +kernel
theorem dLaw_302 : decode code 302 = .ok (.iload 4, 2) := by decide +kernel
theorem dLaw_304 : decode code 304 = .ok (.iconst 1, 1) := by decide +kernel
theorem dLaw_305 : decode code 305 = .ok (.iadd, 1) := by decide +kernel
theorem dLaw_306 : decode code 306 = .ok (.iaload, 1) := by decide +kernel
theorem dLaw_307 : decode code 307 = .ok (.aload_n 0, 1) := by decide +kernel
theorem dLaw_308 : decode code 308 = .ok (.iload 4, 2) := by decide +kernel
theorem dLaw_310 : decode code 310 = .ok (.iconst 2, 1) := by decide +kernel
theorem dLaw_311 : decode code 311 = .ok (.iadd, 1) := by decide +kernel
theorem dLaw_312 : decode code 312 = .ok (.iaload, 1) := by decide +kernel
theorem dLaw_313 : decode code 313 = .ok (.aload_n 3, 1) := by decide +kernel
theorem dLaw_314 : decode code 314 = .ok (.invokestatic 77, 3) := by decide +kernel
theorem dLaw_317 : decode code 317 = .ok (.istore 5, 2) := by decide +kernel
theorem dLaw_319 : decode code 319 = .ok (.aload_n 2, 1) := by decide +kernel
theorem dLaw_320 : decode code 320 = .ok (.aload_n 0, 1) := by decide +kernel
theorem dLaw_321 : decode code 321 = .ok (.iload 4, 2) := by decide +kernel
theorem dLaw_323 : decode code 323 = .ok (.iconst 1, 1) := by decide +kernel
theorem dLaw_324 : decode code 324 = .ok (.iadd, 1) := by decide +kernel
theorem dLaw_325 : decode code 325 = .ok (.iaload, 1) := by decide +kernel
theorem dLaw_326 : decode code 326 = .ok (.aload_n 0, 1) := by decide +kernel
theorem dLaw_327 : decode code 327 = .ok (.iload 4, 2) := by decide +kernel
theorem dLaw_329 : decode code 329 = .ok (.iconst 2, 1) := by decide +kernel
theorem dLaw_330 : decode code 330 = .ok (.iadd, 1) := by decide +kernel
theorem dLaw_331 : decode code 331 = .ok (.iaload, 1) := by decide +kernel
theorem dLaw_332 : decode code 332 = .ok (.invokevirtual 80, 3) := by decide +kernel
theorem dLaw_335 : decode code 335 = .ok (.istore 6, 2) := by decide +kernel
theorem dLaw_337 : decode code 337 = .ok (.aload_n 2, 1) := by decide +kernel
theorem dLaw_338 : decode code 338 = .ok (.invokevirtual 69, 3) := by decide +kernel
theorem dLaw_341 : decode code 341 = .ok (.iload 5, 2) := by decide +kernel
theorem dLaw_343 : decode code 343 = .ok (.if_icmp .eq 5, 3) := by decide +kernel
theorem dLaw_346 : decode code 346 = .ok (.iconst 0, 1) := by decide +kernel
theorem dLaw_347 : decode code 347 = .ok (.ireturn, 1) := by decide +kernel
theorem dLaw_348 : decode code 348 = .ok (.iload 5, 2) := by decide +kernel
theorem dLaw_350 : decode code 350 = .ok (.ifCond .ne 15, 3) := by decide +kernel
theorem dLaw_353 : decode code 353 = .ok (.aload_n 3, 1) := by decide +kernel
theorem dLaw_354 : decode code 354 = .ok (.iconst 0, 1) := by decide +kernel
theorem dLaw_355 : decode code 355 = .ok (.laload, 1) := by decide +kernel
theorem dLaw_356 : decode code 356 = .ok (.iload 6, 2) := by decide +kernel
theorem dLaw_358 : decode code 358 = .ok (.i2l, 1) := by decide +kernel
theorem dLaw_359 : decode code 359 = .ok (.lcmp, 1) := by decide +kernel
theorem dLaw_360 : decode code 360 = .ok (.ifCond .eq 5, 3) := by decide +kernel
theorem dLaw_363 : decode code 363 = .ok (.iconst 0, 1) := by decide +kernel
theorem dLaw_364 : decode code 364 = .ok (.ireturn, 1) := by decide +kernel
theorem dLaw_365 : decode code 365 = .ok (.goto 505, 3) := by decide +kernel
theorem dLaw_368 : decode code 368 = .ok (.aload_n 1, 1) := by decide +kernel
theorem dLaw_369 : decode code 369 = .ok (.aload_n 0, 1) := by decide +kernel
theorem dLaw_370 : decode code 370 = .ok (.iload 4, 2) := by decide +kernel
theorem dLaw_372 : decode code 372 = .ok (.iconst 1, 1) := by decide +kernel
theorem dLaw_373 : decode code 373 = .ok (.iadd, 1) := by decide +kernel
theorem dLaw_374 : decode code 374 = .ok (.iaload, 1) := by decide +kernel
theorem dLaw_375 : decode code 375 = .ok (.aload_n 3, 1) := by decide +kernel
theorem dLaw_376 : decode code 376 = .ok (.invokestatic 81, 3) := by decide +kernel
theorem dLaw_379 : decode code 379 = .ok (.istore 5, 2) := by decide +kernel
theorem dLaw_381 : decode code 381 = .ok (.aload_n 2, 1) := by decide +kernel
theorem dLaw_382 : decode code 382 = .ok (.aload_n 0, 1) := by decide +kernel
theorem dLaw_383 : decode code 383 = .ok (.iload 4, 2) := by decide +kernel
theorem dLaw_385 : decode code 385 = .ok (.iconst 1, 1) := by decide +kernel
theorem dLaw_386 : decode code 386 = .ok (.iadd, 1) := by decide +kernel
