theorem dX10_countryLine_210 : decode cX10_countryLine 210 = .ok (.iconst (-1), 1) := by decide +kernel
theorem dX10_countryLine_211 : decode cX10_countryLine 211 = .ok (.invokevirtual 185, 3) := by decide +kernel
theorem dX10_countryLine_214 : decode cX10_countryLine 214 = .ok (.ifCond .eq 34, 3) := by decide +kernel
theorem dX10_countryLine_217 : decode cX10_countryLine 217 = .ok (.aload_n 0, 1) := by decide +kernel
theorem dX10_countryLine_218 : decode cX10_countryLine 218 = .ok (.iconst 1, 1) := by decide +kernel
theorem dX10_countryLine_219 : decode cX10_countryLine 219 = .ok (.aload_n 0, 1) := by decide +kernel
theorem dX10_countryLine_220 : decode cX10_countryLine 220 = .ok (.getfield 41, 3) := by decide +kernel
theorem dX10_countryLine_223 : decode cX10_countryLine 223 = .ok (.iconst 0, 1) := by decide +kernel
theorem dX10_countryLine_224 : decode cX10_countryLine 224 = .ok (.iaload, 1) := by decide +kernel
theorem dX10_countryLine_225 : decode cX10_countryLine 225 = .ok (.invokevirtual 185, 3) := by decide +kernel
theorem dX10_countryLine_228 : decode cX10_countryLine 228 = .ok (.ifCond .eq 20, 3) := by decide +kernel
theorem dX10_countryLine_231 : decode cX10_countryLine 231 = .ok (.aload_n 0, 1) := by decide +kernel
theorem dX10_countryLine_232 : decode cX10_countryLine 232 = .ok (.iconst 1, 1) := by decide +kernel
theorem dX10_countryLine_233 : decode cX10_countryLine 233 = .ok (.bipush 54, 2) := by decide +kernel
theorem dX10_countryLine_235 : decode cX10_countryLine 235 = .ok (.iconst 2, 1) := by decide +kernel
theorem dX10_countryLine_236 : decode cX10_countryLine 236 = .ok (.bipush 12, 2) := by decide +kernel
theorem dX10_countryLine_238 : decode cX10_countryLine 238 = .ok (.invokevirtual 182, 3) := by decide +kernel
theorem dX10_countryLine_241 : decode cX10_countryLine 241 = .ok (.ifCond .eq 7, 3) := by decide +kernel
theorem dX10_countryLine_244 : decode cX10_countryLine 244 = .ok (.iconst 1, 1) := by decide +kernel
theorem dX10_countryLine_245 : decode cX10_countryLine 245 = .ok (.goto 4, 3) := by decide +kernel
theorem dX10_countryLine_248 : decode cX10_countryLine 248 = .ok (.iconst 0, 1) := by decide +kernel
theorem dX10_countryLine_249 : decode cX10_countryLine 249 = .ok (.ireturn, 1) := by decide +kernel
theorem dX10_countryLine_250 : decode cX10_countryLine 250 = .ok (.aload_n 0, 1) := by decide +kernel
theorem dX10_countryLine_251 : decode cX10_countryLine 251 = .ok (.iconst 0, 1) := by decide +kernel
theorem dX10_countryLine_252 : decode cX10_countryLine 252 = .ok (.iconst 1, 1) := by decide +kernel
theorem dX10_countryLine_253 : decode cX10_countryLine 253 = .ok (.bipush 9, 2) := by decide +kernel
theorem dX10_countryLine_255 : decode cX10_countryLine 255 = .ok (.invokevirtual 159, 3) := by decide +kernel
theorem dX10_countryLine_258 : decode cX10_countryLine 258 = .ok (.ifCond .eq 19, 3) := by decide +kernel
theorem dX10_countryLine_261 : decode cX10_countryLine 261 = .ok (.aload_n 0, 1) := by decide +kernel
theorem dX10_countryLine_262 : decode cX10_countryLine 262 = .ok (.iconst 2, 1) := by decide +kernel
theorem dX10_countryLine_263 : decode cX10_countryLine 263 = .ok (.bipush 38, 2) := by decide +kernel
theorem dX10_countryLine_265 : decode cX10_countryLine 265 = .ok (.iconst 1, 1) := by decide +kernel
theorem dX10_countryLine_266 : decode cX10_countryLine 266 = .ok (.iconst 4, 1) := by decide +kernel
theorem dX10_countryLine_267 : decode cX10_countryLine 267 = .ok (.invokevirtual 182, 3) := by decide +kernel
theorem dX10_countryLine_270 : decode cX10_countryLine 270 = .ok (.ifCond .eq 7, 3) := by decide +kernel
theorem dX10_countryLine_273 : decode cX10_countryLine 273 = .ok (.iconst 1, 1) := by decide +kernel
theorem dX10_countryLine_274 : decode cX10_countryLine 274 = .ok (.goto 4, 3) := by decide +kernel
theorem dX10_countryLine_277 : decode cX10_countryLine 277 = .ok (.iconst 0, 1) := by decide +kernel
theorem dX10_countryLine_278 : decode cX10_countryLine 278 = .ok (.ireturn, 1) := by decide +kernel
theorem dX10_countryLine_279 : decode cX10_countryLine 279 = .ok (.aload_n 0, 1) := by decide +kernel
theorem dX10_countryLine_280 : decode cX10_countryLine 280 = .ok (.iconst 0, 1) := by decide +kernel
theorem dX10_countryLine_281 : decode cX10_countryLine 281 = .ok (.iconst 1, 1) := by decide +kernel
theorem dX10_countryLine_282 : decode cX10_countryLine 282 = .ok (.bipush 9, 2) := by decide +kernel
theorem dX10_countryLine_284 : decode cX10_countryLine 284 = .ok (.invokevirtual 159, 3) := by decide +kernel
theorem dX10_countryLine_287 : decode cX10_countryLine 287 = .ok (.ifCond .eq 19, 3) := by decide +kernel
theorem dX10_countryLine_290 : decode cX10_countryLine 290 = .ok (.aload_n 0, 1) := by decide +kernel
theorem dX10_countryLine_291 : decode cX10_countryLine 291 = .ok (.iconst 3, 1) := by decide +kernel
theorem dX10_countryLine_292 : decode cX10_countryLine 292 = .ok (.bipush 42, 2) := by decide +kernel
theorem dX10_countryLine_294 : decode cX10_countryLine 294 = .ok (.iconst 1, 1) := by decide +kernel
theorem dX10_countryLine_295 : decode cX10_countryLine 295 = .ok (.iconst 4, 1) := by decide +kernel
theorem dX10_countryLine_296 : decode cX10_countryLine 296 = .ok (.invokevirtual 182, 3) := by decide +kernel
theorem dX10_countryLine_299 : decode cX10_countryLine 299 = .ok (.ifCond .eq 7, 3) := by decide +kernel
theorem dX10_countryLine_302 : decode cX10_countryLine 302 = .ok (.iconst 1, 1) := by decide +kernel
theorem dX10_countryLine_303 : decode cX10_countryLine 303 = .ok (.goto 4, 3) := by decide +kernel
theorem dX10_countryLine_306 : decode cX10_countryLine 306 = .ok (.iconst 0, 1) := by decide +kernel
theorem dX10_countryLine_307 : decode cX10_countryLine 307 = .ok (.ireturn, 1) := by decide +kernel
theorem dX10_countryLine_308 : decode cX10_countryLine 308 = .ok (.aload_n 0, 1) := by decide +kernel
theorem dX10_countryLine_309 : decode cX10_countryLine 309 = .ok (.iconst 0, 1) := by decide +kernel
theorem dX10_countryLine_310 : decode cX10_countryLine 310 = .ok (.invokevirtual 188, 3) := by decide +kernel
theorem dX10_countryLine_313 : decode cX10_countryLine 313 = .ok (.ifCond .eq 27, 3) := by decide +kernel
theorem dX10_countryLine_316 : decode cX10_countryLine 316 = .ok (.aload_n 0, 1) := by decide +kernel
theorem dX10_countryLine_317 : decode cX10_countryLine 317 = .ok (.iconst 1, 1) := by decide +kernel
theorem dX10_countryLine_318 : decode cX10_countryLine 318 = .ok (.invokevirtual 192, 3) := by decide +kernel
theorem dX10_countryLine_321 : decode cX10_countryLine 321 = .ok (.ifCond .eq 19, 3) := by decide +kernel
theorem dX10_countryLine_324 : decode cX10_countryLine 324 = .ok (.aload_n 0, 1) := by decide +kernel
theorem dX10_countryLine_325 : decode cX10_countryLine 325 = .ok (.iconst 4, 1) := by decide +kernel
theorem dX10_countryLine_326 : decode cX10_countryLine 326 = .ok (.bipush 46, 2) := by decide +kernel
theorem dX10_countryLine_328 : decode cX10_countryLine 328 = .ok (.iconst 2, 1) := by decide +kernel
theorem dX10_countryLine_329 : decode cX10_countryLine 329 = .ok (.iconst 4, 1) := by decide +kernel
theorem dX10_countryLine_330 : decode cX10_countryLine 330 = .ok (.invokevirtual 182, 3) := by decide +kernel
theorem dX10_countryLine_333 : decode cX10_countryLine 333 = .ok (.ifCond .eq 7, 3) := by decide +kernel
theorem dX10_countryLine_336 : decode cX10_countryLine 336 = .ok (.iconst 1, 1) := by decide +kernel
theorem dX10_countryLine_337 : decode cX10_countryLine 337 = .ok (.goto 4, 3) := by decide +kernel
theorem dX10_countryLine_340 : decode cX10_countryLine 340 = .ok (.iconst 0, 1) := by decide +kernel
theorem dX10_countryLine_341 : decode cX10_countryLine 341 = .ok (.ireturn, 1) := by decide +kernel
theorem dX10_countryLine_342 : decode cX10_countryLine 342 = .ok (.lload_n 1, 1) := by decide +kernel
theorem dX10_countryLine_343 : decode cX10_countryLine 343 = .ok (.ldc2_w 195, 3) := by decide +kernel
theorem dX10_countryLine_346 : decode cX10_countryLine 346 = .ok (.lcmp, 1) := by decide +kernel
theorem dX10_countryLine_347 : decode cX10_countryLine 347 = .ok (.ifCond .eq 32, 3) := by decide +kernel
theorem dX10_countryLine_350 : decode cX10_countryLine 350 = .ok (.lload_n 1, 1) := by decide +kernel
theorem dX10_countryLine_351 : decode cX10_countryLine 351 = .ok (.ldc2_w 197, 3) := by decide +kernel
theorem dX10_countryLine_354 : decode cX10_countryLine 354 = .ok (.lcmp, 1) := by decide +kernel
theorem dX10_countryLine_355 : decode cX10_countryLine 355 = .ok (.ifCond .eq 24, 3) := by decide +kernel
theorem dX10_countryLine_358 : decode cX10_countryLine 358 = .ok (.lload_n 1, 1) := by decide +kernel
theorem dX10_countryLine_359 : decode cX10_countryLine 359 = .ok (.ldc2_w 199, 3) := by decide +kernel
theorem dX10_countryLine_362 : decode cX10_countryLine 362 = .ok (.lcmp, 1) := by decide +kernel
theorem dX10_countryLine_363 : decode cX10_countryLine 363 = .ok (.ifCond .eq 16, 3) := by decide +kernel
theorem dX10_countryLine_366 : decode cX10_countryLine 366 = .ok (.lload_n 1, 1) := by decide +kernel
theorem dX10_countryLine_367 : decode cX10_countryLine 367 = .ok (.ldc2_w 201, 3) := by decide +kernel
theorem dX10_countryLine_370 : decode cX10_countryLine 370 = .ok (.lcmp, 1) := by decide +kernel
theorem dX10_countryLine_371 : decode cX10_countryLine 371 = .ok (.ifCond .eq 8, 3) := by decide +kernel
theorem dX10_countryLine_374 : decode cX10_countryLine 374 = .ok (.aload_n 0, 1) := by decide +kernel
theorem dX10_countryLine_375 : decode cX10_countryLine 375 = .ok (.invokevirtual 133, 3) := by decide +kernel
theorem dX10_countryLine_378 : decode cX10_countryLine 378 = .ok (.ireturn, 1) := by decide +kernel
theorem dX10_countryLine_379 : decode cX10_countryLine 379 = .ok (.aload_n 0, 1) := by decide +kernel
