/-! 0 FacetSieveLaw.law([I)Z -/
theorem d0_0 : decode (zz_c 0) 0 = .ok (.new 7, 3) := by decide +kernel
theorem d0_3 : decode (zz_c 0) 3 = .ok (.dup, 1) := by decide +kernel
theorem d0_4 : decode (zz_c 0) 4 = .ok (.invokespecial 9, 3) := by decide +kernel
theorem d0_7 : decode (zz_c 0) 7 = .ok (.astore_n 1, 1) := by decide +kernel
theorem d0_8 : decode (zz_c 0) 8 = .ok (.new 10, 3) := by decide +kernel
theorem d0_11 : decode (zz_c 0) 11 = .ok (.dup, 1) := by decide +kernel
theorem d0_12 : decode (zz_c 0) 12 = .ok (.invokespecial 12, 3) := by decide +kernel
theorem d0_15 : decode (zz_c 0) 15 = .ok (.astore_n 2, 1) := by decide +kernel
theorem d0_16 : decode (zz_c 0) 16 = .ok (.iconst 0, 1) := by decide +kernel
theorem d0_17 : decode (zz_c 0) 17 = .ok (.istore_n 3, 1) := by decide +kernel
theorem d0_18 : decode (zz_c 0) 18 = .ok (.iload_n 3, 1) := by decide +kernel
theorem d0_19 : decode (zz_c 0) 19 = .ok (.aload_n 0, 1) := by decide +kernel
theorem d0_20 : decode (zz_c 0) 20 = .ok (.arraylength, 1) := by decide +kernel
theorem d0_21 : decode (zz_c 0) 21 = .ok (.bipush 6, 2) := by decide +kernel
theorem d0_23 : decode (zz_c 0) 23 = .ok (.isub, 1) := by decide +kernel
theorem d0_24 : decode (zz_c 0) 24 = .ok (.if_icmp .gt 1078, 3) := by decide +kernel
theorem d0_27 : decode (zz_c 0) 27 = .ok (.aload_n 0, 1) := by decide +kernel
theorem d0_28 : decode (zz_c 0) 28 = .ok (.iload_n 3, 1) := by decide +kernel
theorem d0_29 : decode (zz_c 0) 29 = .ok (.iaload, 1) := by decide +kernel
theorem d0_30 : decode (zz_c 0) 30 = .ok (.bipush 31, 2) := by decide +kernel
theorem d0_32 : decode (zz_c 0) 32 = .ok (.iand, 1) := by decide +kernel
theorem d0_33 : decode (zz_c 0) 33 = .ok (.tableswitch 1063 0 29 #[135, 198, 221, 234, 247, 270, 293, 326, 349, 382, 415, 448, 481, 530, 563, 576, 599, 632, 665, 708, 741, 774, 823, 872, 915, 938, 971, 994, 1017, 1040], 135) := by decide +kernel
theorem d0_168 : decode (zz_c 0) 168 = .ok (.aload_n 1, 1) := by decide +kernel
theorem d0_169 : decode (zz_c 0) 169 = .ok (.aload_n 0, 1) := by decide +kernel
theorem d0_170 : decode (zz_c 0) 170 = .ok (.iload_n 3, 1) := by decide +kernel
theorem d0_171 : decode (zz_c 0) 171 = .ok (.iconst 1, 1) := by decide +kernel
theorem d0_172 : decode (zz_c 0) 172 = .ok (.iadd, 1) := by decide +kernel
theorem d0_173 : decode (zz_c 0) 173 = .ok (.iaload, 1) := by decide +kernel
theorem d0_174 : decode (zz_c 0) 174 = .ok (.aload_n 0, 1) := by decide +kernel
theorem d0_175 : decode (zz_c 0) 175 = .ok (.iload_n 3, 1) := by decide +kernel
theorem d0_176 : decode (zz_c 0) 176 = .ok (.iconst 2, 1) := by decide +kernel
theorem d0_177 : decode (zz_c 0) 177 = .ok (.iadd, 1) := by decide +kernel
theorem d0_178 : decode (zz_c 0) 178 = .ok (.iaload, 1) := by decide +kernel
theorem d0_179 : decode (zz_c 0) 179 = .ok (.aload_n 0, 1) := by decide +kernel
theorem d0_180 : decode (zz_c 0) 180 = .ok (.iload_n 3, 1) := by decide +kernel
theorem d0_181 : decode (zz_c 0) 181 = .ok (.iconst 3, 1) := by decide +kernel
theorem d0_182 : decode (zz_c 0) 182 = .ok (.iadd, 1) := by decide +kernel
theorem d0_183 : decode (zz_c 0) 183 = .ok (.iaload, 1) := by decide +kernel
theorem d0_184 : decode (zz_c 0) 184 = .ok (.aload_n 0, 1) := by decide +kernel
theorem d0_185 : decode (zz_c 0) 185 = .ok (.iload_n 3, 1) := by decide +kernel
theorem d0_186 : decode (zz_c 0) 186 = .ok (.iconst 4, 1) := by decide +kernel
theorem d0_187 : decode (zz_c 0) 187 = .ok (.iadd, 1) := by decide +kernel
theorem d0_188 : decode (zz_c 0) 188 = .ok (.iaload, 1) := by decide +kernel
theorem d0_189 : decode (zz_c 0) 189 = .ok (.aload_n 0, 1) := by decide +kernel
theorem d0_190 : decode (zz_c 0) 190 = .ok (.iload_n 3, 1) := by decide +kernel
theorem d0_191 : decode (zz_c 0) 191 = .ok (.iconst 5, 1) := by decide +kernel
theorem d0_192 : decode (zz_c 0) 192 = .ok (.iadd, 1) := by decide +kernel
theorem d0_193 : decode (zz_c 0) 193 = .ok (.iaload, 1) := by decide +kernel
theorem d0_194 : decode (zz_c 0) 194 = .ok (.invokevirtual 13, 3) := by decide +kernel
theorem d0_197 : decode (zz_c 0) 197 = .ok (.aload_n 2, 1) := by decide +kernel
theorem d0_198 : decode (zz_c 0) 198 = .ok (.aload_n 0, 1) := by decide +kernel
theorem d0_199 : decode (zz_c 0) 199 = .ok (.iload_n 3, 1) := by decide +kernel
theorem d0_200 : decode (zz_c 0) 200 = .ok (.iconst 1, 1) := by decide +kernel
theorem d0_201 : decode (zz_c 0) 201 = .ok (.iadd, 1) := by decide +kernel
theorem d0_202 : decode (zz_c 0) 202 = .ok (.iaload, 1) := by decide +kernel
theorem d0_203 : decode (zz_c 0) 203 = .ok (.aload_n 0, 1) := by decide +kernel
theorem d0_204 : decode (zz_c 0) 204 = .ok (.iload_n 3, 1) := by decide +kernel
theorem d0_205 : decode (zz_c 0) 205 = .ok (.iconst 2, 1) := by decide +kernel
theorem d0_206 : decode (zz_c 0) 206 = .ok (.iadd, 1) := by decide +kernel
theorem d0_207 : decode (zz_c 0) 207 = .ok (.iaload, 1) := by decide +kernel
theorem d0_208 : decode (zz_c 0) 208 = .ok (.aload_n 0, 1) := by decide +kernel
theorem d0_209 : decode (zz_c 0) 209 = .ok (.iload_n 3, 1) := by decide +kernel
theorem d0_210 : decode (zz_c 0) 210 = .ok (.iconst 3, 1) := by decide +kernel
theorem d0_211 : decode (zz_c 0) 211 = .ok (.iadd, 1) := by decide +kernel
theorem d0_212 : decode (zz_c 0) 212 = .ok (.iaload, 1) := by decide +kernel
theorem d0_213 : decode (zz_c 0) 213 = .ok (.aload_n 0, 1) := by decide +kernel
theorem d0_214 : decode (zz_c 0) 214 = .ok (.iload_n 3, 1) := by decide +kernel
theorem d0_215 : decode (zz_c 0) 215 = .ok (.iconst 4, 1) := by decide +kernel
theorem d0_216 : decode (zz_c 0) 216 = .ok (.iadd, 1) := by decide +kernel
theorem d0_217 : decode (zz_c 0) 217 = .ok (.iaload, 1) := by decide +kernel
theorem d0_218 : decode (zz_c 0) 218 = .ok (.aload_n 0, 1) := by decide +kernel
theorem d0_219 : decode (zz_c 0) 219 = .ok (.iload_n 3, 1) := by decide +kernel
theorem d0_220 : decode (zz_c 0) 220 = .ok (.iconst 5, 1) := by decide +kernel
theorem d0_221 : decode (zz_c 0) 221 = .ok (.iadd, 1) := by decide +kernel
theorem d0_222 : decode (zz_c 0) 222 = .ok (.iaload, 1) := by decide +kernel
theorem d0_223 : decode (zz_c 0) 223 = .ok (.invokevirtual 17, 3) := by decide +kernel
theorem d0_226 : decode (zz_c 0) 226 = .ok (.if_icmp .eq 870, 3) := by decide +kernel
theorem d0_229 : decode (zz_c 0) 229 = .ok (.iconst 0, 1) := by decide +kernel
theorem d0_230 : decode (zz_c 0) 230 = .ok (.ireturn, 1) := by decide +kernel
theorem d0_231 : decode (zz_c 0) 231 = .ok (.aload_n 1, 1) := by decide +kernel
theorem d0_232 : decode (zz_c 0) 232 = .ok (.aload_n 0, 1) := by decide +kernel
theorem d0_233 : decode (zz_c 0) 233 = .ok (.iload_n 3, 1) := by decide +kernel
theorem d0_234 : decode (zz_c 0) 234 = .ok (.iconst 1, 1) := by decide +kernel
theorem d0_235 : decode (zz_c 0) 235 = .ok (.iadd, 1) := by decide +kernel
theorem d0_236 : decode (zz_c 0) 236 = .ok (.iaload, 1) := by decide +kernel
theorem d0_237 : decode (zz_c 0) 237 = .ok (.invokevirtual 18, 3) := by decide +kernel
theorem d0_240 : decode (zz_c 0) 240 = .ok (.aload_n 2, 1) := by decide +kernel
theorem d0_241 : decode (zz_c 0) 241 = .ok (.aload_n 0, 1) := by decide +kernel
theorem d0_242 : decode (zz_c 0) 242 = .ok (.iload_n 3, 1) := by decide +kernel
theorem d0_243 : decode (zz_c 0) 243 = .ok (.iconst 1, 1) := by decide +kernel
theorem d0_244 : decode (zz_c 0) 244 = .ok (.iadd, 1) := by decide +kernel
theorem d0_245 : decode (zz_c 0) 245 = .ok (.iaload, 1) := by decide +kernel
theorem d0_246 : decode (zz_c 0) 246 = .ok (.invokevirtual 22, 3) := by decide +kernel
theorem d0_249 : decode (zz_c 0) 249 = .ok (.if_icmp .eq 847, 3) := by decide +kernel
theorem d0_252 : decode (zz_c 0) 252 = .ok (.iconst 0, 1) := by decide +kernel
theorem d0_253 : decode (zz_c 0) 253 = .ok (.ireturn, 1) := by decide +kernel
theorem d0_254 : decode (zz_c 0) 254 = .ok (.aload_n 1, 1) := by decide +kernel
theorem d0_255 : decode (zz_c 0) 255 = .ok (.invokevirtual 23, 3) := by decide +kernel
theorem d0_258 : decode (zz_c 0) 258 = .ok (.aload_n 2, 1) := by decide +kernel
theorem d0_259 : decode (zz_c 0) 259 = .ok (.invokevirtual 27, 3) := by decide +kernel
theorem d0_262 : decode (zz_c 0) 262 = .ok (.if_icmp .eq 834, 3) := by decide +kernel
theorem d0_265 : decode (zz_c 0) 265 = .ok (.iconst 0, 1) := by decide +kernel
theorem d0_266 : decode (zz_c 0) 266 = .ok (.ireturn, 1) := by decide +kernel
theorem d0_267 : decode (zz_c 0) 267 = .ok (.aload_n 1, 1) := by decide +kernel
theorem d0_268 : decode (zz_c 0) 268 = .ok (.invokevirtual 28, 3) := by decide +kernel
theorem d0_271 : decode (zz_c 0) 271 = .ok (.aload_n 2, 1) := by decide +kernel
theorem d0_272 : decode (zz_c 0) 272 = .ok (.invokevirtual 31, 3) := by decide +kernel
theorem d0_275 : decode (zz_c 0) 275 = .ok (.if_icmp .eq 821, 3) := by decide +kernel
theorem d0_278 : decode (zz_c 0) 278 = .ok (.iconst 0, 1) := by decide +kernel
theorem d0_279 : decode (zz_c 0) 279 = .ok (.ireturn, 1) := by decide +kernel
theorem d0_280 : decode (zz_c 0) 280 = .ok (.aload_n 1, 1) := by decide +kernel
theorem d0_281 : decode (zz_c 0) 281 = .ok (.aload_n 0, 1) := by decide +kernel
theorem d0_282 : decode (zz_c 0) 282 = .ok (.iload_n 3, 1) := by decide +kernel
theorem d0_283 : decode (zz_c 0) 283 = .ok (.iconst 1, 1) := by decide +kernel
theorem d0_284 : decode (zz_c 0) 284 = .ok (.iadd, 1) := by decide +kernel
theorem d0_285 : decode (zz_c 0) 285 = .ok (.iaload, 1) := by decide +kernel
theorem d0_286 : decode (zz_c 0) 286 = .ok (.invokevirtual 32, 3) := by decide +kernel
theorem d0_289 : decode (zz_c 0) 289 = .ok (.aload_n 2, 1) := by decide +kernel
theorem d0_290 : decode (zz_c 0) 290 = .ok (.aload_n 0, 1) := by decide +kernel
theorem d0_291 : decode (zz_c 0) 291 = .ok (.iload_n 3, 1) := by decide +kernel
theorem d0_292 : decode (zz_c 0) 292 = .ok (.iconst 1, 1) := by decide +kernel
theorem d0_293 : decode (zz_c 0) 293 = .ok (.iadd, 1) := by decide +kernel
theorem d0_294 : decode (zz_c 0) 294 = .ok (.iaload, 1) := by decide +kernel
theorem d0_295 : decode (zz_c 0) 295 = .ok (.invokevirtual 35, 3) := by decide +kernel
theorem d0_298 : decode (zz_c 0) 298 = .ok (.if_icmp .eq 798, 3) := by decide +kernel
theorem d0_301 : decode (zz_c 0) 301 = .ok (.iconst 0, 1) := by decide +kernel
theorem d0_302 : decode (zz_c 0) 302 = .ok (.ireturn, 1) := by decide +kernel
theorem d0_303 : decode (zz_c 0) 303 = .ok (.aload_n 1, 1) := by decide +kernel
theorem d0_304 : decode (zz_c 0) 304 = .ok (.aload_n 0, 1) := by decide +kernel
theorem d0_305 : decode (zz_c 0) 305 = .ok (.iload_n 3, 1) := by decide +kernel
theorem d0_306 : decode (zz_c 0) 306 = .ok (.iconst 1, 1) := by decide +kernel
theorem d0_307 : decode (zz_c 0) 307 = .ok (.iadd, 1) := by decide +kernel
theorem d0_308 : decode (zz_c 0) 308 = .ok (.iaload, 1) := by decide +kernel
theorem d0_309 : decode (zz_c 0) 309 = .ok (.invokevirtual 36, 3) := by decide +kernel
theorem d0_312 : decode (zz_c 0) 312 = .ok (.aload_n 2, 1) := by decide +kernel
theorem d0_313 : decode (zz_c 0) 313 = .ok (.aload_n 0, 1) := by decide +kernel
theorem d0_314 : decode (zz_c 0) 314 = .ok (.iload_n 3, 1) := by decide +kernel
theorem d0_315 : decode (zz_c 0) 315 = .ok (.iconst 1, 1) := by decide +kernel
theorem d0_316 : decode (zz_c 0) 316 = .ok (.iadd, 1) := by decide +kernel
theorem d0_317 : decode (zz_c 0) 317 = .ok (.iaload, 1) := by decide +kernel
theorem d0_318 : decode (zz_c 0) 318 = .ok (.invokevirtual 39, 3) := by decide +kernel
theorem d0_321 : decode (zz_c 0) 321 = .ok (.if_icmp .eq 775, 3) := by decide +kernel
theorem d0_324 : decode (zz_c 0) 324 = .ok (.iconst 0, 1) := by decide +kernel
theorem d0_325 : decode (zz_c 0) 325 = .ok (.ireturn, 1) := by decide +kernel
theorem d0_326 : decode (zz_c 0) 326 = .ok (.aload_n 1, 1) := by decide +kernel
theorem d0_327 : decode (zz_c 0) 327 = .ok (.aload_n 0, 1) := by decide +kernel
theorem d0_328 : decode (zz_c 0) 328 = .ok (.iload_n 3, 1) := by decide +kernel
theorem d0_329 : decode (zz_c 0) 329 = .ok (.iconst 1, 1) := by decide +kernel
theorem d0_330 : decode (zz_c 0) 330 = .ok (.iadd, 1) := by decide +kernel
theorem d0_331 : decode (zz_c 0) 331 = .ok (.iaload, 1) := by decide +kernel
theorem d0_332 : decode (zz_c 0) 332 = .ok (.aload_n 0, 1) := by decide +kernel
theorem d0_333 : decode (zz_c 0) 333 = .ok (.iload_n 3, 1) := by decide +kernel
theorem d0_334 : decode (zz_c 0) 334 = .ok (.iconst 2, 1) := by decide +kernel
theorem d0_335 : decode (zz_c 0) 335 = .ok (.iadd, 1) := by decide +kernel
theorem d0_336 : decode (zz_c 0) 336 = .ok (.iaload, 1) := by decide +kernel
theorem d0_337 : decode (zz_c 0) 337 = .ok (.invokevirtual 40, 3) := by decide +kernel
theorem d0_340 : decode (zz_c 0) 340 = .ok (.aload_n 2, 1) := by decide +kernel
theorem d0_341 : decode (zz_c 0) 341 = .ok (.aload_n 0, 1) := by decide +kernel
theorem d0_342 : decode (zz_c 0) 342 = .ok (.iload_n 3, 1) := by decide +kernel
theorem d0_343 : decode (zz_c 0) 343 = .ok (.iconst 1, 1) := by decide +kernel
theorem d0_344 : decode (zz_c 0) 344 = .ok (.iadd, 1) := by decide +kernel
theorem d0_345 : decode (zz_c 0) 345 = .ok (.iaload, 1) := by decide +kernel
theorem d0_346 : decode (zz_c 0) 346 = .ok (.aload_n 0, 1) := by decide +kernel
theorem d0_347 : decode (zz_c 0) 347 = .ok (.iload_n 3, 1) := by decide +kernel
theorem d0_348 : decode (zz_c 0) 348 = .ok (.iconst 2, 1) := by decide +kernel
theorem d0_349 : decode (zz_c 0) 349 = .ok (.iadd, 1) := by decide +kernel
theorem d0_350 : decode (zz_c 0) 350 = .ok (.iaload, 1) := by decide +kernel
theorem d0_351 : decode (zz_c 0) 351 = .ok (.invokevirtual 44, 3) := by decide +kernel
theorem d0_354 : decode (zz_c 0) 354 = .ok (.if_icmp .eq 742, 3) := by decide +kernel
theorem d0_357 : decode (zz_c 0) 357 = .ok (.iconst 0, 1) := by decide +kernel
theorem d0_358 : decode (zz_c 0) 358 = .ok (.ireturn, 1) := by decide +kernel
theorem d0_359 : decode (zz_c 0) 359 = .ok (.aload_n 1, 1) := by decide +kernel
theorem d0_360 : decode (zz_c 0) 360 = .ok (.aload_n 0, 1) := by decide +kernel
theorem d0_361 : decode (zz_c 0) 361 = .ok (.iload_n 3, 1) := by decide +kernel
theorem d0_362 : decode (zz_c 0) 362 = .ok (.iconst 1, 1) := by decide +kernel
theorem d0_363 : decode (zz_c 0) 363 = .ok (.iadd, 1) := by decide +kernel
theorem d0_364 : decode (zz_c 0) 364 = .ok (.iaload, 1) := by decide +kernel
theorem d0_365 : decode (zz_c 0) 365 = .ok (.invokevirtual 45, 3) := by decide +kernel
theorem d0_368 : decode (zz_c 0) 368 = .ok (.aload_n 2, 1) := by decide +kernel
theorem d0_369 : decode (zz_c 0) 369 = .ok (.aload_n 0, 1) := by decide +kernel
theorem d0_370 : decode (zz_c 0) 370 = .ok (.iload_n 3, 1) := by decide +kernel
theorem d0_371 : decode (zz_c 0) 371 = .ok (.iconst 1, 1) := by decide +kernel
theorem d0_372 : decode (zz_c 0) 372 = .ok (.iadd, 1) := by decide +kernel
theorem d0_373 : decode (zz_c 0) 373 = .ok (.iaload, 1) := by decide +kernel
theorem d0_374 : decode (zz_c 0) 374 = .ok (.invokevirtual 48, 3) := by decide +kernel
theorem d0_377 : decode (zz_c 0) 377 = .ok (.if_icmp .eq 719, 3) := by decide +kernel
theorem d0_380 : decode (zz_c 0) 380 = .ok (.iconst 0, 1) := by decide +kernel
theorem d0_381 : decode (zz_c 0) 381 = .ok (.ireturn, 1) := by decide +kernel
theorem d0_382 : decode (zz_c 0) 382 = .ok (.aload_n 1, 1) := by decide +kernel
theorem d0_383 : decode (zz_c 0) 383 = .ok (.aload_n 0, 1) := by decide +kernel
theorem d0_384 : decode (zz_c 0) 384 = .ok (.iload_n 3, 1) := by decide +kernel
theorem d0_385 : decode (zz_c 0) 385 = .ok (.iconst 1, 1) := by decide +kernel
theorem d0_386 : decode (zz_c 0) 386 = .ok (.iadd, 1) := by decide +kernel
theorem d0_387 : decode (zz_c 0) 387 = .ok (.iaload, 1) := by decide +kernel
theorem d0_388 : decode (zz_c 0) 388 = .ok (.aload_n 0, 1) := by decide +kernel
theorem d0_389 : decode (zz_c 0) 389 = .ok (.iload_n 3, 1) := by decide +kernel
theorem d0_390 : decode (zz_c 0) 390 = .ok (.iconst 2, 1) := by decide +kernel
theorem d0_391 : decode (zz_c 0) 391 = .ok (.iadd, 1) := by decide +kernel
theorem d0_392 : decode (zz_c 0) 392 = .ok (.iaload, 1) := by decide +kernel
theorem d0_393 : decode (zz_c 0) 393 = .ok (.invokevirtual 49, 3) := by decide +kernel
theorem d0_396 : decode (zz_c 0) 396 = .ok (.aload_n 2, 1) := by decide +kernel
theorem d0_397 : decode (zz_c 0) 397 = .ok (.aload_n 0, 1) := by decide +kernel
theorem d0_398 : decode (zz_c 0) 398 = .ok (.iload_n 3, 1) := by decide +kernel
theorem d0_399 : decode (zz_c 0) 399 = .ok (.iconst 1, 1) := by decide +kernel
theorem d0_400 : decode (zz_c 0) 400 = .ok (.iadd, 1) := by decide +kernel
theorem d0_401 : decode (zz_c 0) 401 = .ok (.iaload, 1) := by decide +kernel
theorem d0_402 : decode (zz_c 0) 402 = .ok (.aload_n 0, 1) := by decide +kernel
theorem d0_403 : decode (zz_c 0) 403 = .ok (.iload_n 3, 1) := by decide +kernel
theorem d0_404 : decode (zz_c 0) 404 = .ok (.iconst 2, 1) := by decide +kernel
theorem d0_405 : decode (zz_c 0) 405 = .ok (.iadd, 1) := by decide +kernel
theorem d0_406 : decode (zz_c 0) 406 = .ok (.iaload, 1) := by decide +kernel
theorem d0_407 : decode (zz_c 0) 407 = .ok (.invokevirtual 52, 3) := by decide +kernel
theorem d0_410 : decode (zz_c 0) 410 = .ok (.if_icmp .eq 686, 3) := by decide +kernel
theorem d0_413 : decode (zz_c 0) 413 = .ok (.iconst 0, 1) := by decide +kernel
theorem d0_414 : decode (zz_c 0) 414 = .ok (.ireturn, 1) := by decide +kernel
theorem d0_415 : decode (zz_c 0) 415 = .ok (.aload_n 1, 1) := by decide +kernel
theorem d0_416 : decode (zz_c 0) 416 = .ok (.aload_n 0, 1) := by decide +kernel
theorem d0_417 : decode (zz_c 0) 417 = .ok (.iload_n 3, 1) := by decide +kernel
theorem d0_418 : decode (zz_c 0) 418 = .ok (.iconst 1, 1) := by decide +kernel
theorem d0_419 : decode (zz_c 0) 419 = .ok (.iadd, 1) := by decide +kernel
theorem d0_420 : decode (zz_c 0) 420 = .ok (.iaload, 1) := by decide +kernel
theorem d0_421 : decode (zz_c 0) 421 = .ok (.aload_n 0, 1) := by decide +kernel
theorem d0_422 : decode (zz_c 0) 422 = .ok (.iload_n 3, 1) := by decide +kernel
theorem d0_423 : decode (zz_c 0) 423 = .ok (.iconst 2, 1) := by decide +kernel
theorem d0_424 : decode (zz_c 0) 424 = .ok (.iadd, 1) := by decide +kernel
theorem d0_425 : decode (zz_c 0) 425 = .ok (.iaload, 1) := by decide +kernel
theorem d0_426 : decode (zz_c 0) 426 = .ok (.invokevirtual 53, 3) := by decide +kernel
theorem d0_429 : decode (zz_c 0) 429 = .ok (.aload_n 2, 1) := by decide +kernel
theorem d0_430 : decode (zz_c 0) 430 = .ok (.aload_n 0, 1) := by decide +kernel
theorem d0_431 : decode (zz_c 0) 431 = .ok (.iload_n 3, 1) := by decide +kernel
theorem d0_432 : decode (zz_c 0) 432 = .ok (.iconst 1, 1) := by decide +kernel
theorem d0_433 : decode (zz_c 0) 433 = .ok (.iadd, 1) := by decide +kernel
theorem d0_434 : decode (zz_c 0) 434 = .ok (.iaload, 1) := by decide +kernel
theorem d0_435 : decode (zz_c 0) 435 = .ok (.aload_n 0, 1) := by decide +kernel
theorem d0_436 : decode (zz_c 0) 436 = .ok (.iload_n 3, 1) := by decide +kernel
theorem d0_437 : decode (zz_c 0) 437 = .ok (.iconst 2, 1) := by decide +kernel
theorem d0_438 : decode (zz_c 0) 438 = .ok (.iadd, 1) := by decide +kernel
theorem d0_439 : decode (zz_c 0) 439 = .ok (.iaload, 1) := by decide +kernel
theorem d0_440 : decode (zz_c 0) 440 = .ok (.invokevirtual 56, 3) := by decide +kernel
theorem d0_443 : decode (zz_c 0) 443 = .ok (.if_icmp .eq 653, 3) := by decide +kernel
theorem d0_446 : decode (zz_c 0) 446 = .ok (.iconst 0, 1) := by decide +kernel
theorem d0_447 : decode (zz_c 0) 447 = .ok (.ireturn, 1) := by decide +kernel
theorem d0_448 : decode (zz_c 0) 448 = .ok (.aload_n 1, 1) := by decide +kernel
theorem d0_449 : decode (zz_c 0) 449 = .ok (.aload_n 0, 1) := by decide +kernel
theorem d0_450 : decode (zz_c 0) 450 = .ok (.iload_n 3, 1) := by decide +kernel
theorem d0_451 : decode (zz_c 0) 451 = .ok (.iconst 1, 1) := by decide +kernel
theorem d0_452 : decode (zz_c 0) 452 = .ok (.iadd, 1) := by decide +kernel
theorem d0_453 : decode (zz_c 0) 453 = .ok (.iaload, 1) := by decide +kernel
theorem d0_454 : decode (zz_c 0) 454 = .ok (.aload_n 0, 1) := by decide +kernel
theorem d0_455 : decode (zz_c 0) 455 = .ok (.iload_n 3, 1) := by decide +kernel
theorem d0_456 : decode (zz_c 0) 456 = .ok (.iconst 2, 1) := by decide +kernel
theorem d0_457 : decode (zz_c 0) 457 = .ok (.iadd, 1) := by decide +kernel
theorem d0_458 : decode (zz_c 0) 458 = .ok (.iaload, 1) := by decide +kernel
theorem d0_459 : decode (zz_c 0) 459 = .ok (.invokevirtual 57, 3) := by decide +kernel
theorem d0_462 : decode (zz_c 0) 462 = .ok (.aload_n 2, 1) := by decide +kernel
theorem d0_463 : decode (zz_c 0) 463 = .ok (.aload_n 0, 1) := by decide +kernel
theorem d0_464 : decode (zz_c 0) 464 = .ok (.iload_n 3, 1) := by decide +kernel
theorem d0_465 : decode (zz_c 0) 465 = .ok (.iconst 1, 1) := by decide +kernel
theorem d0_466 : decode (zz_c 0) 466 = .ok (.iadd, 1) := by decide +kernel
theorem d0_467 : decode (zz_c 0) 467 = .ok (.iaload, 1) := by decide +kernel
theorem d0_468 : decode (zz_c 0) 468 = .ok (.aload_n 0, 1) := by decide +kernel
theorem d0_469 : decode (zz_c 0) 469 = .ok (.iload_n 3, 1) := by decide +kernel
theorem d0_470 : decode (zz_c 0) 470 = .ok (.iconst 2, 1) := by decide +kernel
theorem d0_471 : decode (zz_c 0) 471 = .ok (.iadd, 1) := by decide +kernel
theorem d0_472 : decode (zz_c 0) 472 = .ok (.iaload, 1) := by decide +kernel
theorem d0_473 : decode (zz_c 0) 473 = .ok (.invokevirtual 60, 3) := by decide +kernel
theorem d0_476 : decode (zz_c 0) 476 = .ok (.if_icmp .eq 620, 3) := by decide +kernel
theorem d0_479 : decode (zz_c 0) 479 = .ok (.iconst 0, 1) := by decide +kernel
theorem d0_480 : decode (zz_c 0) 480 = .ok (.ireturn, 1) := by decide +kernel
theorem d0_481 : decode (zz_c 0) 481 = .ok (.aload_n 1, 1) := by decide +kernel
theorem d0_482 : decode (zz_c 0) 482 = .ok (.aload_n 0, 1) := by decide +kernel
theorem d0_483 : decode (zz_c 0) 483 = .ok (.iload_n 3, 1) := by decide +kernel
theorem d0_484 : decode (zz_c 0) 484 = .ok (.iconst 1, 1) := by decide +kernel
theorem d0_485 : decode (zz_c 0) 485 = .ok (.iadd, 1) := by decide +kernel
theorem d0_486 : decode (zz_c 0) 486 = .ok (.iaload, 1) := by decide +kernel
theorem d0_487 : decode (zz_c 0) 487 = .ok (.aload_n 0, 1) := by decide +kernel
theorem d0_488 : decode (zz_c 0) 488 = .ok (.iload_n 3, 1) := by decide +kernel
theorem d0_489 : decode (zz_c 0) 489 = .ok (.iconst 2, 1) := by decide +kernel
theorem d0_490 : decode (zz_c 0) 490 = .ok (.iadd, 1) := by decide +kernel
theorem d0_491 : decode (zz_c 0) 491 = .ok (.iaload, 1) := by decide +kernel
theorem d0_492 : decode (zz_c 0) 492 = .ok (.invokevirtual 61, 3) := by decide +kernel
theorem d0_495 : decode (zz_c 0) 495 = .ok (.aload_n 2, 1) := by decide +kernel
theorem d0_496 : decode (zz_c 0) 496 = .ok (.aload_n 0, 1) := by decide +kernel
theorem d0_497 : decode (zz_c 0) 497 = .ok (.iload_n 3, 1) := by decide +kernel
theorem d0_498 : decode (zz_c 0) 498 = .ok (.iconst 1, 1) := by decide +kernel
theorem d0_499 : decode (zz_c 0) 499 = .ok (.iadd, 1) := by decide +kernel
theorem d0_500 : decode (zz_c 0) 500 = .ok (.iaload, 1) := by decide +kernel
theorem d0_501 : decode (zz_c 0) 501 = .ok (.aload_n 0, 1) := by decide +kernel
theorem d0_502 : decode (zz_c 0) 502 = .ok (.iload_n 3, 1) := by decide +kernel
theorem d0_503 : decode (zz_c 0) 503 = .ok (.iconst 2, 1) := by decide +kernel
theorem d0_504 : decode (zz_c 0) 504 = .ok (.iadd, 1) := by decide +kernel
theorem d0_505 : decode (zz_c 0) 505 = .ok (.iaload, 1) := by decide +kernel
theorem d0_506 : decode (zz_c 0) 506 = .ok (.invokevirtual 64, 3) := by decide +kernel
theorem d0_509 : decode (zz_c 0) 509 = .ok (.if_icmp .eq 587, 3) := by decide +kernel
theorem d0_512 : decode (zz_c 0) 512 = .ok (.iconst 0, 1) := by decide +kernel
theorem d0_513 : decode (zz_c 0) 513 = .ok (.ireturn, 1) := by decide +kernel
theorem d0_514 : decode (zz_c 0) 514 = .ok (.aload_n 1, 1) := by decide +kernel
theorem d0_515 : decode (zz_c 0) 515 = .ok (.aload_n 0, 1) := by decide +kernel
theorem d0_516 : decode (zz_c 0) 516 = .ok (.iload_n 3, 1) := by decide +kernel
theorem d0_517 : decode (zz_c 0) 517 = .ok (.iconst 1, 1) := by decide +kernel
theorem d0_518 : decode (zz_c 0) 518 = .ok (.iadd, 1) := by decide +kernel
theorem d0_519 : decode (zz_c 0) 519 = .ok (.iaload, 1) := by decide +kernel
theorem d0_520 : decode (zz_c 0) 520 = .ok (.aload_n 0, 1) := by decide +kernel
theorem d0_521 : decode (zz_c 0) 521 = .ok (.iload_n 3, 1) := by decide +kernel
theorem d0_522 : decode (zz_c 0) 522 = .ok (.iconst 2, 1) := by decide +kernel
theorem d0_523 : decode (zz_c 0) 523 = .ok (.iadd, 1) := by decide +kernel
theorem d0_524 : decode (zz_c 0) 524 = .ok (.iaload, 1) := by decide +kernel
theorem d0_525 : decode (zz_c 0) 525 = .ok (.ifCond .eq 7, 3) := by decide +kernel
theorem d0_528 : decode (zz_c 0) 528 = .ok (.iconst 1, 1) := by decide +kernel
theorem d0_529 : decode (zz_c 0) 529 = .ok (.goto 4, 3) := by decide +kernel
theorem d0_532 : decode (zz_c 0) 532 = .ok (.iconst 0, 1) := by decide +kernel
theorem d0_533 : decode (zz_c 0) 533 = .ok (.invokevirtual 65, 3) := by decide +kernel
theorem d0_536 : decode (zz_c 0) 536 = .ok (.aload_n 2, 1) := by decide +kernel
theorem d0_537 : decode (zz_c 0) 537 = .ok (.aload_n 0, 1) := by decide +kernel
theorem d0_538 : decode (zz_c 0) 538 = .ok (.iload_n 3, 1) := by decide +kernel
theorem d0_539 : decode (zz_c 0) 539 = .ok (.iconst 1, 1) := by decide +kernel
theorem d0_540 : decode (zz_c 0) 540 = .ok (.iadd, 1) := by decide +kernel
theorem d0_541 : decode (zz_c 0) 541 = .ok (.iaload, 1) := by decide +kernel
theorem d0_542 : decode (zz_c 0) 542 = .ok (.aload_n 0, 1) := by decide +kernel
theorem d0_543 : decode (zz_c 0) 543 = .ok (.iload_n 3, 1) := by decide +kernel
theorem d0_544 : decode (zz_c 0) 544 = .ok (.iconst 2, 1) := by decide +kernel
theorem d0_545 : decode (zz_c 0) 545 = .ok (.iadd, 1) := by decide +kernel
theorem d0_546 : decode (zz_c 0) 546 = .ok (.iaload, 1) := by decide +kernel
theorem d0_547 : decode (zz_c 0) 547 = .ok (.ifCond .eq 7, 3) := by decide +kernel
theorem d0_550 : decode (zz_c 0) 550 = .ok (.iconst 1, 1) := by decide +kernel
theorem d0_551 : decode (zz_c 0) 551 = .ok (.goto 4, 3) := by decide +kernel
theorem d0_554 : decode (zz_c 0) 554 = .ok (.iconst 0, 1) := by decide +kernel
theorem d0_555 : decode (zz_c 0) 555 = .ok (.invokevirtual 69, 3) := by decide +kernel
theorem d0_558 : decode (zz_c 0) 558 = .ok (.if_icmp .eq 538, 3) := by decide +kernel
theorem d0_561 : decode (zz_c 0) 561 = .ok (.iconst 0, 1) := by decide +kernel
theorem d0_562 : decode (zz_c 0) 562 = .ok (.ireturn, 1) := by decide +kernel
theorem d0_563 : decode (zz_c 0) 563 = .ok (.aload_n 1, 1) := by decide +kernel
theorem d0_564 : decode (zz_c 0) 564 = .ok (.aload_n 0, 1) := by decide +kernel
theorem d0_565 : decode (zz_c 0) 565 = .ok (.iload_n 3, 1) := by decide +kernel
theorem d0_566 : decode (zz_c 0) 566 = .ok (.iconst 1, 1) := by decide +kernel
theorem d0_567 : decode (zz_c 0) 567 = .ok (.iadd, 1) := by decide +kernel
theorem d0_568 : decode (zz_c 0) 568 = .ok (.iaload, 1) := by decide +kernel
theorem d0_569 : decode (zz_c 0) 569 = .ok (.aload_n 0, 1) := by decide +kernel
theorem d0_570 : decode (zz_c 0) 570 = .ok (.iload_n 3, 1) := by decide +kernel
theorem d0_571 : decode (zz_c 0) 571 = .ok (.iconst 2, 1) := by decide +kernel
theorem d0_572 : decode (zz_c 0) 572 = .ok (.iadd, 1) := by decide +kernel
theorem d0_573 : decode (zz_c 0) 573 = .ok (.iaload, 1) := by decide +kernel
theorem d0_574 : decode (zz_c 0) 574 = .ok (.invokevirtual 70, 3) := by decide +kernel
theorem d0_577 : decode (zz_c 0) 577 = .ok (.aload_n 2, 1) := by decide +kernel
theorem d0_578 : decode (zz_c 0) 578 = .ok (.aload_n 0, 1) := by decide +kernel
theorem d0_579 : decode (zz_c 0) 579 = .ok (.iload_n 3, 1) := by decide +kernel
theorem d0_580 : decode (zz_c 0) 580 = .ok (.iconst 1, 1) := by decide +kernel
theorem d0_581 : decode (zz_c 0) 581 = .ok (.iadd, 1) := by decide +kernel
theorem d0_582 : decode (zz_c 0) 582 = .ok (.iaload, 1) := by decide +kernel
theorem d0_583 : decode (zz_c 0) 583 = .ok (.aload_n 0, 1) := by decide +kernel
theorem d0_584 : decode (zz_c 0) 584 = .ok (.iload_n 3, 1) := by decide +kernel
theorem d0_585 : decode (zz_c 0) 585 = .ok (.iconst 2, 1) := by decide +kernel
theorem d0_586 : decode (zz_c 0) 586 = .ok (.iadd, 1) := by decide +kernel
theorem d0_587 : decode (zz_c 0) 587 = .ok (.iaload, 1) := by decide +kernel
theorem d0_588 : decode (zz_c 0) 588 = .ok (.invokevirtual 73, 3) := by decide +kernel
theorem d0_591 : decode (zz_c 0) 591 = .ok (.if_icmp .eq 505, 3) := by decide +kernel
theorem d0_594 : decode (zz_c 0) 594 = .ok (.iconst 0, 1) := by decide +kernel
theorem d0_595 : decode (zz_c 0) 595 = .ok (.ireturn, 1) := by decide +kernel
theorem d0_596 : decode (zz_c 0) 596 = .ok (.aload_n 1, 1) := by decide +kernel
theorem d0_597 : decode (zz_c 0) 597 = .ok (.invokevirtual 74, 3) := by decide +kernel
theorem d0_600 : decode (zz_c 0) 600 = .ok (.aload_n 2, 1) := by decide +kernel
theorem d0_601 : decode (zz_c 0) 601 = .ok (.invokevirtual 77, 3) := by decide +kernel
theorem d0_604 : decode (zz_c 0) 604 = .ok (.if_icmp .eq 492, 3) := by decide +kernel
theorem d0_607 : decode (zz_c 0) 607 = .ok (.iconst 0, 1) := by decide +kernel
theorem d0_608 : decode (zz_c 0) 608 = .ok (.ireturn, 1) := by decide +kernel
theorem d0_609 : decode (zz_c 0) 609 = .ok (.aload_n 1, 1) := by decide +kernel
theorem d0_610 : decode (zz_c 0) 610 = .ok (.aload_n 0, 1) := by decide +kernel
theorem d0_611 : decode (zz_c 0) 611 = .ok (.iload_n 3, 1) := by decide +kernel
theorem d0_612 : decode (zz_c 0) 612 = .ok (.iconst 1, 1) := by decide +kernel
theorem d0_613 : decode (zz_c 0) 613 = .ok (.iadd, 1) := by decide +kernel
theorem d0_614 : decode (zz_c 0) 614 = .ok (.iaload, 1) := by decide +kernel
theorem d0_615 : decode (zz_c 0) 615 = .ok (.invokevirtual 78, 3) := by decide +kernel
theorem d0_618 : decode (zz_c 0) 618 = .ok (.aload_n 2, 1) := by decide +kernel
theorem d0_619 : decode (zz_c 0) 619 = .ok (.aload_n 0, 1) := by decide +kernel
theorem d0_620 : decode (zz_c 0) 620 = .ok (.iload_n 3, 1) := by decide +kernel
theorem d0_621 : decode (zz_c 0) 621 = .ok (.iconst 1, 1) := by decide +kernel
theorem d0_622 : decode (zz_c 0) 622 = .ok (.iadd, 1) := by decide +kernel
theorem d0_623 : decode (zz_c 0) 623 = .ok (.iaload, 1) := by decide +kernel
theorem d0_624 : decode (zz_c 0) 624 = .ok (.invokevirtual 81, 3) := by decide +kernel
theorem d0_627 : decode (zz_c 0) 627 = .ok (.if_icmp .eq 469, 3) := by decide +kernel
theorem d0_630 : decode (zz_c 0) 630 = .ok (.iconst 0, 1) := by decide +kernel
theorem d0_631 : decode (zz_c 0) 631 = .ok (.ireturn, 1) := by decide +kernel
theorem d0_632 : decode (zz_c 0) 632 = .ok (.aload_n 1, 1) := by decide +kernel
theorem d0_633 : decode (zz_c 0) 633 = .ok (.aload_n 0, 1) := by decide +kernel
theorem d0_634 : decode (zz_c 0) 634 = .ok (.iload_n 3, 1) := by decide +kernel
theorem d0_635 : decode (zz_c 0) 635 = .ok (.iconst 1, 1) := by decide +kernel
theorem d0_636 : decode (zz_c 0) 636 = .ok (.iadd, 1) := by decide +kernel
theorem d0_637 : decode (zz_c 0) 637 = .ok (.iaload, 1) := by decide +kernel
theorem d0_638 : decode (zz_c 0) 638 = .ok (.aload_n 0, 1) := by decide +kernel
theorem d0_639 : decode (zz_c 0) 639 = .ok (.iload_n 3, 1) := by decide +kernel
theorem d0_640 : decode (zz_c 0) 640 = .ok (.iconst 2, 1) := by decide +kernel
theorem d0_641 : decode (zz_c 0) 641 = .ok (.iadd, 1) := by decide +kernel
theorem d0_642 : decode (zz_c 0) 642 = .ok (.iaload, 1) := by decide +kernel
theorem d0_643 : decode (zz_c 0) 643 = .ok (.invokevirtual 82, 3) := by decide +kernel
theorem d0_646 : decode (zz_c 0) 646 = .ok (.aload_n 2, 1) := by decide +kernel
theorem d0_647 : decode (zz_c 0) 647 = .ok (.aload_n 0, 1) := by decide +kernel
theorem d0_648 : decode (zz_c 0) 648 = .ok (.iload_n 3, 1) := by decide +kernel
theorem d0_649 : decode (zz_c 0) 649 = .ok (.iconst 1, 1) := by decide +kernel
theorem d0_650 : decode (zz_c 0) 650 = .ok (.iadd, 1) := by decide +kernel
theorem d0_651 : decode (zz_c 0) 651 = .ok (.iaload, 1) := by decide +kernel
theorem d0_652 : decode (zz_c 0) 652 = .ok (.aload_n 0, 1) := by decide +kernel
theorem d0_653 : decode (zz_c 0) 653 = .ok (.iload_n 3, 1) := by decide +kernel
theorem d0_654 : decode (zz_c 0) 654 = .ok (.iconst 2, 1) := by decide +kernel
theorem d0_655 : decode (zz_c 0) 655 = .ok (.iadd, 1) := by decide +kernel
theorem d0_656 : decode (zz_c 0) 656 = .ok (.iaload, 1) := by decide +kernel
theorem d0_657 : decode (zz_c 0) 657 = .ok (.invokevirtual 85, 3) := by decide +kernel
theorem d0_660 : decode (zz_c 0) 660 = .ok (.if_icmp .eq 436, 3) := by decide +kernel
theorem d0_663 : decode (zz_c 0) 663 = .ok (.iconst 0, 1) := by decide +kernel
theorem d0_664 : decode (zz_c 0) 664 = .ok (.ireturn, 1) := by decide +kernel
theorem d0_665 : decode (zz_c 0) 665 = .ok (.aload_n 1, 1) := by decide +kernel
theorem d0_666 : decode (zz_c 0) 666 = .ok (.aload_n 0, 1) := by decide +kernel
theorem d0_667 : decode (zz_c 0) 667 = .ok (.iload_n 3, 1) := by decide +kernel
theorem d0_668 : decode (zz_c 0) 668 = .ok (.iconst 1, 1) := by decide +kernel
theorem d0_669 : decode (zz_c 0) 669 = .ok (.iadd, 1) := by decide +kernel
theorem d0_670 : decode (zz_c 0) 670 = .ok (.iaload, 1) := by decide +kernel
theorem d0_671 : decode (zz_c 0) 671 = .ok (.aload_n 0, 1) := by decide +kernel
theorem d0_672 : decode (zz_c 0) 672 = .ok (.iload_n 3, 1) := by decide +kernel
theorem d0_673 : decode (zz_c 0) 673 = .ok (.iconst 2, 1) := by decide +kernel
theorem d0_674 : decode (zz_c 0) 674 = .ok (.iadd, 1) := by decide +kernel
theorem d0_675 : decode (zz_c 0) 675 = .ok (.iaload, 1) := by decide +kernel
theorem d0_676 : decode (zz_c 0) 676 = .ok (.invokevirtual 86, 3) := by decide +kernel
theorem d0_679 : decode (zz_c 0) 679 = .ok (.aload_n 2, 1) := by decide +kernel
theorem d0_680 : decode (zz_c 0) 680 = .ok (.aload_n 0, 1) := by decide +kernel
theorem d0_681 : decode (zz_c 0) 681 = .ok (.iload_n 3, 1) := by decide +kernel
theorem d0_682 : decode (zz_c 0) 682 = .ok (.iconst 1, 1) := by decide +kernel
theorem d0_683 : decode (zz_c 0) 683 = .ok (.iadd, 1) := by decide +kernel
theorem d0_684 : decode (zz_c 0) 684 = .ok (.iaload, 1) := by decide +kernel
theorem d0_685 : decode (zz_c 0) 685 = .ok (.aload_n 0, 1) := by decide +kernel
theorem d0_686 : decode (zz_c 0) 686 = .ok (.iload_n 3, 1) := by decide +kernel
theorem d0_687 : decode (zz_c 0) 687 = .ok (.iconst 2, 1) := by decide +kernel
theorem d0_688 : decode (zz_c 0) 688 = .ok (.iadd, 1) := by decide +kernel
theorem d0_689 : decode (zz_c 0) 689 = .ok (.iaload, 1) := by decide +kernel
theorem d0_690 : decode (zz_c 0) 690 = .ok (.invokevirtual 89, 3) := by decide +kernel
theorem d0_693 : decode (zz_c 0) 693 = .ok (.if_icmp .eq 403, 3) := by decide +kernel
theorem d0_696 : decode (zz_c 0) 696 = .ok (.iconst 0, 1) := by decide +kernel
theorem d0_697 : decode (zz_c 0) 697 = .ok (.ireturn, 1) := by decide +kernel
theorem d0_698 : decode (zz_c 0) 698 = .ok (.aload_n 1, 1) := by decide +kernel
theorem d0_699 : decode (zz_c 0) 699 = .ok (.aload_n 0, 1) := by decide +kernel
theorem d0_700 : decode (zz_c 0) 700 = .ok (.iload_n 3, 1) := by decide +kernel
theorem d0_701 : decode (zz_c 0) 701 = .ok (.iconst 1, 1) := by decide +kernel
theorem d0_702 : decode (zz_c 0) 702 = .ok (.iadd, 1) := by decide +kernel
theorem d0_703 : decode (zz_c 0) 703 = .ok (.iaload, 1) := by decide +kernel
theorem d0_704 : decode (zz_c 0) 704 = .ok (.aload_n 0, 1) := by decide +kernel
theorem d0_705 : decode (zz_c 0) 705 = .ok (.iload_n 3, 1) := by decide +kernel
theorem d0_706 : decode (zz_c 0) 706 = .ok (.iconst 2, 1) := by decide +kernel
theorem d0_707 : decode (zz_c 0) 707 = .ok (.iadd, 1) := by decide +kernel
theorem d0_708 : decode (zz_c 0) 708 = .ok (.iaload, 1) := by decide +kernel
theorem d0_709 : decode (zz_c 0) 709 = .ok (.aload_n 0, 1) := by decide +kernel
theorem d0_710 : decode (zz_c 0) 710 = .ok (.iload_n 3, 1) := by decide +kernel
theorem d0_711 : decode (zz_c 0) 711 = .ok (.iconst 3, 1) := by decide +kernel
theorem d0_712 : decode (zz_c 0) 712 = .ok (.iadd, 1) := by decide +kernel
theorem d0_713 : decode (zz_c 0) 713 = .ok (.iaload, 1) := by decide +kernel
theorem d0_714 : decode (zz_c 0) 714 = .ok (.invokevirtual 90, 3) := by decide +kernel
theorem d0_717 : decode (zz_c 0) 717 = .ok (.aload_n 2, 1) := by decide +kernel
theorem d0_718 : decode (zz_c 0) 718 = .ok (.aload_n 0, 1) := by decide +kernel
theorem d0_719 : decode (zz_c 0) 719 = .ok (.iload_n 3, 1) := by decide +kernel
theorem d0_720 : decode (zz_c 0) 720 = .ok (.iconst 1, 1) := by decide +kernel
theorem d0_721 : decode (zz_c 0) 721 = .ok (.iadd, 1) := by decide +kernel
theorem d0_722 : decode (zz_c 0) 722 = .ok (.iaload, 1) := by decide +kernel
theorem d0_723 : decode (zz_c 0) 723 = .ok (.aload_n 0, 1) := by decide +kernel
theorem d0_724 : decode (zz_c 0) 724 = .ok (.iload_n 3, 1) := by decide +kernel
theorem d0_725 : decode (zz_c 0) 725 = .ok (.iconst 2, 1) := by decide +kernel
theorem d0_726 : decode (zz_c 0) 726 = .ok (.iadd, 1) := by decide +kernel
theorem d0_727 : decode (zz_c 0) 727 = .ok (.iaload, 1) := by decide +kernel
theorem d0_728 : decode (zz_c 0) 728 = .ok (.aload_n 0, 1) := by decide +kernel
theorem d0_729 : decode (zz_c 0) 729 = .ok (.iload_n 3, 1) := by decide +kernel
theorem d0_730 : decode (zz_c 0) 730 = .ok (.iconst 3, 1) := by decide +kernel
theorem d0_731 : decode (zz_c 0) 731 = .ok (.iadd, 1) := by decide +kernel
theorem d0_732 : decode (zz_c 0) 732 = .ok (.iaload, 1) := by decide +kernel
theorem d0_733 : decode (zz_c 0) 733 = .ok (.invokevirtual 94, 3) := by decide +kernel
theorem d0_736 : decode (zz_c 0) 736 = .ok (.if_icmp .eq 360, 3) := by decide +kernel
theorem d0_739 : decode (zz_c 0) 739 = .ok (.iconst 0, 1) := by decide +kernel
theorem d0_740 : decode (zz_c 0) 740 = .ok (.ireturn, 1) := by decide +kernel
theorem d0_741 : decode (zz_c 0) 741 = .ok (.aload_n 1, 1) := by decide +kernel
theorem d0_742 : decode (zz_c 0) 742 = .ok (.aload_n 0, 1) := by decide +kernel
theorem d0_743 : decode (zz_c 0) 743 = .ok (.iload_n 3, 1) := by decide +kernel
theorem d0_744 : decode (zz_c 0) 744 = .ok (.iconst 1, 1) := by decide +kernel
theorem d0_745 : decode (zz_c 0) 745 = .ok (.iadd, 1) := by decide +kernel
theorem d0_746 : decode (zz_c 0) 746 = .ok (.iaload, 1) := by decide +kernel
theorem d0_747 : decode (zz_c 0) 747 = .ok (.aload_n 0, 1) := by decide +kernel
theorem d0_748 : decode (zz_c 0) 748 = .ok (.iload_n 3, 1) := by decide +kernel
theorem d0_749 : decode (zz_c 0) 749 = .ok (.iconst 2, 1) := by decide +kernel
theorem d0_750 : decode (zz_c 0) 750 = .ok (.iadd, 1) := by decide +kernel
theorem d0_751 : decode (zz_c 0) 751 = .ok (.iaload, 1) := by decide +kernel
theorem d0_752 : decode (zz_c 0) 752 = .ok (.invokevirtual 95, 3) := by decide +kernel
theorem d0_755 : decode (zz_c 0) 755 = .ok (.aload_n 2, 1) := by decide +kernel
theorem d0_756 : decode (zz_c 0) 756 = .ok (.aload_n 0, 1) := by decide +kernel
theorem d0_757 : decode (zz_c 0) 757 = .ok (.iload_n 3, 1) := by decide +kernel
theorem d0_758 : decode (zz_c 0) 758 = .ok (.iconst 1, 1) := by decide +kernel
theorem d0_759 : decode (zz_c 0) 759 = .ok (.iadd, 1) := by decide +kernel
theorem d0_760 : decode (zz_c 0) 760 = .ok (.iaload, 1) := by decide +kernel
theorem d0_761 : decode (zz_c 0) 761 = .ok (.aload_n 0, 1) := by decide +kernel
theorem d0_762 : decode (zz_c 0) 762 = .ok (.iload_n 3, 1) := by decide +kernel
theorem d0_763 : decode (zz_c 0) 763 = .ok (.iconst 2, 1) := by decide +kernel
theorem d0_764 : decode (zz_c 0) 764 = .ok (.iadd, 1) := by decide +kernel
theorem d0_765 : decode (zz_c 0) 765 = .ok (.iaload, 1) := by decide +kernel
theorem d0_766 : decode (zz_c 0) 766 = .ok (.invokevirtual 98, 3) := by decide +kernel
theorem d0_769 : decode (zz_c 0) 769 = .ok (.if_icmp .eq 327, 3) := by decide +kernel
theorem d0_772 : decode (zz_c 0) 772 = .ok (.iconst 0, 1) := by decide +kernel
theorem d0_773 : decode (zz_c 0) 773 = .ok (.ireturn, 1) := by decide +kernel
theorem d0_774 : decode (zz_c 0) 774 = .ok (.aload_n 1, 1) := by decide +kernel
theorem d0_775 : decode (zz_c 0) 775 = .ok (.aload_n 0, 1) := by decide +kernel
theorem d0_776 : decode (zz_c 0) 776 = .ok (.iload_n 3, 1) := by decide +kernel
theorem d0_777 : decode (zz_c 0) 777 = .ok (.iconst 1, 1) := by decide +kernel
theorem d0_778 : decode (zz_c 0) 778 = .ok (.iadd, 1) := by decide +kernel
theorem d0_779 : decode (zz_c 0) 779 = .ok (.iaload, 1) := by decide +kernel
theorem d0_780 : decode (zz_c 0) 780 = .ok (.aload_n 0, 1) := by decide +kernel
theorem d0_781 : decode (zz_c 0) 781 = .ok (.iload_n 3, 1) := by decide +kernel
theorem d0_782 : decode (zz_c 0) 782 = .ok (.iconst 2, 1) := by decide +kernel
theorem d0_783 : decode (zz_c 0) 783 = .ok (.iadd, 1) := by decide +kernel
theorem d0_784 : decode (zz_c 0) 784 = .ok (.iaload, 1) := by decide +kernel
theorem d0_785 : decode (zz_c 0) 785 = .ok (.invokevirtual 99, 3) := by decide +kernel
theorem d0_788 : decode (zz_c 0) 788 = .ok (.aload_n 2, 1) := by decide +kernel
theorem d0_789 : decode (zz_c 0) 789 = .ok (.aload_n 0, 1) := by decide +kernel
theorem d0_790 : decode (zz_c 0) 790 = .ok (.iload_n 3, 1) := by decide +kernel
theorem d0_791 : decode (zz_c 0) 791 = .ok (.iconst 1, 1) := by decide +kernel
theorem d0_792 : decode (zz_c 0) 792 = .ok (.iadd, 1) := by decide +kernel
theorem d0_793 : decode (zz_c 0) 793 = .ok (.iaload, 1) := by decide +kernel
theorem d0_794 : decode (zz_c 0) 794 = .ok (.aload_n 0, 1) := by decide +kernel
theorem d0_795 : decode (zz_c 0) 795 = .ok (.iload_n 3, 1) := by decide +kernel
theorem d0_796 : decode (zz_c 0) 796 = .ok (.iconst 2, 1) := by decide +kernel
theorem d0_797 : decode (zz_c 0) 797 = .ok (.iadd, 1) := by decide +kernel
theorem d0_798 : decode (zz_c 0) 798 = .ok (.iaload, 1) := by decide +kernel
theorem d0_799 : decode (zz_c 0) 799 = .ok (.invokevirtual 103, 3) := by decide +kernel
theorem d0_802 : decode (zz_c 0) 802 = .ok (.if_icmp .eq 294, 3) := by decide +kernel
theorem d0_805 : decode (zz_c 0) 805 = .ok (.iconst 0, 1) := by decide +kernel
theorem d0_806 : decode (zz_c 0) 806 = .ok (.ireturn, 1) := by decide +kernel
theorem d0_807 : decode (zz_c 0) 807 = .ok (.aload_n 1, 1) := by decide +kernel
theorem d0_808 : decode (zz_c 0) 808 = .ok (.aload_n 0, 1) := by decide +kernel
theorem d0_809 : decode (zz_c 0) 809 = .ok (.iload_n 3, 1) := by decide +kernel
theorem d0_810 : decode (zz_c 0) 810 = .ok (.iconst 1, 1) := by decide +kernel
theorem d0_811 : decode (zz_c 0) 811 = .ok (.iadd, 1) := by decide +kernel
theorem d0_812 : decode (zz_c 0) 812 = .ok (.iaload, 1) := by decide +kernel
theorem d0_813 : decode (zz_c 0) 813 = .ok (.aload_n 0, 1) := by decide +kernel
theorem d0_814 : decode (zz_c 0) 814 = .ok (.iload_n 3, 1) := by decide +kernel
theorem d0_815 : decode (zz_c 0) 815 = .ok (.iconst 2, 1) := by decide +kernel
theorem d0_816 : decode (zz_c 0) 816 = .ok (.iadd, 1) := by decide +kernel
theorem d0_817 : decode (zz_c 0) 817 = .ok (.iaload, 1) := by decide +kernel
theorem d0_818 : decode (zz_c 0) 818 = .ok (.ifCond .eq 7, 3) := by decide +kernel
theorem d0_821 : decode (zz_c 0) 821 = .ok (.iconst 1, 1) := by decide +kernel
theorem d0_822 : decode (zz_c 0) 822 = .ok (.goto 4, 3) := by decide +kernel
theorem d0_825 : decode (zz_c 0) 825 = .ok (.iconst 0, 1) := by decide +kernel
theorem d0_826 : decode (zz_c 0) 826 = .ok (.invokevirtual 104, 3) := by decide +kernel
theorem d0_829 : decode (zz_c 0) 829 = .ok (.aload_n 2, 1) := by decide +kernel
theorem d0_830 : decode (zz_c 0) 830 = .ok (.aload_n 0, 1) := by decide +kernel
theorem d0_831 : decode (zz_c 0) 831 = .ok (.iload_n 3, 1) := by decide +kernel
theorem d0_832 : decode (zz_c 0) 832 = .ok (.iconst 1, 1) := by decide +kernel
theorem d0_833 : decode (zz_c 0) 833 = .ok (.iadd, 1) := by decide +kernel
theorem d0_834 : decode (zz_c 0) 834 = .ok (.iaload, 1) := by decide +kernel
theorem d0_835 : decode (zz_c 0) 835 = .ok (.aload_n 0, 1) := by decide +kernel
theorem d0_836 : decode (zz_c 0) 836 = .ok (.iload_n 3, 1) := by decide +kernel
theorem d0_837 : decode (zz_c 0) 837 = .ok (.iconst 2, 1) := by decide +kernel
theorem d0_838 : decode (zz_c 0) 838 = .ok (.iadd, 1) := by decide +kernel
theorem d0_839 : decode (zz_c 0) 839 = .ok (.iaload, 1) := by decide +kernel
theorem d0_840 : decode (zz_c 0) 840 = .ok (.ifCond .eq 7, 3) := by decide +kernel
theorem d0_843 : decode (zz_c 0) 843 = .ok (.iconst 1, 1) := by decide +kernel
theorem d0_844 : decode (zz_c 0) 844 = .ok (.goto 4, 3) := by decide +kernel
theorem d0_847 : decode (zz_c 0) 847 = .ok (.iconst 0, 1) := by decide +kernel
theorem d0_848 : decode (zz_c 0) 848 = .ok (.invokevirtual 107, 3) := by decide +kernel
theorem d0_851 : decode (zz_c 0) 851 = .ok (.if_icmp .eq 245, 3) := by decide +kernel
theorem d0_854 : decode (zz_c 0) 854 = .ok (.iconst 0, 1) := by decide +kernel
theorem d0_855 : decode (zz_c 0) 855 = .ok (.ireturn, 1) := by decide +kernel
theorem d0_856 : decode (zz_c 0) 856 = .ok (.aload_n 1, 1) := by decide +kernel
theorem d0_857 : decode (zz_c 0) 857 = .ok (.aload_n 0, 1) := by decide +kernel
theorem d0_858 : decode (zz_c 0) 858 = .ok (.iload_n 3, 1) := by decide +kernel
theorem d0_859 : decode (zz_c 0) 859 = .ok (.iconst 1, 1) := by decide +kernel
theorem d0_860 : decode (zz_c 0) 860 = .ok (.iadd, 1) := by decide +kernel
theorem d0_861 : decode (zz_c 0) 861 = .ok (.iaload, 1) := by decide +kernel
theorem d0_862 : decode (zz_c 0) 862 = .ok (.aload_n 0, 1) := by decide +kernel
theorem d0_863 : decode (zz_c 0) 863 = .ok (.iload_n 3, 1) := by decide +kernel
theorem d0_864 : decode (zz_c 0) 864 = .ok (.iconst 2, 1) := by decide +kernel
theorem d0_865 : decode (zz_c 0) 865 = .ok (.iadd, 1) := by decide +kernel
theorem d0_866 : decode (zz_c 0) 866 = .ok (.iaload, 1) := by decide +kernel
theorem d0_867 : decode (zz_c 0) 867 = .ok (.ifCond .eq 7, 3) := by decide +kernel
theorem d0_870 : decode (zz_c 0) 870 = .ok (.iconst 1, 1) := by decide +kernel
theorem d0_871 : decode (zz_c 0) 871 = .ok (.goto 4, 3) := by decide +kernel
theorem d0_874 : decode (zz_c 0) 874 = .ok (.iconst 0, 1) := by decide +kernel
theorem d0_875 : decode (zz_c 0) 875 = .ok (.invokevirtual 108, 3) := by decide +kernel
theorem d0_878 : decode (zz_c 0) 878 = .ok (.aload_n 2, 1) := by decide +kernel
theorem d0_879 : decode (zz_c 0) 879 = .ok (.aload_n 0, 1) := by decide +kernel
theorem d0_880 : decode (zz_c 0) 880 = .ok (.iload_n 3, 1) := by decide +kernel
theorem d0_881 : decode (zz_c 0) 881 = .ok (.iconst 1, 1) := by decide +kernel
theorem d0_882 : decode (zz_c 0) 882 = .ok (.iadd, 1) := by decide +kernel
theorem d0_883 : decode (zz_c 0) 883 = .ok (.iaload, 1) := by decide +kernel
theorem d0_884 : decode (zz_c 0) 884 = .ok (.aload_n 0, 1) := by decide +kernel
theorem d0_885 : decode (zz_c 0) 885 = .ok (.iload_n 3, 1) := by decide +kernel
theorem d0_886 : decode (zz_c 0) 886 = .ok (.iconst 2, 1) := by decide +kernel
theorem d0_887 : decode (zz_c 0) 887 = .ok (.iadd, 1) := by decide +kernel
theorem d0_888 : decode (zz_c 0) 888 = .ok (.iaload, 1) := by decide +kernel
theorem d0_889 : decode (zz_c 0) 889 = .ok (.ifCond .eq 7, 3) := by decide +kernel
theorem d0_892 : decode (zz_c 0) 892 = .ok (.iconst 1, 1) := by decide +kernel
theorem d0_893 : decode (zz_c 0) 893 = .ok (.goto 4, 3) := by decide +kernel
theorem d0_896 : decode (zz_c 0) 896 = .ok (.iconst 0, 1) := by decide +kernel
theorem d0_897 : decode (zz_c 0) 897 = .ok (.invokevirtual 111, 3) := by decide +kernel
theorem d0_900 : decode (zz_c 0) 900 = .ok (.if_icmp .eq 196, 3) := by decide +kernel
theorem d0_903 : decode (zz_c 0) 903 = .ok (.iconst 0, 1) := by decide +kernel
theorem d0_904 : decode (zz_c 0) 904 = .ok (.ireturn, 1) := by decide +kernel
theorem d0_905 : decode (zz_c 0) 905 = .ok (.aload_n 1, 1) := by decide +kernel
theorem d0_906 : decode (zz_c 0) 906 = .ok (.aload_n 0, 1) := by decide +kernel
theorem d0_907 : decode (zz_c 0) 907 = .ok (.iload_n 3, 1) := by decide +kernel
theorem d0_908 : decode (zz_c 0) 908 = .ok (.iconst 1, 1) := by decide +kernel
theorem d0_909 : decode (zz_c 0) 909 = .ok (.iadd, 1) := by decide +kernel
theorem d0_910 : decode (zz_c 0) 910 = .ok (.iaload, 1) := by decide +kernel
theorem d0_911 : decode (zz_c 0) 911 = .ok (.aload_n 0, 1) := by decide +kernel
theorem d0_912 : decode (zz_c 0) 912 = .ok (.iload_n 3, 1) := by decide +kernel
theorem d0_913 : decode (zz_c 0) 913 = .ok (.iconst 2, 1) := by decide +kernel
theorem d0_914 : decode (zz_c 0) 914 = .ok (.iadd, 1) := by decide +kernel
theorem d0_915 : decode (zz_c 0) 915 = .ok (.iaload, 1) := by decide +kernel
theorem d0_916 : decode (zz_c 0) 916 = .ok (.aload_n 0, 1) := by decide +kernel
theorem d0_917 : decode (zz_c 0) 917 = .ok (.iload_n 3, 1) := by decide +kernel
theorem d0_918 : decode (zz_c 0) 918 = .ok (.iconst 3, 1) := by decide +kernel
theorem d0_919 : decode (zz_c 0) 919 = .ok (.iadd, 1) := by decide +kernel
theorem d0_920 : decode (zz_c 0) 920 = .ok (.iaload, 1) := by decide +kernel
theorem d0_921 : decode (zz_c 0) 921 = .ok (.invokevirtual 112, 3) := by decide +kernel
theorem d0_924 : decode (zz_c 0) 924 = .ok (.aload_n 2, 1) := by decide +kernel
theorem d0_925 : decode (zz_c 0) 925 = .ok (.aload_n 0, 1) := by decide +kernel
theorem d0_926 : decode (zz_c 0) 926 = .ok (.iload_n 3, 1) := by decide +kernel
theorem d0_927 : decode (zz_c 0) 927 = .ok (.iconst 1, 1) := by decide +kernel
theorem d0_928 : decode (zz_c 0) 928 = .ok (.iadd, 1) := by decide +kernel
theorem d0_929 : decode (zz_c 0) 929 = .ok (.iaload, 1) := by decide +kernel
theorem d0_930 : decode (zz_c 0) 930 = .ok (.aload_n 0, 1) := by decide +kernel
theorem d0_931 : decode (zz_c 0) 931 = .ok (.iload_n 3, 1) := by decide +kernel
theorem d0_932 : decode (zz_c 0) 932 = .ok (.iconst 2, 1) := by decide +kernel
theorem d0_933 : decode (zz_c 0) 933 = .ok (.iadd, 1) := by decide +kernel
theorem d0_934 : decode (zz_c 0) 934 = .ok (.iaload, 1) := by decide +kernel
theorem d0_935 : decode (zz_c 0) 935 = .ok (.aload_n 0, 1) := by decide +kernel
theorem d0_936 : decode (zz_c 0) 936 = .ok (.iload_n 3, 1) := by decide +kernel
theorem d0_937 : decode (zz_c 0) 937 = .ok (.iconst 3, 1) := by decide +kernel
theorem d0_938 : decode (zz_c 0) 938 = .ok (.iadd, 1) := by decide +kernel
theorem d0_939 : decode (zz_c 0) 939 = .ok (.iaload, 1) := by decide +kernel
theorem d0_940 : decode (zz_c 0) 940 = .ok (.invokevirtual 115, 3) := by decide +kernel
theorem d0_943 : decode (zz_c 0) 943 = .ok (.if_icmp .eq 153, 3) := by decide +kernel
theorem d0_946 : decode (zz_c 0) 946 = .ok (.iconst 0, 1) := by decide +kernel
theorem d0_947 : decode (zz_c 0) 947 = .ok (.ireturn, 1) := by decide +kernel
theorem d0_948 : decode (zz_c 0) 948 = .ok (.aload_n 1, 1) := by decide +kernel
theorem d0_949 : decode (zz_c 0) 949 = .ok (.aload_n 0, 1) := by decide +kernel
theorem d0_950 : decode (zz_c 0) 950 = .ok (.iload_n 3, 1) := by decide +kernel
theorem d0_951 : decode (zz_c 0) 951 = .ok (.iconst 1, 1) := by decide +kernel
theorem d0_952 : decode (zz_c 0) 952 = .ok (.iadd, 1) := by decide +kernel
theorem d0_953 : decode (zz_c 0) 953 = .ok (.iaload, 1) := by decide +kernel
theorem d0_954 : decode (zz_c 0) 954 = .ok (.invokevirtual 116, 3) := by decide +kernel
theorem d0_957 : decode (zz_c 0) 957 = .ok (.aload_n 2, 1) := by decide +kernel
theorem d0_958 : decode (zz_c 0) 958 = .ok (.aload_n 0, 1) := by decide +kernel
theorem d0_959 : decode (zz_c 0) 959 = .ok (.iload_n 3, 1) := by decide +kernel
theorem d0_960 : decode (zz_c 0) 960 = .ok (.iconst 1, 1) := by decide +kernel
theorem d0_961 : decode (zz_c 0) 961 = .ok (.iadd, 1) := by decide +kernel
theorem d0_962 : decode (zz_c 0) 962 = .ok (.iaload, 1) := by decide +kernel
theorem d0_963 : decode (zz_c 0) 963 = .ok (.invokevirtual 119, 3) := by decide +kernel
theorem d0_966 : decode (zz_c 0) 966 = .ok (.if_icmp .eq 130, 3) := by decide +kernel
theorem d0_969 : decode (zz_c 0) 969 = .ok (.iconst 0, 1) := by decide +kernel
theorem d0_970 : decode (zz_c 0) 970 = .ok (.ireturn, 1) := by decide +kernel
theorem d0_971 : decode (zz_c 0) 971 = .ok (.aload_n 1, 1) := by decide +kernel
theorem d0_972 : decode (zz_c 0) 972 = .ok (.aload_n 0, 1) := by decide +kernel
theorem d0_973 : decode (zz_c 0) 973 = .ok (.iload_n 3, 1) := by decide +kernel
theorem d0_974 : decode (zz_c 0) 974 = .ok (.iconst 1, 1) := by decide +kernel
theorem d0_975 : decode (zz_c 0) 975 = .ok (.iadd, 1) := by decide +kernel
theorem d0_976 : decode (zz_c 0) 976 = .ok (.iaload, 1) := by decide +kernel
theorem d0_977 : decode (zz_c 0) 977 = .ok (.aload_n 0, 1) := by decide +kernel
theorem d0_978 : decode (zz_c 0) 978 = .ok (.iload_n 3, 1) := by decide +kernel
theorem d0_979 : decode (zz_c 0) 979 = .ok (.iconst 2, 1) := by decide +kernel
theorem d0_980 : decode (zz_c 0) 980 = .ok (.iadd, 1) := by decide +kernel
theorem d0_981 : decode (zz_c 0) 981 = .ok (.iaload, 1) := by decide +kernel
theorem d0_982 : decode (zz_c 0) 982 = .ok (.invokevirtual 120, 3) := by decide +kernel
theorem d0_985 : decode (zz_c 0) 985 = .ok (.aload_n 2, 1) := by decide +kernel
theorem d0_986 : decode (zz_c 0) 986 = .ok (.aload_n 0, 1) := by decide +kernel
theorem d0_987 : decode (zz_c 0) 987 = .ok (.iload_n 3, 1) := by decide +kernel
theorem d0_988 : decode (zz_c 0) 988 = .ok (.iconst 1, 1) := by decide +kernel
theorem d0_989 : decode (zz_c 0) 989 = .ok (.iadd, 1) := by decide +kernel
theorem d0_990 : decode (zz_c 0) 990 = .ok (.iaload, 1) := by decide +kernel
theorem d0_991 : decode (zz_c 0) 991 = .ok (.aload_n 0, 1) := by decide +kernel
theorem d0_992 : decode (zz_c 0) 992 = .ok (.iload_n 3, 1) := by decide +kernel
theorem d0_993 : decode (zz_c 0) 993 = .ok (.iconst 2, 1) := by decide +kernel
theorem d0_994 : decode (zz_c 0) 994 = .ok (.iadd, 1) := by decide +kernel
theorem d0_995 : decode (zz_c 0) 995 = .ok (.iaload, 1) := by decide +kernel
theorem d0_996 : decode (zz_c 0) 996 = .ok (.invokevirtual 123, 3) := by decide +kernel
theorem d0_999 : decode (zz_c 0) 999 = .ok (.if_icmp .eq 97, 3) := by decide +kernel
theorem d0_1002 : decode (zz_c 0) 1002 = .ok (.iconst 0, 1) := by decide +kernel
theorem d0_1003 : decode (zz_c 0) 1003 = .ok (.ireturn, 1) := by decide +kernel
theorem d0_1004 : decode (zz_c 0) 1004 = .ok (.aload_n 1, 1) := by decide +kernel
theorem d0_1005 : decode (zz_c 0) 1005 = .ok (.aload_n 0, 1) := by decide +kernel
theorem d0_1006 : decode (zz_c 0) 1006 = .ok (.iload_n 3, 1) := by decide +kernel
theorem d0_1007 : decode (zz_c 0) 1007 = .ok (.iconst 1, 1) := by decide +kernel
theorem d0_1008 : decode (zz_c 0) 1008 = .ok (.iadd, 1) := by decide +kernel
theorem d0_1009 : decode (zz_c 0) 1009 = .ok (.iaload, 1) := by decide +kernel
theorem d0_1010 : decode (zz_c 0) 1010 = .ok (.invokevirtual 124, 3) := by decide +kernel
theorem d0_1013 : decode (zz_c 0) 1013 = .ok (.aload_n 2, 1) := by decide +kernel
theorem d0_1014 : decode (zz_c 0) 1014 = .ok (.aload_n 0, 1) := by decide +kernel
theorem d0_1015 : decode (zz_c 0) 1015 = .ok (.iload_n 3, 1) := by decide +kernel
theorem d0_1016 : decode (zz_c 0) 1016 = .ok (.iconst 1, 1) := by decide +kernel
theorem d0_1017 : decode (zz_c 0) 1017 = .ok (.iadd, 1) := by decide +kernel
theorem d0_1018 : decode (zz_c 0) 1018 = .ok (.iaload, 1) := by decide +kernel
theorem d0_1019 : decode (zz_c 0) 1019 = .ok (.invokevirtual 127, 3) := by decide +kernel
theorem d0_1022 : decode (zz_c 0) 1022 = .ok (.if_icmp .eq 74, 3) := by decide +kernel
theorem d0_1025 : decode (zz_c 0) 1025 = .ok (.iconst 0, 1) := by decide +kernel
theorem d0_1026 : decode (zz_c 0) 1026 = .ok (.ireturn, 1) := by decide +kernel
theorem d0_1027 : decode (zz_c 0) 1027 = .ok (.aload_n 1, 1) := by decide +kernel
theorem d0_1028 : decode (zz_c 0) 1028 = .ok (.aload_n 0, 1) := by decide +kernel
theorem d0_1029 : decode (zz_c 0) 1029 = .ok (.iload_n 3, 1) := by decide +kernel
theorem d0_1030 : decode (zz_c 0) 1030 = .ok (.iconst 1, 1) := by decide +kernel
theorem d0_1031 : decode (zz_c 0) 1031 = .ok (.iadd, 1) := by decide +kernel
theorem d0_1032 : decode (zz_c 0) 1032 = .ok (.iaload, 1) := by decide +kernel
theorem d0_1033 : decode (zz_c 0) 1033 = .ok (.invokevirtual 128, 3) := by decide +kernel
theorem d0_1036 : decode (zz_c 0) 1036 = .ok (.aload_n 2, 1) := by decide +kernel
theorem d0_1037 : decode (zz_c 0) 1037 = .ok (.aload_n 0, 1) := by decide +kernel
theorem d0_1038 : decode (zz_c 0) 1038 = .ok (.iload_n 3, 1) := by decide +kernel
theorem d0_1039 : decode (zz_c 0) 1039 = .ok (.iconst 1, 1) := by decide +kernel
theorem d0_1040 : decode (zz_c 0) 1040 = .ok (.iadd, 1) := by decide +kernel
theorem d0_1041 : decode (zz_c 0) 1041 = .ok (.iaload, 1) := by decide +kernel
theorem d0_1042 : decode (zz_c 0) 1042 = .ok (.invokevirtual 131, 3) := by decide +kernel
theorem d0_1045 : decode (zz_c 0) 1045 = .ok (.if_icmp .eq 51, 3) := by decide +kernel
theorem d0_1048 : decode (zz_c 0) 1048 = .ok (.iconst 0, 1) := by decide +kernel
theorem d0_1049 : decode (zz_c 0) 1049 = .ok (.ireturn, 1) := by decide +kernel
theorem d0_1050 : decode (zz_c 0) 1050 = .ok (.aload_n 1, 1) := by decide +kernel
theorem d0_1051 : decode (zz_c 0) 1051 = .ok (.aload_n 0, 1) := by decide +kernel
theorem d0_1052 : decode (zz_c 0) 1052 = .ok (.iload_n 3, 1) := by decide +kernel
theorem d0_1053 : decode (zz_c 0) 1053 = .ok (.iconst 1, 1) := by decide +kernel
theorem d0_1054 : decode (zz_c 0) 1054 = .ok (.iadd, 1) := by decide +kernel
theorem d0_1055 : decode (zz_c 0) 1055 = .ok (.iaload, 1) := by decide +kernel
theorem d0_1056 : decode (zz_c 0) 1056 = .ok (.invokevirtual 132, 3) := by decide +kernel
theorem d0_1059 : decode (zz_c 0) 1059 = .ok (.aload_n 2, 1) := by decide +kernel
theorem d0_1060 : decode (zz_c 0) 1060 = .ok (.aload_n 0, 1) := by decide +kernel
theorem d0_1061 : decode (zz_c 0) 1061 = .ok (.iload_n 3, 1) := by decide +kernel
theorem d0_1062 : decode (zz_c 0) 1062 = .ok (.iconst 1, 1) := by decide +kernel
theorem d0_1063 : decode (zz_c 0) 1063 = .ok (.iadd, 1) := by decide +kernel
theorem d0_1064 : decode (zz_c 0) 1064 = .ok (.iaload, 1) := by decide +kernel
theorem d0_1065 : decode (zz_c 0) 1065 = .ok (.invokevirtual 136, 3) := by decide +kernel
theorem d0_1068 : decode (zz_c 0) 1068 = .ok (.if_icmp .eq 28, 3) := by decide +kernel
theorem d0_1071 : decode (zz_c 0) 1071 = .ok (.iconst 0, 1) := by decide +kernel
theorem d0_1072 : decode (zz_c 0) 1072 = .ok (.ireturn, 1) := by decide +kernel
theorem d0_1073 : decode (zz_c 0) 1073 = .ok (.aload_n 1, 1) := by decide +kernel
theorem d0_1074 : decode (zz_c 0) 1074 = .ok (.aload_n 0, 1) := by decide +kernel
theorem d0_1075 : decode (zz_c 0) 1075 = .ok (.iload_n 3, 1) := by decide +kernel
theorem d0_1076 : decode (zz_c 0) 1076 = .ok (.iconst 1, 1) := by decide +kernel
theorem d0_1077 : decode (zz_c 0) 1077 = .ok (.iadd, 1) := by decide +kernel
theorem d0_1078 : decode (zz_c 0) 1078 = .ok (.iaload, 1) := by decide +kernel
theorem d0_1079 : decode (zz_c 0) 1079 = .ok (.invokevirtual 137, 3) := by decide +kernel
theorem d0_1082 : decode (zz_c 0) 1082 = .ok (.aload_n 2, 1) := by decide +kernel
theorem d0_1083 : decode (zz_c 0) 1083 = .ok (.aload_n 0, 1) := by decide +kernel
theorem d0_1084 : decode (zz_c 0) 1084 = .ok (.iload_n 3, 1) := by decide +kernel
theorem d0_1085 : decode (zz_c 0) 1085 = .ok (.iconst 1, 1) := by decide +kernel
theorem d0_1086 : decode (zz_c 0) 1086 = .ok (.iadd, 1) := by decide +kernel
theorem d0_1087 : decode (zz_c 0) 1087 = .ok (.iaload, 1) := by decide +kernel
theorem d0_1088 : decode (zz_c 0) 1088 = .ok (.invokevirtual 140, 3) := by decide +kernel
theorem d0_1091 : decode (zz_c 0) 1091 = .ok (.if_icmp .eq 5, 3) := by decide +kernel
theorem d0_1094 : decode (zz_c 0) 1094 = .ok (.iconst 0, 1) := by decide +kernel
theorem d0_1095 : decode (zz_c 0) 1095 = .ok (.ireturn, 1) := by decide +kernel
theorem d0_1096 : decode (zz_c 0) 1096 = .ok (.iinc 3 6, 3) := by decide +kernel
theorem d0_1099 : decode (zz_c 0) 1099 = .ok (.goto (-1081), 3) := by decide +kernel
theorem d0_1102 : decode (zz_c 0) 1102 = .ok (.iconst 1, 1) := by decide +kernel
theorem d0_1103 : decode (zz_c 0) 1103 = .ok (.ireturn, 1) := by decide +kernel
theorem x0_p0 : (∀ ls st h, zz_Y 0 (0, ls, st, h) = zz_Y 0 (3, ls, .ref h.1 :: st, hp_n h 6 (.inr (10, [.null, .null, .null, .null, .null, .null])))) ∧ (∀ ls a st h, zz_Y 0 (3, ls, .ref a :: st, h) = zz_Y 0 (4, ls, .ref a :: .ref a :: st, h)) ∧ (∀ ls a0 s0 h, zz_Y 0 (4, ls, [a0, s0], h) = mo_k 0 7 ls [s0] (zz_run 1 [a0] h)) ∧ (∀ l0 l1 l2 l3 x st h, zz_nl l0 = true → zz_Y 0 (7, [l0, l1, l2, l3], .ref x :: st, h) = zz_Y 0 (8, [l0, some (.ref x), l2, l3], st, h)) ∧ (∀ ls st h, zz_Y 0 (8, ls, st, h) = zz_Y 0 (11, ls, .ref h.1 :: st, hp_n h 26 (.inr (11, [.null, .null, .null, .int 0, .int 0, .int 0, .int 0, .null, .null, .null, .null, .null, .null, .int 0, .int 0, .int 0, .int 0, .long 0, .null, .null, .null, .null, .null, .int 0, .int 0, .int 0])))) ∧ (∀ ls a st h, zz_Y 0 (11, ls, .ref a :: st, h) = zz_Y 0 (12, ls, .ref a :: .ref a :: st, h)) ∧ (∀ ls a0 s0 h, zz_Y 0 (12, ls, [a0, s0], h) = mo_k 0 15 ls [s0] (zz_run 152 [a0] h)) ∧ (∀ l0 l1 l2 l3 x st h, zz_nl l1 = true → zz_Y 0 (15, [l0, l1, l2, l3], .ref x :: st, h) = zz_Y 0 (16, [l0, l1, some (.ref x), l3], st, h)) ∧ (∀ ls st h, zz_Y 0 (16, ls, st, h) = zz_Y 0 (17, ls, .int (nI 0) :: st, h)) ∧ (∀ l0 l1 l2 l3 x st h, zz_nl l2 = true → zz_Y 0 (17, [l0, l1, l2, l3], .int x :: st, h) = zz_Y 0 (18, [l0, l1, l2, some (.int x)], st, h)) ∧ (∀ l1 l2 l3 x st h, zz_Y 0 (19, [some (.ref x), l1, l2, l3], st, h) = zz_Y 0 (20, [some (.ref x), l1, l2, l3], .ref x :: st, h)) ∧ (∀ ls a st h, zz_Y 0 (20, ls, .ref a :: st, h) = mo_le (hp_g h a) a 0 21 ls st h) ∧ (∀ ls st h, zz_Y 0 (21, ls, st, h) = zz_Y 0 (23, ls, .int (nI 6) :: st, h)) ∧ (∀ ls a b st h, zz_Y 0 (23, ls, .int b :: .int a :: st, h) = zz_Y 0 (24, ls, .int (a - b) :: st, h)) ∧ (∀ ls a b st h, zz_Y 0 (24, ls, .int b :: .int a :: st, h) = if b < a then zz_Y 0 (1102, ls, st, h) else zz_Y 0 (27, ls, st, h)) ∧ (∀ l1 l2 l3 x st h, zz_Y 0 (27, [some (.ref x), l1, l2, l3], st, h) = zz_Y 0 (28, [some (.ref x), l1, l2, l3], .ref x :: st, h)) ∧ (∀ l0 l1 l2 x st h, zz_Y 0 (28, [l0, l1, l2, some (.int x)], st, h) = zz_Y 0 (29, [l0, l1, l2, some (.int x)], .int x :: st, h)) ∧ (∀ ls a i st h, zz_Y 0 (29, ls, .int i :: .ref a :: st, h) = mo_ia (hp_g h a) i a 0 30 ls st h) ∧ (∀ ls st h, zz_Y 0 (30, ls, st, h) = zz_Y 0 (32, ls, .int (nI 31) :: st, h)) ∧ (∀ ls a b st h, zz_Y 0 (32, ls, .int b :: .int a :: st, h) = zz_Y 0 (33, ls, .int (a &&& b) :: st, h)) ∧ (∀ ls x st h, zz_Y 0 (33, ls, .int x :: st, h) = zz_Y 0 (zz_sw [(nI 0, 168), (nI 1, 231), (nI 2, 254), (nI 3, 267), (nI 4, 280), (nI 5, 303), (nI 6, 326), (nI 7, 359), (nI 8, 382), (nI 9, 415), (nI 10, 448), (nI 11, 481), (nI 12, 514), (nI 13, 563), (nI 14, 596), (nI 15, 609), (nI 16, 632), (nI 17, 665), (nI 18, 698), (nI 19, 741), (nI 20, 774), (nI 21, 807), (nI 22, 856), (nI 23, 905), (nI 24, 948), (nI 25, 971), (nI 26, 1004), (nI 27, 1027), (nI 28, 1050), (nI 29, 1073)] 1096 x, ls, st, h)) ∧ (∀ l0 l2 l3 x st h, zz_Y 0 (168, [l0, some (.ref x), l2, l3], st, h) = zz_Y 0 (169, [l0, some (.ref x), l2, l3], .ref x :: st, h)) ∧ (∀ l1 l2 l3 x st h, zz_Y 0 (169, [some (.ref x), l1, l2, l3], st, h) = zz_Y 0 (170, [some (.ref x), l1, l2, l3], .ref x :: st, h)) ∧ (∀ l0 l1 l2 x st h, zz_Y 0 (170, [l0, l1, l2, some (.int x)], st, h) = zz_Y 0 (171, [l0, l1, l2, some (.int x)], .int x :: st, h)) ∧ (∀ ls st h, zz_Y 0 (171, ls, st, h) = zz_Y 0 (172, ls, .int (nI 1) :: st, h)) ∧ (∀ ls a b st h, zz_Y 0 (172, ls, .int b :: .int a :: st, h) = zz_Y 0 (173, ls, .int (a + b) :: st, h)) ∧ (∀ ls a i st h, zz_Y 0 (173, ls, .int i :: .ref a :: st, h) = mo_ia (hp_g h a) i a 0 174 ls st h) ∧ (∀ l1 l2 l3 x st h, zz_Y 0 (174, [some (.ref x), l1, l2, l3], st, h) = zz_Y 0 (175, [some (.ref x), l1, l2, l3], .ref x :: st, h)) ∧ (∀ l0 l1 l2 x st h, zz_Y 0 (175, [l0, l1, l2, some (.int x)], st, h) = zz_Y 0 (176, [l0, l1, l2, some (.int x)], .int x :: st, h)) ∧ (∀ ls st h, zz_Y 0 (176, ls, st, h) = zz_Y 0 (177, ls, .int (nI 2) :: st, h)) ∧ (∀ ls a b st h, zz_Y 0 (177, ls, .int b :: .int a :: st, h) = zz_Y 0 (178, ls, .int (a + b) :: st, h)) ∧ (∀ ls a i st h, zz_Y 0 (178, ls, .int i :: .ref a :: st, h) = mo_ia (hp_g h a) i a 0 179 ls st h) ∧ (∀ l1 l2 l3 x st h, zz_Y 0 (179, [some (.ref x), l1, l2, l3], st, h) = zz_Y 0 (180, [some (.ref x), l1, l2, l3], .ref x :: st, h)) ∧ (∀ l0 l1 l2 x st h, zz_Y 0 (180, [l0, l1, l2, some (.int x)], st, h) = zz_Y 0 (181, [l0, l1, l2, some (.int x)], .int x :: st, h)) ∧ (∀ ls st h, zz_Y 0 (181, ls, st, h) = zz_Y 0 (182, ls, .int (nI 3) :: st, h)) ∧ (∀ ls a b st h, zz_Y 0 (182, ls, .int b :: .int a :: st, h) = zz_Y 0 (183, ls, .int (a + b) :: st, h)) ∧ (∀ ls a i st h, zz_Y 0 (183, ls, .int i :: .ref a :: st, h) = mo_ia (hp_g h a) i a 0 184 ls st h) ∧ (∀ l1 l2 l3 x st h, zz_Y 0 (184, [some (.ref x), l1, l2, l3], st, h) = zz_Y 0 (185, [some (.ref x), l1, l2, l3], .ref x :: st, h)) ∧ (∀ l0 l1 l2 x st h, zz_Y 0 (185, [l0, l1, l2, some (.int x)], st, h) = zz_Y 0 (186, [l0, l1, l2, some (.int x)], .int x :: st, h)) ∧ (∀ ls st h, zz_Y 0 (186, ls, st, h) = zz_Y 0 (187, ls, .int (nI 4) :: st, h)) ∧ (∀ ls a b st h, zz_Y 0 (187, ls, .int b :: .int a :: st, h) = zz_Y 0 (188, ls, .int (a + b) :: st, h)) ∧ (∀ ls a i st h, zz_Y 0 (188, ls, .int i :: .ref a :: st, h) = mo_ia (hp_g h a) i a 0 189 ls st h) ∧ (∀ l1 l2 l3 x st h, zz_Y 0 (189, [some (.ref x), l1, l2, l3], st, h) = zz_Y 0 (190, [some (.ref x), l1, l2, l3], .ref x :: st, h)) ∧ (∀ l0 l1 l2 x st h, zz_Y 0 (190, [l0, l1, l2, some (.int x)], st, h) = zz_Y 0 (191, [l0, l1, l2, some (.int x)], .int x :: st, h)) ∧ (∀ ls st h, zz_Y 0 (191, ls, st, h) = zz_Y 0 (192, ls, .int (nI 5) :: st, h)) ∧ (∀ ls a b st h, zz_Y 0 (192, ls, .int b :: .int a :: st, h) = zz_Y 0 (193, ls, .int (a + b) :: st, h)) ∧ (∀ ls a i st h, zz_Y 0 (193, ls, .int i :: .ref a :: st, h) = mo_ia (hp_g h a) i a 0 194 ls st h) ∧ (∀ ls a0 a1 a2 a3 a4 a5 h, zz_Y 0 (194, ls, [a5, a4, a3, a2, a1, a0], h) = mo_k 0 197 ls [] (zz_run 13 [a0, a1, a2, a3, a4, a5] h)) ∧ (∀ l0 l1 l3 x st h, zz_Y 0 (197, [l0, l1, some (.ref x), l3], st, h) = zz_Y 0 (198, [l0, l1, some (.ref x), l3], .ref x :: st, h)) ∧ (∀ l1 l2 l3 x st h, zz_Y 0 (198, [some (.ref x), l1, l2, l3], st, h) = zz_Y 0 (199, [some (.ref x), l1, l2, l3], .ref x :: st, h)) ∧ (∀ l0 l1 l2 x st h, zz_Y 0 (199, [l0, l1, l2, some (.int x)], st, h) = zz_Y 0 (200, [l0, l1, l2, some (.int x)], .int x :: st, h)) ∧ (∀ ls st h, zz_Y 0 (200, ls, st, h) = zz_Y 0 (201, ls, .int (nI 1) :: st, h)) ∧ (∀ ls a b st h, zz_Y 0 (201, ls, .int b :: .int a :: st, h) = zz_Y 0 (202, ls, .int (a + b) :: st, h)) ∧ (∀ ls a i st h, zz_Y 0 (202, ls, .int i :: .ref a :: st, h) = mo_ia (hp_g h a) i a 0 203 ls st h) ∧ (∀ l1 l2 l3 x st h, zz_Y 0 (203, [some (.ref x), l1, l2, l3], st, h) = zz_Y 0 (204, [some (.ref x), l1, l2, l3], .ref x :: st, h)) ∧ (∀ l0 l1 l2 x st h, zz_Y 0 (204, [l0, l1, l2, some (.int x)], st, h) = zz_Y 0 (205, [l0, l1, l2, some (.int x)], .int x :: st, h)) ∧ (∀ ls st h, zz_Y 0 (205, ls, st, h) = zz_Y 0 (206, ls, .int (nI 2) :: st, h)) ∧ (∀ ls a b st h, zz_Y 0 (206, ls, .int b :: .int a :: st, h) = zz_Y 0 (207, ls, .int (a + b) :: st, h)) ∧ (∀ ls a i st h, zz_Y 0 (207, ls, .int i :: .ref a :: st, h) = mo_ia (hp_g h a) i a 0 208 ls st h) ∧ (∀ l1 l2 l3 x st h, zz_Y 0 (208, [some (.ref x), l1, l2, l3], st, h) = zz_Y 0 (209, [some (.ref x), l1, l2, l3], .ref x :: st, h)) :=
  ⟨fun _ _ _ => xl_new d0_0 xco0 (by decide +kernel) rfl rfl (by decide +kernel),
   fun _ _ _ _ => xl_dupr d0_3,
   fun ls a0 s0 h => xl_ci (As := [a0]) (st := [s0]) d0_4 xco0 xm_13_9 (congrArg Nat.succ xnp1) (by decide +kernel) rfl,
   fun _ _ _ _ _ _ _ hc => xl_asn d0_7 xml0 (by decide) (zz_nl_s1 hc),
   fun _ _ _ => xl_new d0_8 xco0 (by decide +kernel) rfl rfl (by decide +kernel),
   fun _ _ _ _ => xl_dupr d0_11,
   fun ls a0 s0 h => xl_ci (As := [a0]) (st := [s0]) d0_12 xco0 xm_13_12 (congrArg Nat.succ xnp152) (by decide +kernel) rfl,
   fun _ _ _ _ _ _ _ hc => xl_asn d0_15 xml0 (by decide) (zz_nl_s1 hc),
   fun _ _ _ => xl_ic d0_16 (by decide +kernel),
   fun _ _ _ _ _ _ _ hc => xl_isn d0_17 xml0 (by decide) (zz_nl_s1 hc),
   fun _ _ _ _ _ _ => xl_aln d0_19 rfl,
   fun _ _ _ _ => xl_le d0_20,
   fun _ _ _ => xl_bi d0_21 (by decide +kernel),
   fun _ _ _ _ _ => xl_isub d0_23,
   fun _ _ _ _ _ => xl_icgt d0_24 rfl,
   fun _ _ _ _ _ _ => xl_aln d0_27 rfl,
   fun _ _ _ _ _ _ => xl_iln d0_28 rfl,
   fun _ _ _ _ _ => xl_ia d0_29,
   fun _ _ _ => xl_bi d0_30 (by decide +kernel),
   fun _ _ _ _ _ => xl_iand d0_32,
   fun _ _ _ _ => xl_tbs (qs := [(nI 0, 168), (nI 1, 231), (nI 2, 254), (nI 3, 267), (nI 4, 280), (nI 5, 303), (nI 6, 326), (nI 7, 359), (nI 8, 382), (nI 9, 415), (nI 10, 448), (nI 11, 481), (nI 12, 514), (nI 13, 563), (nI 14, 596), (nI 15, 609), (nI 16, 632), (nI 17, 665), (nI 18, 698), (nI 19, 741), (nI 20, 774), (nI 21, 807), (nI 22, 856), (nI 23, 905), (nI 24, 948), (nI 25, 971), (nI 26, 1004), (nI 27, 1027), (nI 28, 1050), (nI 29, 1073)]) d0_33 rfl (by decide +kernel) (by decide +kernel) (by decide +kernel),
   fun _ _ _ _ _ _ => xl_aln d0_168 rfl,
   fun _ _ _ _ _ _ => xl_aln d0_169 rfl,
   fun _ _ _ _ _ _ => xl_iln d0_170 rfl,
   fun _ _ _ => xl_ic d0_171 (by decide +kernel),
   fun _ _ _ _ _ => xl_iadd d0_172,
   fun _ _ _ _ _ => xl_ia d0_173,
   fun _ _ _ _ _ _ => xl_aln d0_174 rfl,
   fun _ _ _ _ _ _ => xl_iln d0_175 rfl,
   fun _ _ _ => xl_ic d0_176 (by decide +kernel),
   fun _ _ _ _ _ => xl_iadd d0_177,
   fun _ _ _ _ _ => xl_ia d0_178,
   fun _ _ _ _ _ _ => xl_aln d0_179 rfl,
   fun _ _ _ _ _ _ => xl_iln d0_180 rfl,
   fun _ _ _ => xl_ic d0_181 (by decide +kernel),
   fun _ _ _ _ _ => xl_iadd d0_182,
   fun _ _ _ _ _ => xl_ia d0_183,
   fun _ _ _ _ _ _ => xl_aln d0_184 rfl,
   fun _ _ _ _ _ _ => xl_iln d0_185 rfl,
   fun _ _ _ => xl_ic d0_186 (by decide +kernel),
   fun _ _ _ _ _ => xl_iadd d0_187,
   fun _ _ _ _ _ => xl_ia d0_188,
   fun _ _ _ _ _ _ => xl_aln d0_189 rfl,
   fun _ _ _ _ _ _ => xl_iln d0_190 rfl,
   fun _ _ _ => xl_ic d0_191 (by decide +kernel),
   fun _ _ _ _ _ => xl_iadd d0_192,
   fun _ _ _ _ _ => xl_ia d0_193,
   fun ls a0 a1 a2 a3 a4 a5 h => xl_cv (As := [a0, a1, a2, a3, a4, a5]) (st := []) d0_194 xco0 xm_13_13 (congrArg Nat.succ xnp13) (by decide +kernel) rfl,
   fun _ _ _ _ _ _ => xl_aln d0_197 rfl,
   fun _ _ _ _ _ _ => xl_aln d0_198 rfl,
   fun _ _ _ _ _ _ => xl_iln d0_199 rfl,
   fun _ _ _ => xl_ic d0_200 (by decide +kernel),
   fun _ _ _ _ _ => xl_iadd d0_201,
   fun _ _ _ _ _ => xl_ia d0_202,
   fun _ _ _ _ _ _ => xl_aln d0_203 rfl,
   fun _ _ _ _ _ _ => xl_iln d0_204 rfl,
   fun _ _ _ => xl_ic d0_205 (by decide +kernel),
   fun _ _ _ _ _ => xl_iadd d0_206,
   fun _ _ _ _ _ => xl_ia d0_207,
   fun _ _ _ _ _ _ => xl_aln d0_208 rfl⟩
theorem x0_p1 : (∀ l0 l1 l2 x st h, zz_Y 0 (209, [l0, l1, l2, some (.int x)], st, h) = zz_Y 0 (210, [l0, l1, l2, some (.int x)], .int x :: st, h)) ∧ (∀ ls st h, zz_Y 0 (210, ls, st, h) = zz_Y 0 (211, ls, .int (nI 3) :: st, h)) ∧ (∀ ls a b st h, zz_Y 0 (211, ls, .int b :: .int a :: st, h) = zz_Y 0 (212, ls, .int (a + b) :: st, h)) ∧ (∀ ls a i st h, zz_Y 0 (212, ls, .int i :: .ref a :: st, h) = mo_ia (hp_g h a) i a 0 213 ls st h) ∧ (∀ l1 l2 l3 x st h, zz_Y 0 (213, [some (.ref x), l1, l2, l3], st, h) = zz_Y 0 (214, [some (.ref x), l1, l2, l3], .ref x :: st, h)) ∧ (∀ l0 l1 l2 x st h, zz_Y 0 (214, [l0, l1, l2, some (.int x)], st, h) = zz_Y 0 (215, [l0, l1, l2, some (.int x)], .int x :: st, h)) ∧ (∀ ls st h, zz_Y 0 (215, ls, st, h) = zz_Y 0 (216, ls, .int (nI 4) :: st, h)) ∧ (∀ ls a b st h, zz_Y 0 (216, ls, .int b :: .int a :: st, h) = zz_Y 0 (217, ls, .int (a + b) :: st, h)) ∧ (∀ ls a i st h, zz_Y 0 (217, ls, .int i :: .ref a :: st, h) = mo_ia (hp_g h a) i a 0 218 ls st h) ∧ (∀ l1 l2 l3 x st h, zz_Y 0 (218, [some (.ref x), l1, l2, l3], st, h) = zz_Y 0 (219, [some (.ref x), l1, l2, l3], .ref x :: st, h)) ∧ (∀ l0 l1 l2 x st h, zz_Y 0 (219, [l0, l1, l2, some (.int x)], st, h) = zz_Y 0 (220, [l0, l1, l2, some (.int x)], .int x :: st, h)) ∧ (∀ ls st h, zz_Y 0 (220, ls, st, h) = zz_Y 0 (221, ls, .int (nI 5) :: st, h)) ∧ (∀ ls a b st h, zz_Y 0 (221, ls, .int b :: .int a :: st, h) = zz_Y 0 (222, ls, .int (a + b) :: st, h)) ∧ (∀ ls a i st h, zz_Y 0 (222, ls, .int i :: .ref a :: st, h) = mo_ia (hp_g h a) i a 0 223 ls st h) ∧ (∀ ls a0 a1 a2 a3 a4 a5 s0 h, zz_Y 0 (223, ls, [a5, a4, a3, a2, a1, a0, s0], h) = mo_k 0 226 ls [s0] (zz_run 218 [a0, a1, a2, a3, a4, a5] h)) ∧ (∀ ls a b st h, zz_Y 0 (226, ls, .int b :: .int a :: st, h) = if a = b then zz_Y 0 (1096, ls, st, h) else zz_Y 0 (229, ls, st, h)) ∧ (∀ ls st h, zz_Y 0 (229, ls, st, h) = zz_Y 0 (230, ls, .int (nI 0) :: st, h)) ∧ (∀ ls v h, v = nI 0 ∨ v = nI 1 → zz_Y 0 (230, ls, [.int v], h) = some (some (.int v), h)) ∧ (∀ l0 l2 l3 x st h, zz_Y 0 (231, [l0, some (.ref x), l2, l3], st, h) = zz_Y 0 (232, [l0, some (.ref x), l2, l3], .ref x :: st, h)) ∧ (∀ l1 l2 l3 x st h, zz_Y 0 (232, [some (.ref x), l1, l2, l3], st, h) = zz_Y 0 (233, [some (.ref x), l1, l2, l3], .ref x :: st, h)) ∧ (∀ l0 l1 l2 x st h, zz_Y 0 (233, [l0, l1, l2, some (.int x)], st, h) = zz_Y 0 (234, [l0, l1, l2, some (.int x)], .int x :: st, h)) ∧ (∀ ls st h, zz_Y 0 (234, ls, st, h) = zz_Y 0 (235, ls, .int (nI 1) :: st, h)) ∧ (∀ ls a b st h, zz_Y 0 (235, ls, .int b :: .int a :: st, h) = zz_Y 0 (236, ls, .int (a + b) :: st, h)) ∧ (∀ ls a i st h, zz_Y 0 (236, ls, .int i :: .ref a :: st, h) = mo_ia (hp_g h a) i a 0 237 ls st h) ∧ (∀ ls a0 a1 h, zz_Y 0 (237, ls, [a1, a0], h) = mo_k 0 240 ls [] (zz_run 16 [a0, a1] h)) ∧ (∀ l0 l1 l3 x st h, zz_Y 0 (240, [l0, l1, some (.ref x), l3], st, h) = zz_Y 0 (241, [l0, l1, some (.ref x), l3], .ref x :: st, h)) ∧ (∀ l1 l2 l3 x st h, zz_Y 0 (241, [some (.ref x), l1, l2, l3], st, h) = zz_Y 0 (242, [some (.ref x), l1, l2, l3], .ref x :: st, h)) ∧ (∀ l0 l1 l2 x st h, zz_Y 0 (242, [l0, l1, l2, some (.int x)], st, h) = zz_Y 0 (243, [l0, l1, l2, some (.int x)], .int x :: st, h)) ∧ (∀ ls st h, zz_Y 0 (243, ls, st, h) = zz_Y 0 (244, ls, .int (nI 1) :: st, h)) ∧ (∀ ls a b st h, zz_Y 0 (244, ls, .int b :: .int a :: st, h) = zz_Y 0 (245, ls, .int (a + b) :: st, h)) ∧ (∀ ls a i st h, zz_Y 0 (245, ls, .int i :: .ref a :: st, h) = mo_ia (hp_g h a) i a 0 246 ls st h) ∧ (∀ ls a0 a1 s0 h, zz_Y 0 (246, ls, [a1, a0, s0], h) = mo_k 0 249 ls [s0] (zz_run 219 [a0, a1] h)) ∧ (∀ ls a b st h, zz_Y 0 (249, ls, .int b :: .int a :: st, h) = if a = b then zz_Y 0 (1096, ls, st, h) else zz_Y 0 (252, ls, st, h)) ∧ (∀ ls st h, zz_Y 0 (252, ls, st, h) = zz_Y 0 (253, ls, .int (nI 0) :: st, h)) ∧ (∀ ls v h, v = nI 0 ∨ v = nI 1 → zz_Y 0 (253, ls, [.int v], h) = some (some (.int v), h)) ∧ (∀ l0 l2 l3 x st h, zz_Y 0 (254, [l0, some (.ref x), l2, l3], st, h) = zz_Y 0 (255, [l0, some (.ref x), l2, l3], .ref x :: st, h)) ∧ (∀ ls a0 h, zz_Y 0 (255, ls, [a0], h) = mo_k 0 258 ls [] (zz_run 17 [a0] h)) ∧ (∀ l0 l1 l3 x st h, zz_Y 0 (258, [l0, l1, some (.ref x), l3], st, h) = zz_Y 0 (259, [l0, l1, some (.ref x), l3], .ref x :: st, h)) ∧ (∀ ls a0 s0 h, zz_Y 0 (259, ls, [a0, s0], h) = mo_k 0 262 ls [s0] (zz_run 221 [a0] h)) ∧ (∀ ls a b st h, zz_Y 0 (262, ls, .int b :: .int a :: st, h) = if a = b then zz_Y 0 (1096, ls, st, h) else zz_Y 0 (265, ls, st, h)) ∧ (∀ ls st h, zz_Y 0 (265, ls, st, h) = zz_Y 0 (266, ls, .int (nI 0) :: st, h)) ∧ (∀ ls v h, v = nI 0 ∨ v = nI 1 → zz_Y 0 (266, ls, [.int v], h) = some (some (.int v), h)) ∧ (∀ l0 l2 l3 x st h, zz_Y 0 (267, [l0, some (.ref x), l2, l3], st, h) = zz_Y 0 (268, [l0, some (.ref x), l2, l3], .ref x :: st, h)) ∧ (∀ ls a0 h, zz_Y 0 (268, ls, [a0], h) = mo_k 0 271 ls [] (zz_run 65 [a0] h)) ∧ (∀ l0 l1 l3 x st h, zz_Y 0 (271, [l0, l1, some (.ref x), l3], st, h) = zz_Y 0 (272, [l0, l1, some (.ref x), l3], .ref x :: st, h)) ∧ (∀ ls a0 s0 h, zz_Y 0 (272, ls, [a0, s0], h) = mo_k 0 275 ls [s0] (zz_run 245 [a0] h)) ∧ (∀ ls a b st h, zz_Y 0 (275, ls, .int b :: .int a :: st, h) = if a = b then zz_Y 0 (1096, ls, st, h) else zz_Y 0 (278, ls, st, h)) ∧ (∀ ls st h, zz_Y 0 (278, ls, st, h) = zz_Y 0 (279, ls, .int (nI 0) :: st, h)) ∧ (∀ ls v h, v = nI 0 ∨ v = nI 1 → zz_Y 0 (279, ls, [.int v], h) = some (some (.int v), h)) ∧ (∀ l0 l2 l3 x st h, zz_Y 0 (280, [l0, some (.ref x), l2, l3], st, h) = zz_Y 0 (281, [l0, some (.ref x), l2, l3], .ref x :: st, h)) ∧ (∀ l1 l2 l3 x st h, zz_Y 0 (281, [some (.ref x), l1, l2, l3], st, h) = zz_Y 0 (282, [some (.ref x), l1, l2, l3], .ref x :: st, h)) ∧ (∀ l0 l1 l2 x st h, zz_Y 0 (282, [l0, l1, l2, some (.int x)], st, h) = zz_Y 0 (283, [l0, l1, l2, some (.int x)], .int x :: st, h)) ∧ (∀ ls st h, zz_Y 0 (283, ls, st, h) = zz_Y 0 (284, ls, .int (nI 1) :: st, h)) ∧ (∀ ls a b st h, zz_Y 0 (284, ls, .int b :: .int a :: st, h) = zz_Y 0 (285, ls, .int (a + b) :: st, h)) ∧ (∀ ls a i st h, zz_Y 0 (285, ls, .int i :: .ref a :: st, h) = mo_ia (hp_g h a) i a 0 286 ls st h) ∧ (∀ ls a0 a1 h, zz_Y 0 (286, ls, [a1, a0], h) = mo_k 0 289 ls [] (zz_run 79 [a0, a1] h)) ∧ (∀ l0 l1 l3 x st h, zz_Y 0 (289, [l0, l1, some (.ref x), l3], st, h) = zz_Y 0 (290, [l0, l1, some (.ref x), l3], .ref x :: st, h)) ∧ (∀ l1 l2 l3 x st h, zz_Y 0 (290, [some (.ref x), l1, l2, l3], st, h) = zz_Y 0 (291, [some (.ref x), l1, l2, l3], .ref x :: st, h)) ∧ (∀ l0 l1 l2 x st h, zz_Y 0 (291, [l0, l1, l2, some (.int x)], st, h) = zz_Y 0 (292, [l0, l1, l2, some (.int x)], .int x :: st, h)) ∧ (∀ ls st h, zz_Y 0 (292, ls, st, h) = zz_Y 0 (293, ls, .int (nI 1) :: st, h)) :=
  ⟨fun _ _ _ _ _ _ => xl_iln d0_209 rfl,
   fun _ _ _ => xl_ic d0_210 (by decide +kernel),
   fun _ _ _ _ _ => xl_iadd d0_211,
   fun _ _ _ _ _ => xl_ia d0_212,
   fun _ _ _ _ _ _ => xl_aln d0_213 rfl,
   fun _ _ _ _ _ _ => xl_iln d0_214 rfl,
   fun _ _ _ => xl_ic d0_215 (by decide +kernel),
   fun _ _ _ _ _ => xl_iadd d0_216,
   fun _ _ _ _ _ => xl_ia d0_217,
   fun _ _ _ _ _ _ => xl_aln d0_218 rfl,
   fun _ _ _ _ _ _ => xl_iln d0_219 rfl,
   fun _ _ _ => xl_ic d0_220 (by decide +kernel),
   fun _ _ _ _ _ => xl_iadd d0_221,
   fun _ _ _ _ _ => xl_ia d0_222,
   fun ls a0 a1 a2 a3 a4 a5 s0 h => xl_cv (As := [a0, a1, a2, a3, a4, a5]) (st := [s0]) d0_223 xco0 xm_13_17 (congrArg Nat.succ xnp218) (by decide +kernel) rfl,
   fun _ _ _ _ _ => xl_iceq d0_226 rfl,
   fun _ _ _ => xl_ic d0_229 (by decide +kernel),
   fun _ _ _ hc => xl_irz d0_230 xrt0 hc,
   fun _ _ _ _ _ _ => xl_aln d0_231 rfl,
   fun _ _ _ _ _ _ => xl_aln d0_232 rfl,
   fun _ _ _ _ _ _ => xl_iln d0_233 rfl,
   fun _ _ _ => xl_ic d0_234 (by decide +kernel),
   fun _ _ _ _ _ => xl_iadd d0_235,
   fun _ _ _ _ _ => xl_ia d0_236,
   fun ls a0 a1 h => xl_cv (As := [a0, a1]) (st := []) d0_237 xco0 xm_13_18 (congrArg Nat.succ xnp16) (by decide +kernel) rfl,
   fun _ _ _ _ _ _ => xl_aln d0_240 rfl,
   fun _ _ _ _ _ _ => xl_aln d0_241 rfl,
   fun _ _ _ _ _ _ => xl_iln d0_242 rfl,
   fun _ _ _ => xl_ic d0_243 (by decide +kernel),
   fun _ _ _ _ _ => xl_iadd d0_244,
   fun _ _ _ _ _ => xl_ia d0_245,
   fun ls a0 a1 s0 h => xl_cv (As := [a0, a1]) (st := [s0]) d0_246 xco0 xm_13_22 (congrArg Nat.succ xnp219) (by decide +kernel) rfl,
   fun _ _ _ _ _ => xl_iceq d0_249 rfl,
   fun _ _ _ => xl_ic d0_252 (by decide +kernel),
   fun _ _ _ hc => xl_irz d0_253 xrt0 hc,
   fun _ _ _ _ _ _ => xl_aln d0_254 rfl,
   fun ls a0 h => xl_cv (As := [a0]) (st := []) d0_255 xco0 xm_13_23 (congrArg Nat.succ xnp17) (by decide +kernel) rfl,
   fun _ _ _ _ _ _ => xl_aln d0_258 rfl,
   fun ls a0 s0 h => xl_cv (As := [a0]) (st := [s0]) d0_259 xco0 xm_13_27 (congrArg Nat.succ xnp221) (by decide +kernel) rfl,
   fun _ _ _ _ _ => xl_iceq d0_262 rfl,
   fun _ _ _ => xl_ic d0_265 (by decide +kernel),
   fun _ _ _ hc => xl_irz d0_266 xrt0 hc,
   fun _ _ _ _ _ _ => xl_aln d0_267 rfl,
   fun ls a0 h => xl_cv (As := [a0]) (st := []) d0_268 xco0 xm_13_28 (congrArg Nat.succ xnp65) (by decide +kernel) rfl,
   fun _ _ _ _ _ _ => xl_aln d0_271 rfl,
   fun ls a0 s0 h => xl_cv (As := [a0]) (st := [s0]) d0_272 xco0 xm_13_31 (congrArg Nat.succ xnp245) (by decide +kernel) rfl,
   fun _ _ _ _ _ => xl_iceq d0_275 rfl,
   fun _ _ _ => xl_ic d0_278 (by decide +kernel),
   fun _ _ _ hc => xl_irz d0_279 xrt0 hc,
   fun _ _ _ _ _ _ => xl_aln d0_280 rfl,
   fun _ _ _ _ _ _ => xl_aln d0_281 rfl,
   fun _ _ _ _ _ _ => xl_iln d0_282 rfl,
   fun _ _ _ => xl_ic d0_283 (by decide +kernel),
   fun _ _ _ _ _ => xl_iadd d0_284,
   fun _ _ _ _ _ => xl_ia d0_285,
   fun ls a0 a1 h => xl_cv (As := [a0, a1]) (st := []) d0_286 xco0 xm_13_32 (congrArg Nat.succ xnp79) (by decide +kernel) rfl,
   fun _ _ _ _ _ _ => xl_aln d0_289 rfl,
   fun _ _ _ _ _ _ => xl_aln d0_290 rfl,
   fun _ _ _ _ _ _ => xl_iln d0_291 rfl,
   fun _ _ _ => xl_ic d0_292 (by decide +kernel)⟩
theorem x0_p2 : (∀ ls a b st h, zz_Y 0 (293, ls, .int b :: .int a :: st, h) = zz_Y 0 (294, ls, .int (a + b) :: st, h)) ∧ (∀ ls a i st h, zz_Y 0 (294, ls, .int i :: .ref a :: st, h) = mo_ia (hp_g h a) i a 0 295 ls st h) ∧ (∀ ls a0 a1 s0 h, zz_Y 0 (295, ls, [a1, a0, s0], h) = mo_k 0 298 ls [s0] (zz_run 253 [a0, a1] h)) ∧ (∀ ls a b st h, zz_Y 0 (298, ls, .int b :: .int a :: st, h) = if a = b then zz_Y 0 (1096, ls, st, h) else zz_Y 0 (301, ls, st, h)) ∧ (∀ ls st h, zz_Y 0 (301, ls, st, h) = zz_Y 0 (302, ls, .int (nI 0) :: st, h)) ∧ (∀ ls v h, v = nI 0 ∨ v = nI 1 → zz_Y 0 (302, ls, [.int v], h) = some (some (.int v), h)) ∧ (∀ l0 l2 l3 x st h, zz_Y 0 (303, [l0, some (.ref x), l2, l3], st, h) = zz_Y 0 (304, [l0, some (.ref x), l2, l3], .ref x :: st, h)) ∧ (∀ l1 l2 l3 x st h, zz_Y 0 (304, [some (.ref x), l1, l2, l3], st, h) = zz_Y 0 (305, [some (.ref x), l1, l2, l3], .ref x :: st, h)) ∧ (∀ l0 l1 l2 x st h, zz_Y 0 (305, [l0, l1, l2, some (.int x)], st, h) = zz_Y 0 (306, [l0, l1, l2, some (.int x)], .int x :: st, h)) ∧ (∀ ls st h, zz_Y 0 (306, ls, st, h) = zz_Y 0 (307, ls, .int (nI 1) :: st, h)) ∧ (∀ ls a b st h, zz_Y 0 (307, ls, .int b :: .int a :: st, h) = zz_Y 0 (308, ls, .int (a + b) :: st, h)) ∧ (∀ ls a i st h, zz_Y 0 (308, ls, .int i :: .ref a :: st, h) = mo_ia (hp_g h a) i a 0 309 ls st h) ∧ (∀ ls a0 a1 h, zz_Y 0 (309, ls, [a1, a0], h) = mo_k 0 312 ls [] (zz_run 83 [a0, a1] h)) ∧ (∀ l0 l1 l3 x st h, zz_Y 0 (312, [l0, l1, some (.ref x), l3], st, h) = zz_Y 0 (313, [l0, l1, some (.ref x), l3], .ref x :: st, h)) ∧ (∀ l1 l2 l3 x st h, zz_Y 0 (313, [some (.ref x), l1, l2, l3], st, h) = zz_Y 0 (314, [some (.ref x), l1, l2, l3], .ref x :: st, h)) ∧ (∀ l0 l1 l2 x st h, zz_Y 0 (314, [l0, l1, l2, some (.int x)], st, h) = zz_Y 0 (315, [l0, l1, l2, some (.int x)], .int x :: st, h)) ∧ (∀ ls st h, zz_Y 0 (315, ls, st, h) = zz_Y 0 (316, ls, .int (nI 1) :: st, h)) ∧ (∀ ls a b st h, zz_Y 0 (316, ls, .int b :: .int a :: st, h) = zz_Y 0 (317, ls, .int (a + b) :: st, h)) ∧ (∀ ls a i st h, zz_Y 0 (317, ls, .int i :: .ref a :: st, h) = mo_ia (hp_g h a) i a 0 318 ls st h) ∧ (∀ ls a0 a1 s0 h, zz_Y 0 (318, ls, [a1, a0, s0], h) = mo_k 0 321 ls [s0] (zz_run 220 [a0, a1] h)) ∧ (∀ ls a b st h, zz_Y 0 (321, ls, .int b :: .int a :: st, h) = if a = b then zz_Y 0 (1096, ls, st, h) else zz_Y 0 (324, ls, st, h)) ∧ (∀ ls st h, zz_Y 0 (324, ls, st, h) = zz_Y 0 (325, ls, .int (nI 0) :: st, h)) ∧ (∀ ls v h, v = nI 0 ∨ v = nI 1 → zz_Y 0 (325, ls, [.int v], h) = some (some (.int v), h)) ∧ (∀ l0 l2 l3 x st h, zz_Y 0 (326, [l0, some (.ref x), l2, l3], st, h) = zz_Y 0 (327, [l0, some (.ref x), l2, l3], .ref x :: st, h)) ∧ (∀ l1 l2 l3 x st h, zz_Y 0 (327, [some (.ref x), l1, l2, l3], st, h) = zz_Y 0 (328, [some (.ref x), l1, l2, l3], .ref x :: st, h)) ∧ (∀ l0 l1 l2 x st h, zz_Y 0 (328, [l0, l1, l2, some (.int x)], st, h) = zz_Y 0 (329, [l0, l1, l2, some (.int x)], .int x :: st, h)) ∧ (∀ ls st h, zz_Y 0 (329, ls, st, h) = zz_Y 0 (330, ls, .int (nI 1) :: st, h)) ∧ (∀ ls a b st h, zz_Y 0 (330, ls, .int b :: .int a :: st, h) = zz_Y 0 (331, ls, .int (a + b) :: st, h)) ∧ (∀ ls a i st h, zz_Y 0 (331, ls, .int i :: .ref a :: st, h) = mo_ia (hp_g h a) i a 0 332 ls st h) ∧ (∀ l1 l2 l3 x st h, zz_Y 0 (332, [some (.ref x), l1, l2, l3], st, h) = zz_Y 0 (333, [some (.ref x), l1, l2, l3], .ref x :: st, h)) ∧ (∀ l0 l1 l2 x st h, zz_Y 0 (333, [l0, l1, l2, some (.int x)], st, h) = zz_Y 0 (334, [l0, l1, l2, some (.int x)], .int x :: st, h)) ∧ (∀ ls st h, zz_Y 0 (334, ls, st, h) = zz_Y 0 (335, ls, .int (nI 2) :: st, h)) ∧ (∀ ls a b st h, zz_Y 0 (335, ls, .int b :: .int a :: st, h) = zz_Y 0 (336, ls, .int (a + b) :: st, h)) ∧ (∀ ls a i st h, zz_Y 0 (336, ls, .int i :: .ref a :: st, h) = mo_ia (hp_g h a) i a 0 337 ls st h) ∧ (∀ ls a0 a1 a2 h, zz_Y 0 (337, ls, [a2, a1, a0], h) = mo_k 0 340 ls [] (zz_run 84 [a0, a1, a2] h)) ∧ (∀ l0 l1 l3 x st h, zz_Y 0 (340, [l0, l1, some (.ref x), l3], st, h) = zz_Y 0 (341, [l0, l1, some (.ref x), l3], .ref x :: st, h)) ∧ (∀ l1 l2 l3 x st h, zz_Y 0 (341, [some (.ref x), l1, l2, l3], st, h) = zz_Y 0 (342, [some (.ref x), l1, l2, l3], .ref x :: st, h)) ∧ (∀ l0 l1 l2 x st h, zz_Y 0 (342, [l0, l1, l2, some (.int x)], st, h) = zz_Y 0 (343, [l0, l1, l2, some (.int x)], .int x :: st, h)) ∧ (∀ ls st h, zz_Y 0 (343, ls, st, h) = zz_Y 0 (344, ls, .int (nI 1) :: st, h)) ∧ (∀ ls a b st h, zz_Y 0 (344, ls, .int b :: .int a :: st, h) = zz_Y 0 (345, ls, .int (a + b) :: st, h)) ∧ (∀ ls a i st h, zz_Y 0 (345, ls, .int i :: .ref a :: st, h) = mo_ia (hp_g h a) i a 0 346 ls st h) ∧ (∀ l1 l2 l3 x st h, zz_Y 0 (346, [some (.ref x), l1, l2, l3], st, h) = zz_Y 0 (347, [some (.ref x), l1, l2, l3], .ref x :: st, h)) ∧ (∀ l0 l1 l2 x st h, zz_Y 0 (347, [l0, l1, l2, some (.int x)], st, h) = zz_Y 0 (348, [l0, l1, l2, some (.int x)], .int x :: st, h)) ∧ (∀ ls st h, zz_Y 0 (348, ls, st, h) = zz_Y 0 (349, ls, .int (nI 2) :: st, h)) ∧ (∀ ls a b st h, zz_Y 0 (349, ls, .int b :: .int a :: st, h) = zz_Y 0 (350, ls, .int (a + b) :: st, h)) ∧ (∀ ls a i st h, zz_Y 0 (350, ls, .int i :: .ref a :: st, h) = mo_ia (hp_g h a) i a 0 351 ls st h) ∧ (∀ ls a0 a1 a2 s0 h, zz_Y 0 (351, ls, [a2, a1, a0, s0], h) = mo_k 0 354 ls [s0] (zz_run 204 [a0, a1, a2] h)) ∧ (∀ ls a b st h, zz_Y 0 (354, ls, .int b :: .int a :: st, h) = if a = b then zz_Y 0 (1096, ls, st, h) else zz_Y 0 (357, ls, st, h)) ∧ (∀ ls st h, zz_Y 0 (357, ls, st, h) = zz_Y 0 (358, ls, .int (nI 0) :: st, h)) ∧ (∀ ls v h, v = nI 0 ∨ v = nI 1 → zz_Y 0 (358, ls, [.int v], h) = some (some (.int v), h)) ∧ (∀ l0 l2 l3 x st h, zz_Y 0 (359, [l0, some (.ref x), l2, l3], st, h) = zz_Y 0 (360, [l0, some (.ref x), l2, l3], .ref x :: st, h)) ∧ (∀ l1 l2 l3 x st h, zz_Y 0 (360, [some (.ref x), l1, l2, l3], st, h) = zz_Y 0 (361, [some (.ref x), l1, l2, l3], .ref x :: st, h)) ∧ (∀ l0 l1 l2 x st h, zz_Y 0 (361, [l0, l1, l2, some (.int x)], st, h) = zz_Y 0 (362, [l0, l1, l2, some (.int x)], .int x :: st, h)) ∧ (∀ ls st h, zz_Y 0 (362, ls, st, h) = zz_Y 0 (363, ls, .int (nI 1) :: st, h)) ∧ (∀ ls a b st h, zz_Y 0 (363, ls, .int b :: .int a :: st, h) = zz_Y 0 (364, ls, .int (a + b) :: st, h)) ∧ (∀ ls a i st h, zz_Y 0 (364, ls, .int i :: .ref a :: st, h) = mo_ia (hp_g h a) i a 0 365 ls st h) ∧ (∀ ls a0 a1 h, zz_Y 0 (365, ls, [a1, a0], h) = mo_k 0 368 ls [] (zz_run 91 [a0, a1] h)) ∧ (∀ l0 l1 l3 x st h, zz_Y 0 (368, [l0, l1, some (.ref x), l3], st, h) = zz_Y 0 (369, [l0, l1, some (.ref x), l3], .ref x :: st, h)) ∧ (∀ l1 l2 l3 x st h, zz_Y 0 (369, [some (.ref x), l1, l2, l3], st, h) = zz_Y 0 (370, [some (.ref x), l1, l2, l3], .ref x :: st, h)) ∧ (∀ l0 l1 l2 x st h, zz_Y 0 (370, [l0, l1, l2, some (.int x)], st, h) = zz_Y 0 (371, [l0, l1, l2, some (.int x)], .int x :: st, h)) :=
  ⟨fun _ _ _ _ _ => xl_iadd d0_293,
   fun _ _ _ _ _ => xl_ia d0_294,
   fun ls a0 a1 s0 h => xl_cv (As := [a0, a1]) (st := [s0]) d0_295 xco0 xm_13_35 (congrArg Nat.succ xnp253) (by decide +kernel) rfl,
   fun _ _ _ _ _ => xl_iceq d0_298 rfl,
   fun _ _ _ => xl_ic d0_301 (by decide +kernel),
   fun _ _ _ hc => xl_irz d0_302 xrt0 hc,
   fun _ _ _ _ _ _ => xl_aln d0_303 rfl,
   fun _ _ _ _ _ _ => xl_aln d0_304 rfl,
   fun _ _ _ _ _ _ => xl_iln d0_305 rfl,
   fun _ _ _ => xl_ic d0_306 (by decide +kernel),
   fun _ _ _ _ _ => xl_iadd d0_307,
   fun _ _ _ _ _ => xl_ia d0_308,
   fun ls a0 a1 h => xl_cv (As := [a0, a1]) (st := []) d0_309 xco0 xm_13_36 (congrArg Nat.succ xnp83) (by decide +kernel) rfl,
   fun _ _ _ _ _ _ => xl_aln d0_312 rfl,
   fun _ _ _ _ _ _ => xl_aln d0_313 rfl,
   fun _ _ _ _ _ _ => xl_iln d0_314 rfl,
   fun _ _ _ => xl_ic d0_315 (by decide +kernel),
   fun _ _ _ _ _ => xl_iadd d0_316,
   fun _ _ _ _ _ => xl_ia d0_317,
   fun ls a0 a1 s0 h => xl_cv (As := [a0, a1]) (st := [s0]) d0_318 xco0 xm_13_39 (congrArg Nat.succ xnp220) (by decide +kernel) rfl,
   fun _ _ _ _ _ => xl_iceq d0_321 rfl,
   fun _ _ _ => xl_ic d0_324 (by decide +kernel),
   fun _ _ _ hc => xl_irz d0_325 xrt0 hc,
   fun _ _ _ _ _ _ => xl_aln d0_326 rfl,
   fun _ _ _ _ _ _ => xl_aln d0_327 rfl,
   fun _ _ _ _ _ _ => xl_iln d0_328 rfl,
   fun _ _ _ => xl_ic d0_329 (by decide +kernel),
   fun _ _ _ _ _ => xl_iadd d0_330,
   fun _ _ _ _ _ => xl_ia d0_331,
   fun _ _ _ _ _ _ => xl_aln d0_332 rfl,
   fun _ _ _ _ _ _ => xl_iln d0_333 rfl,
   fun _ _ _ => xl_ic d0_334 (by decide +kernel),
   fun _ _ _ _ _ => xl_iadd d0_335,
   fun _ _ _ _ _ => xl_ia d0_336,
   fun ls a0 a1 a2 h => xl_cv (As := [a0, a1, a2]) (st := []) d0_337 xco0 xm_13_40 (congrArg Nat.succ xnp84) (by decide +kernel) rfl,
   fun _ _ _ _ _ _ => xl_aln d0_340 rfl,
   fun _ _ _ _ _ _ => xl_aln d0_341 rfl,
   fun _ _ _ _ _ _ => xl_iln d0_342 rfl,
   fun _ _ _ => xl_ic d0_343 (by decide +kernel),
   fun _ _ _ _ _ => xl_iadd d0_344,
   fun _ _ _ _ _ => xl_ia d0_345,
   fun _ _ _ _ _ _ => xl_aln d0_346 rfl,
   fun _ _ _ _ _ _ => xl_iln d0_347 rfl,
   fun _ _ _ => xl_ic d0_348 (by decide +kernel),
   fun _ _ _ _ _ => xl_iadd d0_349,
   fun _ _ _ _ _ => xl_ia d0_350,
   fun ls a0 a1 a2 s0 h => xl_cv (As := [a0, a1, a2]) (st := [s0]) d0_351 xco0 xm_13_44 (congrArg Nat.succ xnp204) (by decide +kernel) rfl,
   fun _ _ _ _ _ => xl_iceq d0_354 rfl,
   fun _ _ _ => xl_ic d0_357 (by decide +kernel),
   fun _ _ _ hc => xl_irz d0_358 xrt0 hc,
   fun _ _ _ _ _ _ => xl_aln d0_359 rfl,
   fun _ _ _ _ _ _ => xl_aln d0_360 rfl,
   fun _ _ _ _ _ _ => xl_iln d0_361 rfl,
   fun _ _ _ => xl_ic d0_362 (by decide +kernel),
   fun _ _ _ _ _ => xl_iadd d0_363,
   fun _ _ _ _ _ => xl_ia d0_364,
   fun ls a0 a1 h => xl_cv (As := [a0, a1]) (st := []) d0_365 xco0 xm_13_45 (congrArg Nat.succ xnp91) (by decide +kernel) rfl,
   fun _ _ _ _ _ _ => xl_aln d0_368 rfl,
   fun _ _ _ _ _ _ => xl_aln d0_369 rfl,
   fun _ _ _ _ _ _ => xl_iln d0_370 rfl⟩
theorem x0_p3 : (∀ ls st h, zz_Y 0 (371, ls, st, h) = zz_Y 0 (372, ls, .int (nI 1) :: st, h)) ∧ (∀ ls a b st h, zz_Y 0 (372, ls, .int b :: .int a :: st, h) = zz_Y 0 (373, ls, .int (a + b) :: st, h)) ∧ (∀ ls a i st h, zz_Y 0 (373, ls, .int i :: .ref a :: st, h) = mo_ia (hp_g h a) i a 0 374 ls st h) ∧ (∀ ls a0 a1 s0 h, zz_Y 0 (374, ls, [a1, a0, s0], h) = mo_k 0 377 ls [s0] (zz_run 209 [a0, a1] h)) ∧ (∀ ls a b st h, zz_Y 0 (377, ls, .int b :: .int a :: st, h) = if a = b then zz_Y 0 (1096, ls, st, h) else zz_Y 0 (380, ls, st, h)) ∧ (∀ ls st h, zz_Y 0 (380, ls, st, h) = zz_Y 0 (381, ls, .int (nI 0) :: st, h)) ∧ (∀ ls v h, v = nI 0 ∨ v = nI 1 → zz_Y 0 (381, ls, [.int v], h) = some (some (.int v), h)) ∧ (∀ l0 l2 l3 x st h, zz_Y 0 (382, [l0, some (.ref x), l2, l3], st, h) = zz_Y 0 (383, [l0, some (.ref x), l2, l3], .ref x :: st, h)) ∧ (∀ l1 l2 l3 x st h, zz_Y 0 (383, [some (.ref x), l1, l2, l3], st, h) = zz_Y 0 (384, [some (.ref x), l1, l2, l3], .ref x :: st, h)) ∧ (∀ l0 l1 l2 x st h, zz_Y 0 (384, [l0, l1, l2, some (.int x)], st, h) = zz_Y 0 (385, [l0, l1, l2, some (.int x)], .int x :: st, h)) ∧ (∀ ls st h, zz_Y 0 (385, ls, st, h) = zz_Y 0 (386, ls, .int (nI 1) :: st, h)) ∧ (∀ ls a b st h, zz_Y 0 (386, ls, .int b :: .int a :: st, h) = zz_Y 0 (387, ls, .int (a + b) :: st, h)) ∧ (∀ ls a i st h, zz_Y 0 (387, ls, .int i :: .ref a :: st, h) = mo_ia (hp_g h a) i a 0 388 ls st h) ∧ (∀ l1 l2 l3 x st h, zz_Y 0 (388, [some (.ref x), l1, l2, l3], st, h) = zz_Y 0 (389, [some (.ref x), l1, l2, l3], .ref x :: st, h)) ∧ (∀ l0 l1 l2 x st h, zz_Y 0 (389, [l0, l1, l2, some (.int x)], st, h) = zz_Y 0 (390, [l0, l1, l2, some (.int x)], .int x :: st, h)) ∧ (∀ ls st h, zz_Y 0 (390, ls, st, h) = zz_Y 0 (391, ls, .int (nI 2) :: st, h)) ∧ (∀ ls a b st h, zz_Y 0 (391, ls, .int b :: .int a :: st, h) = zz_Y 0 (392, ls, .int (a + b) :: st, h)) ∧ (∀ ls a i st h, zz_Y 0 (392, ls, .int i :: .ref a :: st, h) = mo_ia (hp_g h a) i a 0 393 ls st h) ∧ (∀ ls a0 a1 a2 h, zz_Y 0 (393, ls, [a2, a1, a0], h) = mo_k 0 396 ls [] (zz_run 92 [a0, a1, a2] h)) ∧ (∀ l0 l1 l3 x st h, zz_Y 0 (396, [l0, l1, some (.ref x), l3], st, h) = zz_Y 0 (397, [l0, l1, some (.ref x), l3], .ref x :: st, h)) ∧ (∀ l1 l2 l3 x st h, zz_Y 0 (397, [some (.ref x), l1, l2, l3], st, h) = zz_Y 0 (398, [some (.ref x), l1, l2, l3], .ref x :: st, h)) ∧ (∀ l0 l1 l2 x st h, zz_Y 0 (398, [l0, l1, l2, some (.int x)], st, h) = zz_Y 0 (399, [l0, l1, l2, some (.int x)], .int x :: st, h)) ∧ (∀ ls st h, zz_Y 0 (399, ls, st, h) = zz_Y 0 (400, ls, .int (nI 1) :: st, h)) ∧ (∀ ls a b st h, zz_Y 0 (400, ls, .int b :: .int a :: st, h) = zz_Y 0 (401, ls, .int (a + b) :: st, h)) ∧ (∀ ls a i st h, zz_Y 0 (401, ls, .int i :: .ref a :: st, h) = mo_ia (hp_g h a) i a 0 402 ls st h) ∧ (∀ l1 l2 l3 x st h, zz_Y 0 (402, [some (.ref x), l1, l2, l3], st, h) = zz_Y 0 (403, [some (.ref x), l1, l2, l3], .ref x :: st, h)) ∧ (∀ l0 l1 l2 x st h, zz_Y 0 (403, [l0, l1, l2, some (.int x)], st, h) = zz_Y 0 (404, [l0, l1, l2, some (.int x)], .int x :: st, h)) ∧ (∀ ls st h, zz_Y 0 (404, ls, st, h) = zz_Y 0 (405, ls, .int (nI 2) :: st, h)) ∧ (∀ ls a b st h, zz_Y 0 (405, ls, .int b :: .int a :: st, h) = zz_Y 0 (406, ls, .int (a + b) :: st, h)) ∧ (∀ ls a i st h, zz_Y 0 (406, ls, .int i :: .ref a :: st, h) = mo_ia (hp_g h a) i a 0 407 ls st h) ∧ (∀ ls a0 a1 a2 s0 h, zz_Y 0 (407, ls, [a2, a1, a0, s0], h) = mo_k 0 410 ls [s0] (zz_run 210 [a0, a1, a2] h)) ∧ (∀ ls a b st h, zz_Y 0 (410, ls, .int b :: .int a :: st, h) = if a = b then zz_Y 0 (1096, ls, st, h) else zz_Y 0 (413, ls, st, h)) ∧ (∀ ls st h, zz_Y 0 (413, ls, st, h) = zz_Y 0 (414, ls, .int (nI 0) :: st, h)) ∧ (∀ ls v h, v = nI 0 ∨ v = nI 1 → zz_Y 0 (414, ls, [.int v], h) = some (some (.int v), h)) ∧ (∀ l0 l2 l3 x st h, zz_Y 0 (415, [l0, some (.ref x), l2, l3], st, h) = zz_Y 0 (416, [l0, some (.ref x), l2, l3], .ref x :: st, h)) ∧ (∀ l1 l2 l3 x st h, zz_Y 0 (416, [some (.ref x), l1, l2, l3], st, h) = zz_Y 0 (417, [some (.ref x), l1, l2, l3], .ref x :: st, h)) ∧ (∀ l0 l1 l2 x st h, zz_Y 0 (417, [l0, l1, l2, some (.int x)], st, h) = zz_Y 0 (418, [l0, l1, l2, some (.int x)], .int x :: st, h)) ∧ (∀ ls st h, zz_Y 0 (418, ls, st, h) = zz_Y 0 (419, ls, .int (nI 1) :: st, h)) ∧ (∀ ls a b st h, zz_Y 0 (419, ls, .int b :: .int a :: st, h) = zz_Y 0 (420, ls, .int (a + b) :: st, h)) ∧ (∀ ls a i st h, zz_Y 0 (420, ls, .int i :: .ref a :: st, h) = mo_ia (hp_g h a) i a 0 421 ls st h) ∧ (∀ l1 l2 l3 x st h, zz_Y 0 (421, [some (.ref x), l1, l2, l3], st, h) = zz_Y 0 (422, [some (.ref x), l1, l2, l3], .ref x :: st, h)) ∧ (∀ l0 l1 l2 x st h, zz_Y 0 (422, [l0, l1, l2, some (.int x)], st, h) = zz_Y 0 (423, [l0, l1, l2, some (.int x)], .int x :: st, h)) ∧ (∀ ls st h, zz_Y 0 (423, ls, st, h) = zz_Y 0 (424, ls, .int (nI 2) :: st, h)) ∧ (∀ ls a b st h, zz_Y 0 (424, ls, .int b :: .int a :: st, h) = zz_Y 0 (425, ls, .int (a + b) :: st, h)) ∧ (∀ ls a i st h, zz_Y 0 (425, ls, .int i :: .ref a :: st, h) = mo_ia (hp_g h a) i a 0 426 ls st h) ∧ (∀ ls a0 a1 a2 h, zz_Y 0 (426, ls, [a2, a1, a0], h) = mo_k 0 429 ls [] (zz_run 93 [a0, a1, a2] h)) ∧ (∀ l0 l1 l3 x st h, zz_Y 0 (429, [l0, l1, some (.ref x), l3], st, h) = zz_Y 0 (430, [l0, l1, some (.ref x), l3], .ref x :: st, h)) ∧ (∀ l1 l2 l3 x st h, zz_Y 0 (430, [some (.ref x), l1, l2, l3], st, h) = zz_Y 0 (431, [some (.ref x), l1, l2, l3], .ref x :: st, h)) ∧ (∀ l0 l1 l2 x st h, zz_Y 0 (431, [l0, l1, l2, some (.int x)], st, h) = zz_Y 0 (432, [l0, l1, l2, some (.int x)], .int x :: st, h)) ∧ (∀ ls st h, zz_Y 0 (432, ls, st, h) = zz_Y 0 (433, ls, .int (nI 1) :: st, h)) ∧ (∀ ls a b st h, zz_Y 0 (433, ls, .int b :: .int a :: st, h) = zz_Y 0 (434, ls, .int (a + b) :: st, h)) ∧ (∀ ls a i st h, zz_Y 0 (434, ls, .int i :: .ref a :: st, h) = mo_ia (hp_g h a) i a 0 435 ls st h) ∧ (∀ l1 l2 l3 x st h, zz_Y 0 (435, [some (.ref x), l1, l2, l3], st, h) = zz_Y 0 (436, [some (.ref x), l1, l2, l3], .ref x :: st, h)) ∧ (∀ l0 l1 l2 x st h, zz_Y 0 (436, [l0, l1, l2, some (.int x)], st, h) = zz_Y 0 (437, [l0, l1, l2, some (.int x)], .int x :: st, h)) ∧ (∀ ls st h, zz_Y 0 (437, ls, st, h) = zz_Y 0 (438, ls, .int (nI 2) :: st, h)) ∧ (∀ ls a b st h, zz_Y 0 (438, ls, .int b :: .int a :: st, h) = zz_Y 0 (439, ls, .int (a + b) :: st, h)) ∧ (∀ ls a i st h, zz_Y 0 (439, ls, .int i :: .ref a :: st, h) = mo_ia (hp_g h a) i a 0 440 ls st h) ∧ (∀ ls a0 a1 a2 s0 h, zz_Y 0 (440, ls, [a2, a1, a0, s0], h) = mo_k 0 443 ls [s0] (zz_run 212 [a0, a1, a2] h)) ∧ (∀ ls a b st h, zz_Y 0 (443, ls, .int b :: .int a :: st, h) = if a = b then zz_Y 0 (1096, ls, st, h) else zz_Y 0 (446, ls, st, h)) ∧ (∀ ls st h, zz_Y 0 (446, ls, st, h) = zz_Y 0 (447, ls, .int (nI 0) :: st, h)) :=
  ⟨fun _ _ _ => xl_ic d0_371 (by decide +kernel),
   fun _ _ _ _ _ => xl_iadd d0_372,
   fun _ _ _ _ _ => xl_ia d0_373,
   fun ls a0 a1 s0 h => xl_cv (As := [a0, a1]) (st := [s0]) d0_374 xco0 xm_13_48 (congrArg Nat.succ xnp209) (by decide +kernel) rfl,
   fun _ _ _ _ _ => xl_iceq d0_377 rfl,
   fun _ _ _ => xl_ic d0_380 (by decide +kernel),
   fun _ _ _ hc => xl_irz d0_381 xrt0 hc,
   fun _ _ _ _ _ _ => xl_aln d0_382 rfl,
   fun _ _ _ _ _ _ => xl_aln d0_383 rfl,
   fun _ _ _ _ _ _ => xl_iln d0_384 rfl,
   fun _ _ _ => xl_ic d0_385 (by decide +kernel),
   fun _ _ _ _ _ => xl_iadd d0_386,
   fun _ _ _ _ _ => xl_ia d0_387,
   fun _ _ _ _ _ _ => xl_aln d0_388 rfl,
   fun _ _ _ _ _ _ => xl_iln d0_389 rfl,
   fun _ _ _ => xl_ic d0_390 (by decide +kernel),
   fun _ _ _ _ _ => xl_iadd d0_391,
   fun _ _ _ _ _ => xl_ia d0_392,
   fun ls a0 a1 a2 h => xl_cv (As := [a0, a1, a2]) (st := []) d0_393 xco0 xm_13_49 (congrArg Nat.succ xnp92) (by decide +kernel) rfl,
   fun _ _ _ _ _ _ => xl_aln d0_396 rfl,
   fun _ _ _ _ _ _ => xl_aln d0_397 rfl,
   fun _ _ _ _ _ _ => xl_iln d0_398 rfl,
   fun _ _ _ => xl_ic d0_399 (by decide +kernel),
   fun _ _ _ _ _ => xl_iadd d0_400,
   fun _ _ _ _ _ => xl_ia d0_401,
   fun _ _ _ _ _ _ => xl_aln d0_402 rfl,
   fun _ _ _ _ _ _ => xl_iln d0_403 rfl,
   fun _ _ _ => xl_ic d0_404 (by decide +kernel),
   fun _ _ _ _ _ => xl_iadd d0_405,
   fun _ _ _ _ _ => xl_ia d0_406,
   fun ls a0 a1 a2 s0 h => xl_cv (As := [a0, a1, a2]) (st := [s0]) d0_407 xco0 xm_13_52 (congrArg Nat.succ xnp210) (by decide +kernel) rfl,
   fun _ _ _ _ _ => xl_iceq d0_410 rfl,
   fun _ _ _ => xl_ic d0_413 (by decide +kernel),
   fun _ _ _ hc => xl_irz d0_414 xrt0 hc,
   fun _ _ _ _ _ _ => xl_aln d0_415 rfl,
   fun _ _ _ _ _ _ => xl_aln d0_416 rfl,
   fun _ _ _ _ _ _ => xl_iln d0_417 rfl,
   fun _ _ _ => xl_ic d0_418 (by decide +kernel),
   fun _ _ _ _ _ => xl_iadd d0_419,
   fun _ _ _ _ _ => xl_ia d0_420,
   fun _ _ _ _ _ _ => xl_aln d0_421 rfl,
   fun _ _ _ _ _ _ => xl_iln d0_422 rfl,
   fun _ _ _ => xl_ic d0_423 (by decide +kernel),
   fun _ _ _ _ _ => xl_iadd d0_424,
   fun _ _ _ _ _ => xl_ia d0_425,
   fun ls a0 a1 a2 h => xl_cv (As := [a0, a1, a2]) (st := []) d0_426 xco0 xm_13_53 (congrArg Nat.succ xnp93) (by decide +kernel) rfl,
   fun _ _ _ _ _ _ => xl_aln d0_429 rfl,
   fun _ _ _ _ _ _ => xl_aln d0_430 rfl,
   fun _ _ _ _ _ _ => xl_iln d0_431 rfl,
   fun _ _ _ => xl_ic d0_432 (by decide +kernel),
   fun _ _ _ _ _ => xl_iadd d0_433,
   fun _ _ _ _ _ => xl_ia d0_434,
   fun _ _ _ _ _ _ => xl_aln d0_435 rfl,
   fun _ _ _ _ _ _ => xl_iln d0_436 rfl,
   fun _ _ _ => xl_ic d0_437 (by decide +kernel),
   fun _ _ _ _ _ => xl_iadd d0_438,
   fun _ _ _ _ _ => xl_ia d0_439,
   fun ls a0 a1 a2 s0 h => xl_cv (As := [a0, a1, a2]) (st := [s0]) d0_440 xco0 xm_13_56 (congrArg Nat.succ xnp212) (by decide +kernel) rfl,
   fun _ _ _ _ _ => xl_iceq d0_443 rfl,
   fun _ _ _ => xl_ic d0_446 (by decide +kernel)⟩
theorem x0_p4 : (∀ ls v h, v = nI 0 ∨ v = nI 1 → zz_Y 0 (447, ls, [.int v], h) = some (some (.int v), h)) ∧ (∀ l0 l2 l3 x st h, zz_Y 0 (448, [l0, some (.ref x), l2, l3], st, h) = zz_Y 0 (449, [l0, some (.ref x), l2, l3], .ref x :: st, h)) ∧ (∀ l1 l2 l3 x st h, zz_Y 0 (449, [some (.ref x), l1, l2, l3], st, h) = zz_Y 0 (450, [some (.ref x), l1, l2, l3], .ref x :: st, h)) ∧ (∀ l0 l1 l2 x st h, zz_Y 0 (450, [l0, l1, l2, some (.int x)], st, h) = zz_Y 0 (451, [l0, l1, l2, some (.int x)], .int x :: st, h)) ∧ (∀ ls st h, zz_Y 0 (451, ls, st, h) = zz_Y 0 (452, ls, .int (nI 1) :: st, h)) ∧ (∀ ls a b st h, zz_Y 0 (452, ls, .int b :: .int a :: st, h) = zz_Y 0 (453, ls, .int (a + b) :: st, h)) ∧ (∀ ls a i st h, zz_Y 0 (453, ls, .int i :: .ref a :: st, h) = mo_ia (hp_g h a) i a 0 454 ls st h) ∧ (∀ l1 l2 l3 x st h, zz_Y 0 (454, [some (.ref x), l1, l2, l3], st, h) = zz_Y 0 (455, [some (.ref x), l1, l2, l3], .ref x :: st, h)) ∧ (∀ l0 l1 l2 x st h, zz_Y 0 (455, [l0, l1, l2, some (.int x)], st, h) = zz_Y 0 (456, [l0, l1, l2, some (.int x)], .int x :: st, h)) ∧ (∀ ls st h, zz_Y 0 (456, ls, st, h) = zz_Y 0 (457, ls, .int (nI 2) :: st, h)) ∧ (∀ ls a b st h, zz_Y 0 (457, ls, .int b :: .int a :: st, h) = zz_Y 0 (458, ls, .int (a + b) :: st, h)) ∧ (∀ ls a i st h, zz_Y 0 (458, ls, .int i :: .ref a :: st, h) = mo_ia (hp_g h a) i a 0 459 ls st h) ∧ (∀ ls a0 a1 a2 h, zz_Y 0 (459, ls, [a2, a1, a0], h) = mo_k 0 462 ls [] (zz_run 94 [a0, a1, a2] h)) ∧ (∀ l0 l1 l3 x st h, zz_Y 0 (462, [l0, l1, some (.ref x), l3], st, h) = zz_Y 0 (463, [l0, l1, some (.ref x), l3], .ref x :: st, h)) ∧ (∀ l1 l2 l3 x st h, zz_Y 0 (463, [some (.ref x), l1, l2, l3], st, h) = zz_Y 0 (464, [some (.ref x), l1, l2, l3], .ref x :: st, h)) ∧ (∀ l0 l1 l2 x st h, zz_Y 0 (464, [l0, l1, l2, some (.int x)], st, h) = zz_Y 0 (465, [l0, l1, l2, some (.int x)], .int x :: st, h)) ∧ (∀ ls st h, zz_Y 0 (465, ls, st, h) = zz_Y 0 (466, ls, .int (nI 1) :: st, h)) ∧ (∀ ls a b st h, zz_Y 0 (466, ls, .int b :: .int a :: st, h) = zz_Y 0 (467, ls, .int (a + b) :: st, h)) ∧ (∀ ls a i st h, zz_Y 0 (467, ls, .int i :: .ref a :: st, h) = mo_ia (hp_g h a) i a 0 468 ls st h) ∧ (∀ l1 l2 l3 x st h, zz_Y 0 (468, [some (.ref x), l1, l2, l3], st, h) = zz_Y 0 (469, [some (.ref x), l1, l2, l3], .ref x :: st, h)) ∧ (∀ l0 l1 l2 x st h, zz_Y 0 (469, [l0, l1, l2, some (.int x)], st, h) = zz_Y 0 (470, [l0, l1, l2, some (.int x)], .int x :: st, h)) ∧ (∀ ls st h, zz_Y 0 (470, ls, st, h) = zz_Y 0 (471, ls, .int (nI 2) :: st, h)) ∧ (∀ ls a b st h, zz_Y 0 (471, ls, .int b :: .int a :: st, h) = zz_Y 0 (472, ls, .int (a + b) :: st, h)) ∧ (∀ ls a i st h, zz_Y 0 (472, ls, .int i :: .ref a :: st, h) = mo_ia (hp_g h a) i a 0 473 ls st h) ∧ (∀ ls a0 a1 a2 s0 h, zz_Y 0 (473, ls, [a2, a1, a0, s0], h) = mo_k 0 476 ls [s0] (zz_run 213 [a0, a1, a2] h)) ∧ (∀ ls a b st h, zz_Y 0 (476, ls, .int b :: .int a :: st, h) = if a = b then zz_Y 0 (1096, ls, st, h) else zz_Y 0 (479, ls, st, h)) ∧ (∀ ls st h, zz_Y 0 (479, ls, st, h) = zz_Y 0 (480, ls, .int (nI 0) :: st, h)) ∧ (∀ ls v h, v = nI 0 ∨ v = nI 1 → zz_Y 0 (480, ls, [.int v], h) = some (some (.int v), h)) ∧ (∀ l0 l2 l3 x st h, zz_Y 0 (481, [l0, some (.ref x), l2, l3], st, h) = zz_Y 0 (482, [l0, some (.ref x), l2, l3], .ref x :: st, h)) ∧ (∀ l1 l2 l3 x st h, zz_Y 0 (482, [some (.ref x), l1, l2, l3], st, h) = zz_Y 0 (483, [some (.ref x), l1, l2, l3], .ref x :: st, h)) ∧ (∀ l0 l1 l2 x st h, zz_Y 0 (483, [l0, l1, l2, some (.int x)], st, h) = zz_Y 0 (484, [l0, l1, l2, some (.int x)], .int x :: st, h)) ∧ (∀ ls st h, zz_Y 0 (484, ls, st, h) = zz_Y 0 (485, ls, .int (nI 1) :: st, h)) ∧ (∀ ls a b st h, zz_Y 0 (485, ls, .int b :: .int a :: st, h) = zz_Y 0 (486, ls, .int (a + b) :: st, h)) ∧ (∀ ls a i st h, zz_Y 0 (486, ls, .int i :: .ref a :: st, h) = mo_ia (hp_g h a) i a 0 487 ls st h) ∧ (∀ l1 l2 l3 x st h, zz_Y 0 (487, [some (.ref x), l1, l2, l3], st, h) = zz_Y 0 (488, [some (.ref x), l1, l2, l3], .ref x :: st, h)) ∧ (∀ l0 l1 l2 x st h, zz_Y 0 (488, [l0, l1, l2, some (.int x)], st, h) = zz_Y 0 (489, [l0, l1, l2, some (.int x)], .int x :: st, h)) ∧ (∀ ls st h, zz_Y 0 (489, ls, st, h) = zz_Y 0 (490, ls, .int (nI 2) :: st, h)) ∧ (∀ ls a b st h, zz_Y 0 (490, ls, .int b :: .int a :: st, h) = zz_Y 0 (491, ls, .int (a + b) :: st, h)) ∧ (∀ ls a i st h, zz_Y 0 (491, ls, .int i :: .ref a :: st, h) = mo_ia (hp_g h a) i a 0 492 ls st h) ∧ (∀ ls a0 a1 a2 h, zz_Y 0 (492, ls, [a2, a1, a0], h) = mo_k 0 495 ls [] (zz_run 95 [a0, a1, a2] h)) ∧ (∀ l0 l1 l3 x st h, zz_Y 0 (495, [l0, l1, some (.ref x), l3], st, h) = zz_Y 0 (496, [l0, l1, some (.ref x), l3], .ref x :: st, h)) ∧ (∀ l1 l2 l3 x st h, zz_Y 0 (496, [some (.ref x), l1, l2, l3], st, h) = zz_Y 0 (497, [some (.ref x), l1, l2, l3], .ref x :: st, h)) ∧ (∀ l0 l1 l2 x st h, zz_Y 0 (497, [l0, l1, l2, some (.int x)], st, h) = zz_Y 0 (498, [l0, l1, l2, some (.int x)], .int x :: st, h)) ∧ (∀ ls st h, zz_Y 0 (498, ls, st, h) = zz_Y 0 (499, ls, .int (nI 1) :: st, h)) ∧ (∀ ls a b st h, zz_Y 0 (499, ls, .int b :: .int a :: st, h) = zz_Y 0 (500, ls, .int (a + b) :: st, h)) ∧ (∀ ls a i st h, zz_Y 0 (500, ls, .int i :: .ref a :: st, h) = mo_ia (hp_g h a) i a 0 501 ls st h) ∧ (∀ l1 l2 l3 x st h, zz_Y 0 (501, [some (.ref x), l1, l2, l3], st, h) = zz_Y 0 (502, [some (.ref x), l1, l2, l3], .ref x :: st, h)) ∧ (∀ l0 l1 l2 x st h, zz_Y 0 (502, [l0, l1, l2, some (.int x)], st, h) = zz_Y 0 (503, [l0, l1, l2, some (.int x)], .int x :: st, h)) ∧ (∀ ls st h, zz_Y 0 (503, ls, st, h) = zz_Y 0 (504, ls, .int (nI 2) :: st, h)) ∧ (∀ ls a b st h, zz_Y 0 (504, ls, .int b :: .int a :: st, h) = zz_Y 0 (505, ls, .int (a + b) :: st, h)) ∧ (∀ ls a i st h, zz_Y 0 (505, ls, .int i :: .ref a :: st, h) = mo_ia (hp_g h a) i a 0 506 ls st h) ∧ (∀ ls a0 a1 a2 s0 h, zz_Y 0 (506, ls, [a2, a1, a0, s0], h) = mo_k 0 509 ls [s0] (zz_run 214 [a0, a1, a2] h)) ∧ (∀ ls a b st h, zz_Y 0 (509, ls, .int b :: .int a :: st, h) = if a = b then zz_Y 0 (1096, ls, st, h) else zz_Y 0 (512, ls, st, h)) ∧ (∀ ls st h, zz_Y 0 (512, ls, st, h) = zz_Y 0 (513, ls, .int (nI 0) :: st, h)) ∧ (∀ ls v h, v = nI 0 ∨ v = nI 1 → zz_Y 0 (513, ls, [.int v], h) = some (some (.int v), h)) ∧ (∀ l0 l2 l3 x st h, zz_Y 0 (514, [l0, some (.ref x), l2, l3], st, h) = zz_Y 0 (515, [l0, some (.ref x), l2, l3], .ref x :: st, h)) ∧ (∀ l1 l2 l3 x st h, zz_Y 0 (515, [some (.ref x), l1, l2, l3], st, h) = zz_Y 0 (516, [some (.ref x), l1, l2, l3], .ref x :: st, h)) ∧ (∀ l0 l1 l2 x st h, zz_Y 0 (516, [l0, l1, l2, some (.int x)], st, h) = zz_Y 0 (517, [l0, l1, l2, some (.int x)], .int x :: st, h)) ∧ (∀ ls st h, zz_Y 0 (517, ls, st, h) = zz_Y 0 (518, ls, .int (nI 1) :: st, h)) ∧ (∀ ls a b st h, zz_Y 0 (518, ls, .int b :: .int a :: st, h) = zz_Y 0 (519, ls, .int (a + b) :: st, h)) :=
  ⟨fun _ _ _ hc => xl_irz d0_447 xrt0 hc,
   fun _ _ _ _ _ _ => xl_aln d0_448 rfl,
   fun _ _ _ _ _ _ => xl_aln d0_449 rfl,
   fun _ _ _ _ _ _ => xl_iln d0_450 rfl,
   fun _ _ _ => xl_ic d0_451 (by decide +kernel),
   fun _ _ _ _ _ => xl_iadd d0_452,
   fun _ _ _ _ _ => xl_ia d0_453,
   fun _ _ _ _ _ _ => xl_aln d0_454 rfl,
   fun _ _ _ _ _ _ => xl_iln d0_455 rfl,
   fun _ _ _ => xl_ic d0_456 (by decide +kernel),
   fun _ _ _ _ _ => xl_iadd d0_457,
   fun _ _ _ _ _ => xl_ia d0_458,
   fun ls a0 a1 a2 h => xl_cv (As := [a0, a1, a2]) (st := []) d0_459 xco0 xm_13_57 (congrArg Nat.succ xnp94) (by decide +kernel) rfl,
   fun _ _ _ _ _ _ => xl_aln d0_462 rfl,
   fun _ _ _ _ _ _ => xl_aln d0_463 rfl,
   fun _ _ _ _ _ _ => xl_iln d0_464 rfl,
   fun _ _ _ => xl_ic d0_465 (by decide +kernel),
   fun _ _ _ _ _ => xl_iadd d0_466,
   fun _ _ _ _ _ => xl_ia d0_467,
   fun _ _ _ _ _ _ => xl_aln d0_468 rfl,
   fun _ _ _ _ _ _ => xl_iln d0_469 rfl,
   fun _ _ _ => xl_ic d0_470 (by decide +kernel),
   fun _ _ _ _ _ => xl_iadd d0_471,
   fun _ _ _ _ _ => xl_ia d0_472,
   fun ls a0 a1 a2 s0 h => xl_cv (As := [a0, a1, a2]) (st := [s0]) d0_473 xco0 xm_13_60 (congrArg Nat.succ xnp213) (by decide +kernel) rfl,
   fun _ _ _ _ _ => xl_iceq d0_476 rfl,
   fun _ _ _ => xl_ic d0_479 (by decide +kernel),
   fun _ _ _ hc => xl_irz d0_480 xrt0 hc,
   fun _ _ _ _ _ _ => xl_aln d0_481 rfl,
   fun _ _ _ _ _ _ => xl_aln d0_482 rfl,
   fun _ _ _ _ _ _ => xl_iln d0_483 rfl,
   fun _ _ _ => xl_ic d0_484 (by decide +kernel),
   fun _ _ _ _ _ => xl_iadd d0_485,
   fun _ _ _ _ _ => xl_ia d0_486,
   fun _ _ _ _ _ _ => xl_aln d0_487 rfl,
   fun _ _ _ _ _ _ => xl_iln d0_488 rfl,
   fun _ _ _ => xl_ic d0_489 (by decide +kernel),
   fun _ _ _ _ _ => xl_iadd d0_490,
   fun _ _ _ _ _ => xl_ia d0_491,
   fun ls a0 a1 a2 h => xl_cv (As := [a0, a1, a2]) (st := []) d0_492 xco0 xm_13_61 (congrArg Nat.succ xnp95) (by decide +kernel) rfl,
   fun _ _ _ _ _ _ => xl_aln d0_495 rfl,
   fun _ _ _ _ _ _ => xl_aln d0_496 rfl,
   fun _ _ _ _ _ _ => xl_iln d0_497 rfl,
   fun _ _ _ => xl_ic d0_498 (by decide +kernel),
   fun _ _ _ _ _ => xl_iadd d0_499,
   fun _ _ _ _ _ => xl_ia d0_500,
   fun _ _ _ _ _ _ => xl_aln d0_501 rfl,
   fun _ _ _ _ _ _ => xl_iln d0_502 rfl,
   fun _ _ _ => xl_ic d0_503 (by decide +kernel),
   fun _ _ _ _ _ => xl_iadd d0_504,
   fun _ _ _ _ _ => xl_ia d0_505,
   fun ls a0 a1 a2 s0 h => xl_cv (As := [a0, a1, a2]) (st := [s0]) d0_506 xco0 xm_13_64 (congrArg Nat.succ xnp214) (by decide +kernel) rfl,
   fun _ _ _ _ _ => xl_iceq d0_509 rfl,
   fun _ _ _ => xl_ic d0_512 (by decide +kernel),
   fun _ _ _ hc => xl_irz d0_513 xrt0 hc,
   fun _ _ _ _ _ _ => xl_aln d0_514 rfl,
   fun _ _ _ _ _ _ => xl_aln d0_515 rfl,
   fun _ _ _ _ _ _ => xl_iln d0_516 rfl,
   fun _ _ _ => xl_ic d0_517 (by decide +kernel),
   fun _ _ _ _ _ => xl_iadd d0_518⟩
theorem x0_p5 : (∀ ls a i st h, zz_Y 0 (519, ls, .int i :: .ref a :: st, h) = mo_ia (hp_g h a) i a 0 520 ls st h) ∧ (∀ l1 l2 l3 x st h, zz_Y 0 (520, [some (.ref x), l1, l2, l3], st, h) = zz_Y 0 (521, [some (.ref x), l1, l2, l3], .ref x :: st, h)) ∧ (∀ l0 l1 l2 x st h, zz_Y 0 (521, [l0, l1, l2, some (.int x)], st, h) = zz_Y 0 (522, [l0, l1, l2, some (.int x)], .int x :: st, h)) ∧ (∀ ls st h, zz_Y 0 (522, ls, st, h) = zz_Y 0 (523, ls, .int (nI 2) :: st, h)) ∧ (∀ ls a b st h, zz_Y 0 (523, ls, .int b :: .int a :: st, h) = zz_Y 0 (524, ls, .int (a + b) :: st, h)) ∧ (∀ ls a i st h, zz_Y 0 (524, ls, .int i :: .ref a :: st, h) = mo_ia (hp_g h a) i a 0 525 ls st h) ∧ (∀ ls a st h, zz_Y 0 (525, ls, .int a :: st, h) = if a = nI 0 then zz_Y 0 (532, ls, st, h) else zz_Y 0 (528, ls, st, h)) ∧ (∀ ls st h, zz_Y 0 (528, ls, st, h) = zz_Y 0 (529, ls, .int (nI 1) :: st, h)) ∧ (∀ ls st h, zz_Y 0 (529, ls, st, h) = zz_Y 0 (533, ls, st, h)) ∧ (∀ ls st h, zz_Y 0 (532, ls, st, h) = zz_Y 0 (533, ls, .int (nI 0) :: st, h)) ∧ (∀ ls a0 a1 a2 h, zz_Y 0 (533, ls, [a2, a1, a0], h) = mo_k 0 536 ls [] (zz_run 96 [a0, a1, a2] h)) ∧ (∀ l0 l1 l3 x st h, zz_Y 0 (536, [l0, l1, some (.ref x), l3], st, h) = zz_Y 0 (537, [l0, l1, some (.ref x), l3], .ref x :: st, h)) ∧ (∀ l1 l2 l3 x st h, zz_Y 0 (537, [some (.ref x), l1, l2, l3], st, h) = zz_Y 0 (538, [some (.ref x), l1, l2, l3], .ref x :: st, h)) ∧ (∀ l0 l1 l2 x st h, zz_Y 0 (538, [l0, l1, l2, some (.int x)], st, h) = zz_Y 0 (539, [l0, l1, l2, some (.int x)], .int x :: st, h)) ∧ (∀ ls st h, zz_Y 0 (539, ls, st, h) = zz_Y 0 (540, ls, .int (nI 1) :: st, h)) ∧ (∀ ls a b st h, zz_Y 0 (540, ls, .int b :: .int a :: st, h) = zz_Y 0 (541, ls, .int (a + b) :: st, h)) ∧ (∀ ls a i st h, zz_Y 0 (541, ls, .int i :: .ref a :: st, h) = mo_ia (hp_g h a) i a 0 542 ls st h) ∧ (∀ l1 l2 l3 x st h, zz_Y 0 (542, [some (.ref x), l1, l2, l3], st, h) = zz_Y 0 (543, [some (.ref x), l1, l2, l3], .ref x :: st, h)) ∧ (∀ l0 l1 l2 x st h, zz_Y 0 (543, [l0, l1, l2, some (.int x)], st, h) = zz_Y 0 (544, [l0, l1, l2, some (.int x)], .int x :: st, h)) ∧ (∀ ls st h, zz_Y 0 (544, ls, st, h) = zz_Y 0 (545, ls, .int (nI 2) :: st, h)) ∧ (∀ ls a b st h, zz_Y 0 (545, ls, .int b :: .int a :: st, h) = zz_Y 0 (546, ls, .int (a + b) :: st, h)) ∧ (∀ ls a i st h, zz_Y 0 (546, ls, .int i :: .ref a :: st, h) = mo_ia (hp_g h a) i a 0 547 ls st h) ∧ (∀ ls a st h, zz_Y 0 (547, ls, .int a :: st, h) = if a = nI 0 then zz_Y 0 (554, ls, st, h) else zz_Y 0 (550, ls, st, h)) ∧ (∀ ls st h, zz_Y 0 (550, ls, st, h) = zz_Y 0 (551, ls, .int (nI 1) :: st, h)) ∧ (∀ ls st h, zz_Y 0 (551, ls, st, h) = zz_Y 0 (555, ls, st, h)) ∧ (∀ ls st h, zz_Y 0 (554, ls, st, h) = zz_Y 0 (555, ls, .int (nI 0) :: st, h)) ∧ (∀ ls a0 a1 a2 s0 h, zz_Y 0 (555, ls, [a2, a1, a0, s0], h) = mo_k 0 558 ls [s0] (zz_run 215 [a0, a1, a2] h)) ∧ (∀ ls a b st h, zz_Y 0 (558, ls, .int b :: .int a :: st, h) = if a = b then zz_Y 0 (1096, ls, st, h) else zz_Y 0 (561, ls, st, h)) ∧ (∀ ls st h, zz_Y 0 (561, ls, st, h) = zz_Y 0 (562, ls, .int (nI 0) :: st, h)) ∧ (∀ ls v h, v = nI 0 ∨ v = nI 1 → zz_Y 0 (562, ls, [.int v], h) = some (some (.int v), h)) ∧ (∀ l0 l2 l3 x st h, zz_Y 0 (563, [l0, some (.ref x), l2, l3], st, h) = zz_Y 0 (564, [l0, some (.ref x), l2, l3], .ref x :: st, h)) ∧ (∀ l1 l2 l3 x st h, zz_Y 0 (564, [some (.ref x), l1, l2, l3], st, h) = zz_Y 0 (565, [some (.ref x), l1, l2, l3], .ref x :: st, h)) ∧ (∀ l0 l1 l2 x st h, zz_Y 0 (565, [l0, l1, l2, some (.int x)], st, h) = zz_Y 0 (566, [l0, l1, l2, some (.int x)], .int x :: st, h)) ∧ (∀ ls st h, zz_Y 0 (566, ls, st, h) = zz_Y 0 (567, ls, .int (nI 1) :: st, h)) ∧ (∀ ls a b st h, zz_Y 0 (567, ls, .int b :: .int a :: st, h) = zz_Y 0 (568, ls, .int (a + b) :: st, h)) ∧ (∀ ls a i st h, zz_Y 0 (568, ls, .int i :: .ref a :: st, h) = mo_ia (hp_g h a) i a 0 569 ls st h) ∧ (∀ l1 l2 l3 x st h, zz_Y 0 (569, [some (.ref x), l1, l2, l3], st, h) = zz_Y 0 (570, [some (.ref x), l1, l2, l3], .ref x :: st, h)) ∧ (∀ l0 l1 l2 x st h, zz_Y 0 (570, [l0, l1, l2, some (.int x)], st, h) = zz_Y 0 (571, [l0, l1, l2, some (.int x)], .int x :: st, h)) ∧ (∀ ls st h, zz_Y 0 (571, ls, st, h) = zz_Y 0 (572, ls, .int (nI 2) :: st, h)) ∧ (∀ ls a b st h, zz_Y 0 (572, ls, .int b :: .int a :: st, h) = zz_Y 0 (573, ls, .int (a + b) :: st, h)) ∧ (∀ ls a i st h, zz_Y 0 (573, ls, .int i :: .ref a :: st, h) = mo_ia (hp_g h a) i a 0 574 ls st h) ∧ (∀ ls a0 a1 a2 h, zz_Y 0 (574, ls, [a2, a1, a0], h) = mo_k 0 577 ls [] (zz_run 98 [a0, a1, a2] h)) ∧ (∀ l0 l1 l3 x st h, zz_Y 0 (577, [l0, l1, some (.ref x), l3], st, h) = zz_Y 0 (578, [l0, l1, some (.ref x), l3], .ref x :: st, h)) ∧ (∀ l1 l2 l3 x st h, zz_Y 0 (578, [some (.ref x), l1, l2, l3], st, h) = zz_Y 0 (579, [some (.ref x), l1, l2, l3], .ref x :: st, h)) ∧ (∀ l0 l1 l2 x st h, zz_Y 0 (579, [l0, l1, l2, some (.int x)], st, h) = zz_Y 0 (580, [l0, l1, l2, some (.int x)], .int x :: st, h)) ∧ (∀ ls st h, zz_Y 0 (580, ls, st, h) = zz_Y 0 (581, ls, .int (nI 1) :: st, h)) ∧ (∀ ls a b st h, zz_Y 0 (581, ls, .int b :: .int a :: st, h) = zz_Y 0 (582, ls, .int (a + b) :: st, h)) ∧ (∀ ls a i st h, zz_Y 0 (582, ls, .int i :: .ref a :: st, h) = mo_ia (hp_g h a) i a 0 583 ls st h) ∧ (∀ l1 l2 l3 x st h, zz_Y 0 (583, [some (.ref x), l1, l2, l3], st, h) = zz_Y 0 (584, [some (.ref x), l1, l2, l3], .ref x :: st, h)) ∧ (∀ l0 l1 l2 x st h, zz_Y 0 (584, [l0, l1, l2, some (.int x)], st, h) = zz_Y 0 (585, [l0, l1, l2, some (.int x)], .int x :: st, h)) ∧ (∀ ls st h, zz_Y 0 (585, ls, st, h) = zz_Y 0 (586, ls, .int (nI 2) :: st, h)) ∧ (∀ ls a b st h, zz_Y 0 (586, ls, .int b :: .int a :: st, h) = zz_Y 0 (587, ls, .int (a + b) :: st, h)) ∧ (∀ ls a i st h, zz_Y 0 (587, ls, .int i :: .ref a :: st, h) = mo_ia (hp_g h a) i a 0 588 ls st h) ∧ (∀ ls a0 a1 a2 s0 h, zz_Y 0 (588, ls, [a2, a1, a0, s0], h) = mo_k 0 591 ls [s0] (zz_run 216 [a0, a1, a2] h)) ∧ (∀ ls a b st h, zz_Y 0 (591, ls, .int b :: .int a :: st, h) = if a = b then zz_Y 0 (1096, ls, st, h) else zz_Y 0 (594, ls, st, h)) ∧ (∀ ls st h, zz_Y 0 (594, ls, st, h) = zz_Y 0 (595, ls, .int (nI 0) :: st, h)) ∧ (∀ ls v h, v = nI 0 ∨ v = nI 1 → zz_Y 0 (595, ls, [.int v], h) = some (some (.int v), h)) ∧ (∀ l0 l2 l3 x st h, zz_Y 0 (596, [l0, some (.ref x), l2, l3], st, h) = zz_Y 0 (597, [l0, some (.ref x), l2, l3], .ref x :: st, h)) ∧ (∀ ls a0 h, zz_Y 0 (597, ls, [a0], h) = mo_k 0 600 ls [] (zz_run 99 [a0] h)) ∧ (∀ l0 l1 l3 x st h, zz_Y 0 (600, [l0, l1, some (.ref x), l3], st, h) = zz_Y 0 (601, [l0, l1, some (.ref x), l3], .ref x :: st, h)) :=
  ⟨fun _ _ _ _ _ => xl_ia d0_519,
   fun _ _ _ _ _ _ => xl_aln d0_520 rfl,
   fun _ _ _ _ _ _ => xl_iln d0_521 rfl,
   fun _ _ _ => xl_ic d0_522 (by decide +kernel),
   fun _ _ _ _ _ => xl_iadd d0_523,
   fun _ _ _ _ _ => xl_ia d0_524,
   fun _ _ _ _ => xl_ifeq d0_525 rfl,
   fun _ _ _ => xl_ic d0_528 (by decide +kernel),
   fun _ _ _ => xl_goto d0_529 rfl,
   fun _ _ _ => xl_ic d0_532 (by decide +kernel),
   fun ls a0 a1 a2 h => xl_cv (As := [a0, a1, a2]) (st := []) d0_533 xco0 xm_13_65 (congrArg Nat.succ xnp96) (by decide +kernel) rfl,
   fun _ _ _ _ _ _ => xl_aln d0_536 rfl,
   fun _ _ _ _ _ _ => xl_aln d0_537 rfl,
   fun _ _ _ _ _ _ => xl_iln d0_538 rfl,
   fun _ _ _ => xl_ic d0_539 (by decide +kernel),
   fun _ _ _ _ _ => xl_iadd d0_540,
   fun _ _ _ _ _ => xl_ia d0_541,
   fun _ _ _ _ _ _ => xl_aln d0_542 rfl,
   fun _ _ _ _ _ _ => xl_iln d0_543 rfl,
   fun _ _ _ => xl_ic d0_544 (by decide +kernel),
   fun _ _ _ _ _ => xl_iadd d0_545,
   fun _ _ _ _ _ => xl_ia d0_546,
   fun _ _ _ _ => xl_ifeq d0_547 rfl,
   fun _ _ _ => xl_ic d0_550 (by decide +kernel),
   fun _ _ _ => xl_goto d0_551 rfl,
   fun _ _ _ => xl_ic d0_554 (by decide +kernel),
   fun ls a0 a1 a2 s0 h => xl_cv (As := [a0, a1, a2]) (st := [s0]) d0_555 xco0 xm_13_69 (congrArg Nat.succ xnp215) (by decide +kernel) rfl,
   fun _ _ _ _ _ => xl_iceq d0_558 rfl,
   fun _ _ _ => xl_ic d0_561 (by decide +kernel),
   fun _ _ _ hc => xl_irz d0_562 xrt0 hc,
   fun _ _ _ _ _ _ => xl_aln d0_563 rfl,
   fun _ _ _ _ _ _ => xl_aln d0_564 rfl,
   fun _ _ _ _ _ _ => xl_iln d0_565 rfl,
   fun _ _ _ => xl_ic d0_566 (by decide +kernel),
   fun _ _ _ _ _ => xl_iadd d0_567,
   fun _ _ _ _ _ => xl_ia d0_568,
   fun _ _ _ _ _ _ => xl_aln d0_569 rfl,
   fun _ _ _ _ _ _ => xl_iln d0_570 rfl,
   fun _ _ _ => xl_ic d0_571 (by decide +kernel),
   fun _ _ _ _ _ => xl_iadd d0_572,
   fun _ _ _ _ _ => xl_ia d0_573,
   fun ls a0 a1 a2 h => xl_cv (As := [a0, a1, a2]) (st := []) d0_574 xco0 xm_13_70 (congrArg Nat.succ xnp98) (by decide +kernel) rfl,
   fun _ _ _ _ _ _ => xl_aln d0_577 rfl,
   fun _ _ _ _ _ _ => xl_aln d0_578 rfl,
   fun _ _ _ _ _ _ => xl_iln d0_579 rfl,
   fun _ _ _ => xl_ic d0_580 (by decide +kernel),
   fun _ _ _ _ _ => xl_iadd d0_581,
   fun _ _ _ _ _ => xl_ia d0_582,
   fun _ _ _ _ _ _ => xl_aln d0_583 rfl,
   fun _ _ _ _ _ _ => xl_iln d0_584 rfl,
   fun _ _ _ => xl_ic d0_585 (by decide +kernel),
   fun _ _ _ _ _ => xl_iadd d0_586,
   fun _ _ _ _ _ => xl_ia d0_587,
   fun ls a0 a1 a2 s0 h => xl_cv (As := [a0, a1, a2]) (st := [s0]) d0_588 xco0 xm_13_73 (congrArg Nat.succ xnp216) (by decide +kernel) rfl,
   fun _ _ _ _ _ => xl_iceq d0_591 rfl,
   fun _ _ _ => xl_ic d0_594 (by decide +kernel),
   fun _ _ _ hc => xl_irz d0_595 xrt0 hc,
   fun _ _ _ _ _ _ => xl_aln d0_596 rfl,
   fun ls a0 h => xl_cv (As := [a0]) (st := []) d0_597 xco0 xm_13_74 (congrArg Nat.succ xnp99) (by decide +kernel) rfl,
   fun _ _ _ _ _ _ => xl_aln d0_600 rfl⟩
theorem x0_p6 : (∀ ls a0 s0 h, zz_Y 0 (601, ls, [a0, s0], h) = mo_k 0 604 ls [s0] (zz_run 217 [a0] h)) ∧ (∀ ls a b st h, zz_Y 0 (604, ls, .int b :: .int a :: st, h) = if a = b then zz_Y 0 (1096, ls, st, h) else zz_Y 0 (607, ls, st, h)) ∧ (∀ ls st h, zz_Y 0 (607, ls, st, h) = zz_Y 0 (608, ls, .int (nI 0) :: st, h)) ∧ (∀ ls v h, v = nI 0 ∨ v = nI 1 → zz_Y 0 (608, ls, [.int v], h) = some (some (.int v), h)) ∧ (∀ l0 l2 l3 x st h, zz_Y 0 (609, [l0, some (.ref x), l2, l3], st, h) = zz_Y 0 (610, [l0, some (.ref x), l2, l3], .ref x :: st, h)) ∧ (∀ l1 l2 l3 x st h, zz_Y 0 (610, [some (.ref x), l1, l2, l3], st, h) = zz_Y 0 (611, [some (.ref x), l1, l2, l3], .ref x :: st, h)) ∧ (∀ l0 l1 l2 x st h, zz_Y 0 (611, [l0, l1, l2, some (.int x)], st, h) = zz_Y 0 (612, [l0, l1, l2, some (.int x)], .int x :: st, h)) ∧ (∀ ls st h, zz_Y 0 (612, ls, st, h) = zz_Y 0 (613, ls, .int (nI 1) :: st, h)) ∧ (∀ ls a b st h, zz_Y 0 (613, ls, .int b :: .int a :: st, h) = zz_Y 0 (614, ls, .int (a + b) :: st, h)) ∧ (∀ ls a i st h, zz_Y 0 (614, ls, .int i :: .ref a :: st, h) = mo_ia (hp_g h a) i a 0 615 ls st h) ∧ (∀ ls a0 a1 h, zz_Y 0 (615, ls, [a1, a0], h) = mo_k 0 618 ls [] (zz_run 101 [a0, a1] h)) ∧ (∀ l0 l1 l3 x st h, zz_Y 0 (618, [l0, l1, some (.ref x), l3], st, h) = zz_Y 0 (619, [l0, l1, some (.ref x), l3], .ref x :: st, h)) ∧ (∀ l1 l2 l3 x st h, zz_Y 0 (619, [some (.ref x), l1, l2, l3], st, h) = zz_Y 0 (620, [some (.ref x), l1, l2, l3], .ref x :: st, h)) ∧ (∀ l0 l1 l2 x st h, zz_Y 0 (620, [l0, l1, l2, some (.int x)], st, h) = zz_Y 0 (621, [l0, l1, l2, some (.int x)], .int x :: st, h)) ∧ (∀ ls st h, zz_Y 0 (621, ls, st, h) = zz_Y 0 (622, ls, .int (nI 1) :: st, h)) ∧ (∀ ls a b st h, zz_Y 0 (622, ls, .int b :: .int a :: st, h) = zz_Y 0 (623, ls, .int (a + b) :: st, h)) ∧ (∀ ls a i st h, zz_Y 0 (623, ls, .int i :: .ref a :: st, h) = mo_ia (hp_g h a) i a 0 624 ls st h) ∧ (∀ ls a0 a1 s0 h, zz_Y 0 (624, ls, [a1, a0, s0], h) = mo_k 0 627 ls [s0] (zz_run 153 [a0, a1] h)) ∧ (∀ ls a b st h, zz_Y 0 (627, ls, .int b :: .int a :: st, h) = if a = b then zz_Y 0 (1096, ls, st, h) else zz_Y 0 (630, ls, st, h)) ∧ (∀ ls st h, zz_Y 0 (630, ls, st, h) = zz_Y 0 (631, ls, .int (nI 0) :: st, h)) ∧ (∀ ls v h, v = nI 0 ∨ v = nI 1 → zz_Y 0 (631, ls, [.int v], h) = some (some (.int v), h)) ∧ (∀ l0 l2 l3 x st h, zz_Y 0 (632, [l0, some (.ref x), l2, l3], st, h) = zz_Y 0 (633, [l0, some (.ref x), l2, l3], .ref x :: st, h)) ∧ (∀ l1 l2 l3 x st h, zz_Y 0 (633, [some (.ref x), l1, l2, l3], st, h) = zz_Y 0 (634, [some (.ref x), l1, l2, l3], .ref x :: st, h)) ∧ (∀ l0 l1 l2 x st h, zz_Y 0 (634, [l0, l1, l2, some (.int x)], st, h) = zz_Y 0 (635, [l0, l1, l2, some (.int x)], .int x :: st, h)) ∧ (∀ ls st h, zz_Y 0 (635, ls, st, h) = zz_Y 0 (636, ls, .int (nI 1) :: st, h)) ∧ (∀ ls a b st h, zz_Y 0 (636, ls, .int b :: .int a :: st, h) = zz_Y 0 (637, ls, .int (a + b) :: st, h)) ∧ (∀ ls a i st h, zz_Y 0 (637, ls, .int i :: .ref a :: st, h) = mo_ia (hp_g h a) i a 0 638 ls st h) ∧ (∀ l1 l2 l3 x st h, zz_Y 0 (638, [some (.ref x), l1, l2, l3], st, h) = zz_Y 0 (639, [some (.ref x), l1, l2, l3], .ref x :: st, h)) ∧ (∀ l0 l1 l2 x st h, zz_Y 0 (639, [l0, l1, l2, some (.int x)], st, h) = zz_Y 0 (640, [l0, l1, l2, some (.int x)], .int x :: st, h)) ∧ (∀ ls st h, zz_Y 0 (640, ls, st, h) = zz_Y 0 (641, ls, .int (nI 2) :: st, h)) ∧ (∀ ls a b st h, zz_Y 0 (641, ls, .int b :: .int a :: st, h) = zz_Y 0 (642, ls, .int (a + b) :: st, h)) ∧ (∀ ls a i st h, zz_Y 0 (642, ls, .int i :: .ref a :: st, h) = mo_ia (hp_g h a) i a 0 643 ls st h) ∧ (∀ ls a0 a1 a2 h, zz_Y 0 (643, ls, [a2, a1, a0], h) = mo_k 0 646 ls [] (zz_run 116 [a0, a1, a2] h)) ∧ (∀ l0 l1 l3 x st h, zz_Y 0 (646, [l0, l1, some (.ref x), l3], st, h) = zz_Y 0 (647, [l0, l1, some (.ref x), l3], .ref x :: st, h)) ∧ (∀ l1 l2 l3 x st h, zz_Y 0 (647, [some (.ref x), l1, l2, l3], st, h) = zz_Y 0 (648, [some (.ref x), l1, l2, l3], .ref x :: st, h)) ∧ (∀ l0 l1 l2 x st h, zz_Y 0 (648, [l0, l1, l2, some (.int x)], st, h) = zz_Y 0 (649, [l0, l1, l2, some (.int x)], .int x :: st, h)) ∧ (∀ ls st h, zz_Y 0 (649, ls, st, h) = zz_Y 0 (650, ls, .int (nI 1) :: st, h)) ∧ (∀ ls a b st h, zz_Y 0 (650, ls, .int b :: .int a :: st, h) = zz_Y 0 (651, ls, .int (a + b) :: st, h)) ∧ (∀ ls a i st h, zz_Y 0 (651, ls, .int i :: .ref a :: st, h) = mo_ia (hp_g h a) i a 0 652 ls st h) ∧ (∀ l1 l2 l3 x st h, zz_Y 0 (652, [some (.ref x), l1, l2, l3], st, h) = zz_Y 0 (653, [some (.ref x), l1, l2, l3], .ref x :: st, h)) ∧ (∀ l0 l1 l2 x st h, zz_Y 0 (653, [l0, l1, l2, some (.int x)], st, h) = zz_Y 0 (654, [l0, l1, l2, some (.int x)], .int x :: st, h)) ∧ (∀ ls st h, zz_Y 0 (654, ls, st, h) = zz_Y 0 (655, ls, .int (nI 2) :: st, h)) ∧ (∀ ls a b st h, zz_Y 0 (655, ls, .int b :: .int a :: st, h) = zz_Y 0 (656, ls, .int (a + b) :: st, h)) ∧ (∀ ls a i st h, zz_Y 0 (656, ls, .int i :: .ref a :: st, h) = mo_ia (hp_g h a) i a 0 657 ls st h) ∧ (∀ ls a0 a1 a2 s0 h, zz_Y 0 (657, ls, [a2, a1, a0, s0], h) = mo_k 0 660 ls [s0] (zz_run 179 [a0, a1, a2] h)) ∧ (∀ ls a b st h, zz_Y 0 (660, ls, .int b :: .int a :: st, h) = if a = b then zz_Y 0 (1096, ls, st, h) else zz_Y 0 (663, ls, st, h)) ∧ (∀ ls st h, zz_Y 0 (663, ls, st, h) = zz_Y 0 (664, ls, .int (nI 0) :: st, h)) ∧ (∀ ls v h, v = nI 0 ∨ v = nI 1 → zz_Y 0 (664, ls, [.int v], h) = some (some (.int v), h)) ∧ (∀ l0 l2 l3 x st h, zz_Y 0 (665, [l0, some (.ref x), l2, l3], st, h) = zz_Y 0 (666, [l0, some (.ref x), l2, l3], .ref x :: st, h)) ∧ (∀ l1 l2 l3 x st h, zz_Y 0 (666, [some (.ref x), l1, l2, l3], st, h) = zz_Y 0 (667, [some (.ref x), l1, l2, l3], .ref x :: st, h)) ∧ (∀ l0 l1 l2 x st h, zz_Y 0 (667, [l0, l1, l2, some (.int x)], st, h) = zz_Y 0 (668, [l0, l1, l2, some (.int x)], .int x :: st, h)) ∧ (∀ ls st h, zz_Y 0 (668, ls, st, h) = zz_Y 0 (669, ls, .int (nI 1) :: st, h)) ∧ (∀ ls a b st h, zz_Y 0 (669, ls, .int b :: .int a :: st, h) = zz_Y 0 (670, ls, .int (a + b) :: st, h)) ∧ (∀ ls a i st h, zz_Y 0 (670, ls, .int i :: .ref a :: st, h) = mo_ia (hp_g h a) i a 0 671 ls st h) ∧ (∀ l1 l2 l3 x st h, zz_Y 0 (671, [some (.ref x), l1, l2, l3], st, h) = zz_Y 0 (672, [some (.ref x), l1, l2, l3], .ref x :: st, h)) ∧ (∀ l0 l1 l2 x st h, zz_Y 0 (672, [l0, l1, l2, some (.int x)], st, h) = zz_Y 0 (673, [l0, l1, l2, some (.int x)], .int x :: st, h)) ∧ (∀ ls st h, zz_Y 0 (673, ls, st, h) = zz_Y 0 (674, ls, .int (nI 2) :: st, h)) ∧ (∀ ls a b st h, zz_Y 0 (674, ls, .int b :: .int a :: st, h) = zz_Y 0 (675, ls, .int (a + b) :: st, h)) ∧ (∀ ls a i st h, zz_Y 0 (675, ls, .int i :: .ref a :: st, h) = mo_ia (hp_g h a) i a 0 676 ls st h) ∧ (∀ ls a0 a1 a2 h, zz_Y 0 (676, ls, [a2, a1, a0], h) = mo_k 0 679 ls [] (zz_run 120 [a0, a1, a2] h)) :=
  ⟨fun ls a0 s0 h => xl_cv (As := [a0]) (st := [s0]) d0_601 xco0 xm_13_77 (congrArg Nat.succ xnp217) (by decide +kernel) rfl,
   fun _ _ _ _ _ => xl_iceq d0_604 rfl,
   fun _ _ _ => xl_ic d0_607 (by decide +kernel),
   fun _ _ _ hc => xl_irz d0_608 xrt0 hc,
   fun _ _ _ _ _ _ => xl_aln d0_609 rfl,
   fun _ _ _ _ _ _ => xl_aln d0_610 rfl,
   fun _ _ _ _ _ _ => xl_iln d0_611 rfl,
   fun _ _ _ => xl_ic d0_612 (by decide +kernel),
   fun _ _ _ _ _ => xl_iadd d0_613,
   fun _ _ _ _ _ => xl_ia d0_614,
   fun ls a0 a1 h => xl_cv (As := [a0, a1]) (st := []) d0_615 xco0 xm_13_78 (congrArg Nat.succ xnp101) (by decide +kernel) rfl,
   fun _ _ _ _ _ _ => xl_aln d0_618 rfl,
   fun _ _ _ _ _ _ => xl_aln d0_619 rfl,
   fun _ _ _ _ _ _ => xl_iln d0_620 rfl,
   fun _ _ _ => xl_ic d0_621 (by decide +kernel),
   fun _ _ _ _ _ => xl_iadd d0_622,
   fun _ _ _ _ _ => xl_ia d0_623,
   fun ls a0 a1 s0 h => xl_cv (As := [a0, a1]) (st := [s0]) d0_624 xco0 xm_13_81 (congrArg Nat.succ xnp153) (by decide +kernel) rfl,
   fun _ _ _ _ _ => xl_iceq d0_627 rfl,
   fun _ _ _ => xl_ic d0_630 (by decide +kernel),
   fun _ _ _ hc => xl_irz d0_631 xrt0 hc,
   fun _ _ _ _ _ _ => xl_aln d0_632 rfl,
   fun _ _ _ _ _ _ => xl_aln d0_633 rfl,
   fun _ _ _ _ _ _ => xl_iln d0_634 rfl,
   fun _ _ _ => xl_ic d0_635 (by decide +kernel),
   fun _ _ _ _ _ => xl_iadd d0_636,
   fun _ _ _ _ _ => xl_ia d0_637,
   fun _ _ _ _ _ _ => xl_aln d0_638 rfl,
   fun _ _ _ _ _ _ => xl_iln d0_639 rfl,
   fun _ _ _ => xl_ic d0_640 (by decide +kernel),
   fun _ _ _ _ _ => xl_iadd d0_641,
   fun _ _ _ _ _ => xl_ia d0_642,
   fun ls a0 a1 a2 h => xl_cv (As := [a0, a1, a2]) (st := []) d0_643 xco0 xm_13_82 (congrArg Nat.succ xnp116) (by decide +kernel) rfl,
   fun _ _ _ _ _ _ => xl_aln d0_646 rfl,
   fun _ _ _ _ _ _ => xl_aln d0_647 rfl,
   fun _ _ _ _ _ _ => xl_iln d0_648 rfl,
   fun _ _ _ => xl_ic d0_649 (by decide +kernel),
   fun _ _ _ _ _ => xl_iadd d0_650,
   fun _ _ _ _ _ => xl_ia d0_651,
   fun _ _ _ _ _ _ => xl_aln d0_652 rfl,
   fun _ _ _ _ _ _ => xl_iln d0_653 rfl,
   fun _ _ _ => xl_ic d0_654 (by decide +kernel),
   fun _ _ _ _ _ => xl_iadd d0_655,
   fun _ _ _ _ _ => xl_ia d0_656,
   fun ls a0 a1 a2 s0 h => xl_cv (As := [a0, a1, a2]) (st := [s0]) d0_657 xco0 xm_13_85 (congrArg Nat.succ xnp179) (by decide +kernel) rfl,
   fun _ _ _ _ _ => xl_iceq d0_660 rfl,
   fun _ _ _ => xl_ic d0_663 (by decide +kernel),
   fun _ _ _ hc => xl_irz d0_664 xrt0 hc,
   fun _ _ _ _ _ _ => xl_aln d0_665 rfl,
   fun _ _ _ _ _ _ => xl_aln d0_666 rfl,
   fun _ _ _ _ _ _ => xl_iln d0_667 rfl,
   fun _ _ _ => xl_ic d0_668 (by decide +kernel),
   fun _ _ _ _ _ => xl_iadd d0_669,
   fun _ _ _ _ _ => xl_ia d0_670,
   fun _ _ _ _ _ _ => xl_aln d0_671 rfl,
   fun _ _ _ _ _ _ => xl_iln d0_672 rfl,
   fun _ _ _ => xl_ic d0_673 (by decide +kernel),
   fun _ _ _ _ _ => xl_iadd d0_674,
   fun _ _ _ _ _ => xl_ia d0_675,
   fun ls a0 a1 a2 h => xl_cv (As := [a0, a1, a2]) (st := []) d0_676 xco0 xm_13_86 (congrArg Nat.succ xnp120) (by decide +kernel) rfl⟩
theorem x0_p7 : (∀ l0 l1 l3 x st h, zz_Y 0 (679, [l0, l1, some (.ref x), l3], st, h) = zz_Y 0 (680, [l0, l1, some (.ref x), l3], .ref x :: st, h)) ∧ (∀ l1 l2 l3 x st h, zz_Y 0 (680, [some (.ref x), l1, l2, l3], st, h) = zz_Y 0 (681, [some (.ref x), l1, l2, l3], .ref x :: st, h)) ∧ (∀ l0 l1 l2 x st h, zz_Y 0 (681, [l0, l1, l2, some (.int x)], st, h) = zz_Y 0 (682, [l0, l1, l2, some (.int x)], .int x :: st, h)) ∧ (∀ ls st h, zz_Y 0 (682, ls, st, h) = zz_Y 0 (683, ls, .int (nI 1) :: st, h)) ∧ (∀ ls a b st h, zz_Y 0 (683, ls, .int b :: .int a :: st, h) = zz_Y 0 (684, ls, .int (a + b) :: st, h)) ∧ (∀ ls a i st h, zz_Y 0 (684, ls, .int i :: .ref a :: st, h) = mo_ia (hp_g h a) i a 0 685 ls st h) ∧ (∀ l1 l2 l3 x st h, zz_Y 0 (685, [some (.ref x), l1, l2, l3], st, h) = zz_Y 0 (686, [some (.ref x), l1, l2, l3], .ref x :: st, h)) ∧ (∀ l0 l1 l2 x st h, zz_Y 0 (686, [l0, l1, l2, some (.int x)], st, h) = zz_Y 0 (687, [l0, l1, l2, some (.int x)], .int x :: st, h)) ∧ (∀ ls st h, zz_Y 0 (687, ls, st, h) = zz_Y 0 (688, ls, .int (nI 2) :: st, h)) ∧ (∀ ls a b st h, zz_Y 0 (688, ls, .int b :: .int a :: st, h) = zz_Y 0 (689, ls, .int (a + b) :: st, h)) ∧ (∀ ls a i st h, zz_Y 0 (689, ls, .int i :: .ref a :: st, h) = mo_ia (hp_g h a) i a 0 690 ls st h) ∧ (∀ ls a0 a1 a2 s0 h, zz_Y 0 (690, ls, [a2, a1, a0, s0], h) = mo_k 0 693 ls [s0] (zz_run 182 [a0, a1, a2] h)) ∧ (∀ ls a b st h, zz_Y 0 (693, ls, .int b :: .int a :: st, h) = if a = b then zz_Y 0 (1096, ls, st, h) else zz_Y 0 (696, ls, st, h)) ∧ (∀ ls st h, zz_Y 0 (696, ls, st, h) = zz_Y 0 (697, ls, .int (nI 0) :: st, h)) ∧ (∀ ls v h, v = nI 0 ∨ v = nI 1 → zz_Y 0 (697, ls, [.int v], h) = some (some (.int v), h)) ∧ (∀ l0 l2 l3 x st h, zz_Y 0 (698, [l0, some (.ref x), l2, l3], st, h) = zz_Y 0 (699, [l0, some (.ref x), l2, l3], .ref x :: st, h)) ∧ (∀ l1 l2 l3 x st h, zz_Y 0 (699, [some (.ref x), l1, l2, l3], st, h) = zz_Y 0 (700, [some (.ref x), l1, l2, l3], .ref x :: st, h)) ∧ (∀ l0 l1 l2 x st h, zz_Y 0 (700, [l0, l1, l2, some (.int x)], st, h) = zz_Y 0 (701, [l0, l1, l2, some (.int x)], .int x :: st, h)) ∧ (∀ ls st h, zz_Y 0 (701, ls, st, h) = zz_Y 0 (702, ls, .int (nI 1) :: st, h)) ∧ (∀ ls a b st h, zz_Y 0 (702, ls, .int b :: .int a :: st, h) = zz_Y 0 (703, ls, .int (a + b) :: st, h)) ∧ (∀ ls a i st h, zz_Y 0 (703, ls, .int i :: .ref a :: st, h) = mo_ia (hp_g h a) i a 0 704 ls st h) ∧ (∀ l1 l2 l3 x st h, zz_Y 0 (704, [some (.ref x), l1, l2, l3], st, h) = zz_Y 0 (705, [some (.ref x), l1, l2, l3], .ref x :: st, h)) ∧ (∀ l0 l1 l2 x st h, zz_Y 0 (705, [l0, l1, l2, some (.int x)], st, h) = zz_Y 0 (706, [l0, l1, l2, some (.int x)], .int x :: st, h)) ∧ (∀ ls st h, zz_Y 0 (706, ls, st, h) = zz_Y 0 (707, ls, .int (nI 2) :: st, h)) ∧ (∀ ls a b st h, zz_Y 0 (707, ls, .int b :: .int a :: st, h) = zz_Y 0 (708, ls, .int (a + b) :: st, h)) ∧ (∀ ls a i st h, zz_Y 0 (708, ls, .int i :: .ref a :: st, h) = mo_ia (hp_g h a) i a 0 709 ls st h) ∧ (∀ l1 l2 l3 x st h, zz_Y 0 (709, [some (.ref x), l1, l2, l3], st, h) = zz_Y 0 (710, [some (.ref x), l1, l2, l3], .ref x :: st, h)) ∧ (∀ l0 l1 l2 x st h, zz_Y 0 (710, [l0, l1, l2, some (.int x)], st, h) = zz_Y 0 (711, [l0, l1, l2, some (.int x)], .int x :: st, h)) ∧ (∀ ls st h, zz_Y 0 (711, ls, st, h) = zz_Y 0 (712, ls, .int (nI 3) :: st, h)) ∧ (∀ ls a b st h, zz_Y 0 (712, ls, .int b :: .int a :: st, h) = zz_Y 0 (713, ls, .int (a + b) :: st, h)) ∧ (∀ ls a i st h, zz_Y 0 (713, ls, .int i :: .ref a :: st, h) = mo_ia (hp_g h a) i a 0 714 ls st h) ∧ (∀ ls a0 a1 a2 a3 h, zz_Y 0 (714, ls, [a3, a2, a1, a0], h) = mo_k 0 717 ls [] (zz_run 123 [a0, a1, a2, a3] h)) ∧ (∀ l0 l1 l3 x st h, zz_Y 0 (717, [l0, l1, some (.ref x), l3], st, h) = zz_Y 0 (718, [l0, l1, some (.ref x), l3], .ref x :: st, h)) ∧ (∀ l1 l2 l3 x st h, zz_Y 0 (718, [some (.ref x), l1, l2, l3], st, h) = zz_Y 0 (719, [some (.ref x), l1, l2, l3], .ref x :: st, h)) ∧ (∀ l0 l1 l2 x st h, zz_Y 0 (719, [l0, l1, l2, some (.int x)], st, h) = zz_Y 0 (720, [l0, l1, l2, some (.int x)], .int x :: st, h)) ∧ (∀ ls st h, zz_Y 0 (720, ls, st, h) = zz_Y 0 (721, ls, .int (nI 1) :: st, h)) ∧ (∀ ls a b st h, zz_Y 0 (721, ls, .int b :: .int a :: st, h) = zz_Y 0 (722, ls, .int (a + b) :: st, h)) ∧ (∀ ls a i st h, zz_Y 0 (722, ls, .int i :: .ref a :: st, h) = mo_ia (hp_g h a) i a 0 723 ls st h) ∧ (∀ l1 l2 l3 x st h, zz_Y 0 (723, [some (.ref x), l1, l2, l3], st, h) = zz_Y 0 (724, [some (.ref x), l1, l2, l3], .ref x :: st, h)) ∧ (∀ l0 l1 l2 x st h, zz_Y 0 (724, [l0, l1, l2, some (.int x)], st, h) = zz_Y 0 (725, [l0, l1, l2, some (.int x)], .int x :: st, h)) ∧ (∀ ls st h, zz_Y 0 (725, ls, st, h) = zz_Y 0 (726, ls, .int (nI 2) :: st, h)) ∧ (∀ ls a b st h, zz_Y 0 (726, ls, .int b :: .int a :: st, h) = zz_Y 0 (727, ls, .int (a + b) :: st, h)) ∧ (∀ ls a i st h, zz_Y 0 (727, ls, .int i :: .ref a :: st, h) = mo_ia (hp_g h a) i a 0 728 ls st h) ∧ (∀ l1 l2 l3 x st h, zz_Y 0 (728, [some (.ref x), l1, l2, l3], st, h) = zz_Y 0 (729, [some (.ref x), l1, l2, l3], .ref x :: st, h)) ∧ (∀ l0 l1 l2 x st h, zz_Y 0 (729, [l0, l1, l2, some (.int x)], st, h) = zz_Y 0 (730, [l0, l1, l2, some (.int x)], .int x :: st, h)) ∧ (∀ ls st h, zz_Y 0 (730, ls, st, h) = zz_Y 0 (731, ls, .int (nI 3) :: st, h)) ∧ (∀ ls a b st h, zz_Y 0 (731, ls, .int b :: .int a :: st, h) = zz_Y 0 (732, ls, .int (a + b) :: st, h)) ∧ (∀ ls a i st h, zz_Y 0 (732, ls, .int i :: .ref a :: st, h) = mo_ia (hp_g h a) i a 0 733 ls st h) ∧ (∀ ls a0 a1 a2 a3 s0 h, zz_Y 0 (733, ls, [a3, a2, a1, a0, s0], h) = mo_k 0 736 ls [s0] (zz_run 185 [a0, a1, a2, a3] h)) ∧ (∀ ls a b st h, zz_Y 0 (736, ls, .int b :: .int a :: st, h) = if a = b then zz_Y 0 (1096, ls, st, h) else zz_Y 0 (739, ls, st, h)) ∧ (∀ ls st h, zz_Y 0 (739, ls, st, h) = zz_Y 0 (740, ls, .int (nI 0) :: st, h)) ∧ (∀ ls v h, v = nI 0 ∨ v = nI 1 → zz_Y 0 (740, ls, [.int v], h) = some (some (.int v), h)) ∧ (∀ l0 l2 l3 x st h, zz_Y 0 (741, [l0, some (.ref x), l2, l3], st, h) = zz_Y 0 (742, [l0, some (.ref x), l2, l3], .ref x :: st, h)) ∧ (∀ l1 l2 l3 x st h, zz_Y 0 (742, [some (.ref x), l1, l2, l3], st, h) = zz_Y 0 (743, [some (.ref x), l1, l2, l3], .ref x :: st, h)) ∧ (∀ l0 l1 l2 x st h, zz_Y 0 (743, [l0, l1, l2, some (.int x)], st, h) = zz_Y 0 (744, [l0, l1, l2, some (.int x)], .int x :: st, h)) ∧ (∀ ls st h, zz_Y 0 (744, ls, st, h) = zz_Y 0 (745, ls, .int (nI 1) :: st, h)) ∧ (∀ ls a b st h, zz_Y 0 (745, ls, .int b :: .int a :: st, h) = zz_Y 0 (746, ls, .int (a + b) :: st, h)) ∧ (∀ ls a i st h, zz_Y 0 (746, ls, .int i :: .ref a :: st, h) = mo_ia (hp_g h a) i a 0 747 ls st h) ∧ (∀ l1 l2 l3 x st h, zz_Y 0 (747, [some (.ref x), l1, l2, l3], st, h) = zz_Y 0 (748, [some (.ref x), l1, l2, l3], .ref x :: st, h)) ∧ (∀ l0 l1 l2 x st h, zz_Y 0 (748, [l0, l1, l2, some (.int x)], st, h) = zz_Y 0 (749, [l0, l1, l2, some (.int x)], .int x :: st, h)) :=
  ⟨fun _ _ _ _ _ _ => xl_aln d0_679 rfl,
   fun _ _ _ _ _ _ => xl_aln d0_680 rfl,
   fun _ _ _ _ _ _ => xl_iln d0_681 rfl,
   fun _ _ _ => xl_ic d0_682 (by decide +kernel),
   fun _ _ _ _ _ => xl_iadd d0_683,
   fun _ _ _ _ _ => xl_ia d0_684,
   fun _ _ _ _ _ _ => xl_aln d0_685 rfl,
   fun _ _ _ _ _ _ => xl_iln d0_686 rfl,
   fun _ _ _ => xl_ic d0_687 (by decide +kernel),
   fun _ _ _ _ _ => xl_iadd d0_688,
   fun _ _ _ _ _ => xl_ia d0_689,
   fun ls a0 a1 a2 s0 h => xl_cv (As := [a0, a1, a2]) (st := [s0]) d0_690 xco0 xm_13_89 (congrArg Nat.succ xnp182) (by decide +kernel) rfl,
   fun _ _ _ _ _ => xl_iceq d0_693 rfl,
   fun _ _ _ => xl_ic d0_696 (by decide +kernel),
   fun _ _ _ hc => xl_irz d0_697 xrt0 hc,
   fun _ _ _ _ _ _ => xl_aln d0_698 rfl,
   fun _ _ _ _ _ _ => xl_aln d0_699 rfl,
   fun _ _ _ _ _ _ => xl_iln d0_700 rfl,
   fun _ _ _ => xl_ic d0_701 (by decide +kernel),
   fun _ _ _ _ _ => xl_iadd d0_702,
   fun _ _ _ _ _ => xl_ia d0_703,
   fun _ _ _ _ _ _ => xl_aln d0_704 rfl,
   fun _ _ _ _ _ _ => xl_iln d0_705 rfl,
   fun _ _ _ => xl_ic d0_706 (by decide +kernel),
   fun _ _ _ _ _ => xl_iadd d0_707,
   fun _ _ _ _ _ => xl_ia d0_708,
   fun _ _ _ _ _ _ => xl_aln d0_709 rfl,
   fun _ _ _ _ _ _ => xl_iln d0_710 rfl,
   fun _ _ _ => xl_ic d0_711 (by decide +kernel),
   fun _ _ _ _ _ => xl_iadd d0_712,
   fun _ _ _ _ _ => xl_ia d0_713,
   fun ls a0 a1 a2 a3 h => xl_cv (As := [a0, a1, a2, a3]) (st := []) d0_714 xco0 xm_13_90 (congrArg Nat.succ xnp123) (by decide +kernel) rfl,
   fun _ _ _ _ _ _ => xl_aln d0_717 rfl,
   fun _ _ _ _ _ _ => xl_aln d0_718 rfl,
   fun _ _ _ _ _ _ => xl_iln d0_719 rfl,
   fun _ _ _ => xl_ic d0_720 (by decide +kernel),
   fun _ _ _ _ _ => xl_iadd d0_721,
   fun _ _ _ _ _ => xl_ia d0_722,
   fun _ _ _ _ _ _ => xl_aln d0_723 rfl,
   fun _ _ _ _ _ _ => xl_iln d0_724 rfl,
   fun _ _ _ => xl_ic d0_725 (by decide +kernel),
   fun _ _ _ _ _ => xl_iadd d0_726,
   fun _ _ _ _ _ => xl_ia d0_727,
   fun _ _ _ _ _ _ => xl_aln d0_728 rfl,
   fun _ _ _ _ _ _ => xl_iln d0_729 rfl,
   fun _ _ _ => xl_ic d0_730 (by decide +kernel),
   fun _ _ _ _ _ => xl_iadd d0_731,
   fun _ _ _ _ _ => xl_ia d0_732,
   fun ls a0 a1 a2 a3 s0 h => xl_cv (As := [a0, a1, a2, a3]) (st := [s0]) d0_733 xco0 xm_13_94 (congrArg Nat.succ xnp185) (by decide +kernel) rfl,
   fun _ _ _ _ _ => xl_iceq d0_736 rfl,
   fun _ _ _ => xl_ic d0_739 (by decide +kernel),
   fun _ _ _ hc => xl_irz d0_740 xrt0 hc,
   fun _ _ _ _ _ _ => xl_aln d0_741 rfl,
   fun _ _ _ _ _ _ => xl_aln d0_742 rfl,
   fun _ _ _ _ _ _ => xl_iln d0_743 rfl,
   fun _ _ _ => xl_ic d0_744 (by decide +kernel),
   fun _ _ _ _ _ => xl_iadd d0_745,
   fun _ _ _ _ _ => xl_ia d0_746,
   fun _ _ _ _ _ _ => xl_aln d0_747 rfl,
   fun _ _ _ _ _ _ => xl_iln d0_748 rfl⟩
theorem x0_p8 : (∀ ls st h, zz_Y 0 (749, ls, st, h) = zz_Y 0 (750, ls, .int (nI 2) :: st, h)) ∧ (∀ ls a b st h, zz_Y 0 (750, ls, .int b :: .int a :: st, h) = zz_Y 0 (751, ls, .int (a + b) :: st, h)) ∧ (∀ ls a i st h, zz_Y 0 (751, ls, .int i :: .ref a :: st, h) = mo_ia (hp_g h a) i a 0 752 ls st h) ∧ (∀ ls a0 a1 a2 h, zz_Y 0 (752, ls, [a2, a1, a0], h) = mo_k 0 755 ls [] (zz_run 124 [a0, a1, a2] h)) ∧ (∀ l0 l1 l3 x st h, zz_Y 0 (755, [l0, l1, some (.ref x), l3], st, h) = zz_Y 0 (756, [l0, l1, some (.ref x), l3], .ref x :: st, h)) ∧ (∀ l1 l2 l3 x st h, zz_Y 0 (756, [some (.ref x), l1, l2, l3], st, h) = zz_Y 0 (757, [some (.ref x), l1, l2, l3], .ref x :: st, h)) ∧ (∀ l0 l1 l2 x st h, zz_Y 0 (757, [l0, l1, l2, some (.int x)], st, h) = zz_Y 0 (758, [l0, l1, l2, some (.int x)], .int x :: st, h)) ∧ (∀ ls st h, zz_Y 0 (758, ls, st, h) = zz_Y 0 (759, ls, .int (nI 1) :: st, h)) ∧ (∀ ls a b st h, zz_Y 0 (759, ls, .int b :: .int a :: st, h) = zz_Y 0 (760, ls, .int (a + b) :: st, h)) ∧ (∀ ls a i st h, zz_Y 0 (760, ls, .int i :: .ref a :: st, h) = mo_ia (hp_g h a) i a 0 761 ls st h) ∧ (∀ l1 l2 l3 x st h, zz_Y 0 (761, [some (.ref x), l1, l2, l3], st, h) = zz_Y 0 (762, [some (.ref x), l1, l2, l3], .ref x :: st, h)) ∧ (∀ l0 l1 l2 x st h, zz_Y 0 (762, [l0, l1, l2, some (.int x)], st, h) = zz_Y 0 (763, [l0, l1, l2, some (.int x)], .int x :: st, h)) ∧ (∀ ls st h, zz_Y 0 (763, ls, st, h) = zz_Y 0 (764, ls, .int (nI 2) :: st, h)) ∧ (∀ ls a b st h, zz_Y 0 (764, ls, .int b :: .int a :: st, h) = zz_Y 0 (765, ls, .int (a + b) :: st, h)) ∧ (∀ ls a i st h, zz_Y 0 (765, ls, .int i :: .ref a :: st, h) = mo_ia (hp_g h a) i a 0 766 ls st h) ∧ (∀ ls a0 a1 a2 s0 h, zz_Y 0 (766, ls, [a2, a1, a0, s0], h) = mo_k 0 769 ls [s0] (zz_run 186 [a0, a1, a2] h)) ∧ (∀ ls a b st h, zz_Y 0 (769, ls, .int b :: .int a :: st, h) = if a = b then zz_Y 0 (1096, ls, st, h) else zz_Y 0 (772, ls, st, h)) ∧ (∀ ls st h, zz_Y 0 (772, ls, st, h) = zz_Y 0 (773, ls, .int (nI 0) :: st, h)) ∧ (∀ ls v h, v = nI 0 ∨ v = nI 1 → zz_Y 0 (773, ls, [.int v], h) = some (some (.int v), h)) ∧ (∀ l0 l2 l3 x st h, zz_Y 0 (774, [l0, some (.ref x), l2, l3], st, h) = zz_Y 0 (775, [l0, some (.ref x), l2, l3], .ref x :: st, h)) ∧ (∀ l1 l2 l3 x st h, zz_Y 0 (775, [some (.ref x), l1, l2, l3], st, h) = zz_Y 0 (776, [some (.ref x), l1, l2, l3], .ref x :: st, h)) ∧ (∀ l0 l1 l2 x st h, zz_Y 0 (776, [l0, l1, l2, some (.int x)], st, h) = zz_Y 0 (777, [l0, l1, l2, some (.int x)], .int x :: st, h)) ∧ (∀ ls st h, zz_Y 0 (777, ls, st, h) = zz_Y 0 (778, ls, .int (nI 1) :: st, h)) ∧ (∀ ls a b st h, zz_Y 0 (778, ls, .int b :: .int a :: st, h) = zz_Y 0 (779, ls, .int (a + b) :: st, h)) ∧ (∀ ls a i st h, zz_Y 0 (779, ls, .int i :: .ref a :: st, h) = mo_ia (hp_g h a) i a 0 780 ls st h) ∧ (∀ l1 l2 l3 x st h, zz_Y 0 (780, [some (.ref x), l1, l2, l3], st, h) = zz_Y 0 (781, [some (.ref x), l1, l2, l3], .ref x :: st, h)) ∧ (∀ l0 l1 l2 x st h, zz_Y 0 (781, [l0, l1, l2, some (.int x)], st, h) = zz_Y 0 (782, [l0, l1, l2, some (.int x)], .int x :: st, h)) ∧ (∀ ls st h, zz_Y 0 (782, ls, st, h) = zz_Y 0 (783, ls, .int (nI 2) :: st, h)) ∧ (∀ ls a b st h, zz_Y 0 (783, ls, .int b :: .int a :: st, h) = zz_Y 0 (784, ls, .int (a + b) :: st, h)) ∧ (∀ ls a i st h, zz_Y 0 (784, ls, .int i :: .ref a :: st, h) = mo_ia (hp_g h a) i a 0 785 ls st h) ∧ (∀ ls a0 a1 a2 h, zz_Y 0 (785, ls, [a2, a1, a0], h) = mo_k 0 788 ls [] (zz_run 125 [a0, a1, a2] h)) ∧ (∀ l0 l1 l3 x st h, zz_Y 0 (788, [l0, l1, some (.ref x), l3], st, h) = zz_Y 0 (789, [l0, l1, some (.ref x), l3], .ref x :: st, h)) ∧ (∀ l1 l2 l3 x st h, zz_Y 0 (789, [some (.ref x), l1, l2, l3], st, h) = zz_Y 0 (790, [some (.ref x), l1, l2, l3], .ref x :: st, h)) ∧ (∀ l0 l1 l2 x st h, zz_Y 0 (790, [l0, l1, l2, some (.int x)], st, h) = zz_Y 0 (791, [l0, l1, l2, some (.int x)], .int x :: st, h)) ∧ (∀ ls st h, zz_Y 0 (791, ls, st, h) = zz_Y 0 (792, ls, .int (nI 1) :: st, h)) ∧ (∀ ls a b st h, zz_Y 0 (792, ls, .int b :: .int a :: st, h) = zz_Y 0 (793, ls, .int (a + b) :: st, h)) ∧ (∀ ls a i st h, zz_Y 0 (793, ls, .int i :: .ref a :: st, h) = mo_ia (hp_g h a) i a 0 794 ls st h) ∧ (∀ l1 l2 l3 x st h, zz_Y 0 (794, [some (.ref x), l1, l2, l3], st, h) = zz_Y 0 (795, [some (.ref x), l1, l2, l3], .ref x :: st, h)) ∧ (∀ l0 l1 l2 x st h, zz_Y 0 (795, [l0, l1, l2, some (.int x)], st, h) = zz_Y 0 (796, [l0, l1, l2, some (.int x)], .int x :: st, h)) ∧ (∀ ls st h, zz_Y 0 (796, ls, st, h) = zz_Y 0 (797, ls, .int (nI 2) :: st, h)) ∧ (∀ ls a b st h, zz_Y 0 (797, ls, .int b :: .int a :: st, h) = zz_Y 0 (798, ls, .int (a + b) :: st, h)) ∧ (∀ ls a i st h, zz_Y 0 (798, ls, .int i :: .ref a :: st, h) = mo_ia (hp_g h a) i a 0 799 ls st h) ∧ (∀ ls a0 a1 a2 s0 h, zz_Y 0 (799, ls, [a2, a1, a0, s0], h) = mo_k 0 802 ls [s0] (zz_run 191 [a0, a1, a2] h)) ∧ (∀ ls a b st h, zz_Y 0 (802, ls, .int b :: .int a :: st, h) = if a = b then zz_Y 0 (1096, ls, st, h) else zz_Y 0 (805, ls, st, h)) ∧ (∀ ls st h, zz_Y 0 (805, ls, st, h) = zz_Y 0 (806, ls, .int (nI 0) :: st, h)) ∧ (∀ ls v h, v = nI 0 ∨ v = nI 1 → zz_Y 0 (806, ls, [.int v], h) = some (some (.int v), h)) ∧ (∀ l0 l2 l3 x st h, zz_Y 0 (807, [l0, some (.ref x), l2, l3], st, h) = zz_Y 0 (808, [l0, some (.ref x), l2, l3], .ref x :: st, h)) ∧ (∀ l1 l2 l3 x st h, zz_Y 0 (808, [some (.ref x), l1, l2, l3], st, h) = zz_Y 0 (809, [some (.ref x), l1, l2, l3], .ref x :: st, h)) ∧ (∀ l0 l1 l2 x st h, zz_Y 0 (809, [l0, l1, l2, some (.int x)], st, h) = zz_Y 0 (810, [l0, l1, l2, some (.int x)], .int x :: st, h)) ∧ (∀ ls st h, zz_Y 0 (810, ls, st, h) = zz_Y 0 (811, ls, .int (nI 1) :: st, h)) ∧ (∀ ls a b st h, zz_Y 0 (811, ls, .int b :: .int a :: st, h) = zz_Y 0 (812, ls, .int (a + b) :: st, h)) ∧ (∀ ls a i st h, zz_Y 0 (812, ls, .int i :: .ref a :: st, h) = mo_ia (hp_g h a) i a 0 813 ls st h) ∧ (∀ l1 l2 l3 x st h, zz_Y 0 (813, [some (.ref x), l1, l2, l3], st, h) = zz_Y 0 (814, [some (.ref x), l1, l2, l3], .ref x :: st, h)) ∧ (∀ l0 l1 l2 x st h, zz_Y 0 (814, [l0, l1, l2, some (.int x)], st, h) = zz_Y 0 (815, [l0, l1, l2, some (.int x)], .int x :: st, h)) ∧ (∀ ls st h, zz_Y 0 (815, ls, st, h) = zz_Y 0 (816, ls, .int (nI 2) :: st, h)) ∧ (∀ ls a b st h, zz_Y 0 (816, ls, .int b :: .int a :: st, h) = zz_Y 0 (817, ls, .int (a + b) :: st, h)) ∧ (∀ ls a i st h, zz_Y 0 (817, ls, .int i :: .ref a :: st, h) = mo_ia (hp_g h a) i a 0 818 ls st h) ∧ (∀ ls a st h, zz_Y 0 (818, ls, .int a :: st, h) = if a = nI 0 then zz_Y 0 (825, ls, st, h) else zz_Y 0 (821, ls, st, h)) ∧ (∀ ls st h, zz_Y 0 (821, ls, st, h) = zz_Y 0 (822, ls, .int (nI 1) :: st, h)) ∧ (∀ ls st h, zz_Y 0 (822, ls, st, h) = zz_Y 0 (826, ls, st, h)) :=
  ⟨fun _ _ _ => xl_ic d0_749 (by decide +kernel),
   fun _ _ _ _ _ => xl_iadd d0_750,
   fun _ _ _ _ _ => xl_ia d0_751,
   fun ls a0 a1 a2 h => xl_cv (As := [a0, a1, a2]) (st := []) d0_752 xco0 xm_13_95 (congrArg Nat.succ xnp124) (by decide +kernel) rfl,
   fun _ _ _ _ _ _ => xl_aln d0_755 rfl,
   fun _ _ _ _ _ _ => xl_aln d0_756 rfl,
   fun _ _ _ _ _ _ => xl_iln d0_757 rfl,
   fun _ _ _ => xl_ic d0_758 (by decide +kernel),
   fun _ _ _ _ _ => xl_iadd d0_759,
   fun _ _ _ _ _ => xl_ia d0_760,
   fun _ _ _ _ _ _ => xl_aln d0_761 rfl,
   fun _ _ _ _ _ _ => xl_iln d0_762 rfl,
   fun _ _ _ => xl_ic d0_763 (by decide +kernel),
   fun _ _ _ _ _ => xl_iadd d0_764,
   fun _ _ _ _ _ => xl_ia d0_765,
   fun ls a0 a1 a2 s0 h => xl_cv (As := [a0, a1, a2]) (st := [s0]) d0_766 xco0 xm_13_98 (congrArg Nat.succ xnp186) (by decide +kernel) rfl,
   fun _ _ _ _ _ => xl_iceq d0_769 rfl,
   fun _ _ _ => xl_ic d0_772 (by decide +kernel),
   fun _ _ _ hc => xl_irz d0_773 xrt0 hc,
   fun _ _ _ _ _ _ => xl_aln d0_774 rfl,
   fun _ _ _ _ _ _ => xl_aln d0_775 rfl,
   fun _ _ _ _ _ _ => xl_iln d0_776 rfl,
   fun _ _ _ => xl_ic d0_777 (by decide +kernel),
   fun _ _ _ _ _ => xl_iadd d0_778,
   fun _ _ _ _ _ => xl_ia d0_779,
   fun _ _ _ _ _ _ => xl_aln d0_780 rfl,
   fun _ _ _ _ _ _ => xl_iln d0_781 rfl,
   fun _ _ _ => xl_ic d0_782 (by decide +kernel),
   fun _ _ _ _ _ => xl_iadd d0_783,
   fun _ _ _ _ _ => xl_ia d0_784,
   fun ls a0 a1 a2 h => xl_cv (As := [a0, a1, a2]) (st := []) d0_785 xco0 xm_13_99 (congrArg Nat.succ xnp125) (by decide +kernel) rfl,
   fun _ _ _ _ _ _ => xl_aln d0_788 rfl,
   fun _ _ _ _ _ _ => xl_aln d0_789 rfl,
   fun _ _ _ _ _ _ => xl_iln d0_790 rfl,
   fun _ _ _ => xl_ic d0_791 (by decide +kernel),
   fun _ _ _ _ _ => xl_iadd d0_792,
   fun _ _ _ _ _ => xl_ia d0_793,
   fun _ _ _ _ _ _ => xl_aln d0_794 rfl,
   fun _ _ _ _ _ _ => xl_iln d0_795 rfl,
   fun _ _ _ => xl_ic d0_796 (by decide +kernel),
   fun _ _ _ _ _ => xl_iadd d0_797,
   fun _ _ _ _ _ => xl_ia d0_798,
   fun ls a0 a1 a2 s0 h => xl_cv (As := [a0, a1, a2]) (st := [s0]) d0_799 xco0 xm_13_103 (congrArg Nat.succ xnp191) (by decide +kernel) rfl,
   fun _ _ _ _ _ => xl_iceq d0_802 rfl,
   fun _ _ _ => xl_ic d0_805 (by decide +kernel),
   fun _ _ _ hc => xl_irz d0_806 xrt0 hc,
   fun _ _ _ _ _ _ => xl_aln d0_807 rfl,
   fun _ _ _ _ _ _ => xl_aln d0_808 rfl,
   fun _ _ _ _ _ _ => xl_iln d0_809 rfl,
   fun _ _ _ => xl_ic d0_810 (by decide +kernel),
   fun _ _ _ _ _ => xl_iadd d0_811,
   fun _ _ _ _ _ => xl_ia d0_812,
   fun _ _ _ _ _ _ => xl_aln d0_813 rfl,
   fun _ _ _ _ _ _ => xl_iln d0_814 rfl,
   fun _ _ _ => xl_ic d0_815 (by decide +kernel),
   fun _ _ _ _ _ => xl_iadd d0_816,
   fun _ _ _ _ _ => xl_ia d0_817,
   fun _ _ _ _ => xl_ifeq d0_818 rfl,
   fun _ _ _ => xl_ic d0_821 (by decide +kernel),
   fun _ _ _ => xl_goto d0_822 rfl⟩
theorem x0_p9 : (∀ ls st h, zz_Y 0 (825, ls, st, h) = zz_Y 0 (826, ls, .int (nI 0) :: st, h)) ∧ (∀ ls a0 a1 a2 h, zz_Y 0 (826, ls, [a2, a1, a0], h) = mo_k 0 829 ls [] (zz_run 127 [a0, a1, a2] h)) ∧ (∀ l0 l1 l3 x st h, zz_Y 0 (829, [l0, l1, some (.ref x), l3], st, h) = zz_Y 0 (830, [l0, l1, some (.ref x), l3], .ref x :: st, h)) ∧ (∀ l1 l2 l3 x st h, zz_Y 0 (830, [some (.ref x), l1, l2, l3], st, h) = zz_Y 0 (831, [some (.ref x), l1, l2, l3], .ref x :: st, h)) ∧ (∀ l0 l1 l2 x st h, zz_Y 0 (831, [l0, l1, l2, some (.int x)], st, h) = zz_Y 0 (832, [l0, l1, l2, some (.int x)], .int x :: st, h)) ∧ (∀ ls st h, zz_Y 0 (832, ls, st, h) = zz_Y 0 (833, ls, .int (nI 1) :: st, h)) ∧ (∀ ls a b st h, zz_Y 0 (833, ls, .int b :: .int a :: st, h) = zz_Y 0 (834, ls, .int (a + b) :: st, h)) ∧ (∀ ls a i st h, zz_Y 0 (834, ls, .int i :: .ref a :: st, h) = mo_ia (hp_g h a) i a 0 835 ls st h) ∧ (∀ l1 l2 l3 x st h, zz_Y 0 (835, [some (.ref x), l1, l2, l3], st, h) = zz_Y 0 (836, [some (.ref x), l1, l2, l3], .ref x :: st, h)) ∧ (∀ l0 l1 l2 x st h, zz_Y 0 (836, [l0, l1, l2, some (.int x)], st, h) = zz_Y 0 (837, [l0, l1, l2, some (.int x)], .int x :: st, h)) ∧ (∀ ls st h, zz_Y 0 (837, ls, st, h) = zz_Y 0 (838, ls, .int (nI 2) :: st, h)) ∧ (∀ ls a b st h, zz_Y 0 (838, ls, .int b :: .int a :: st, h) = zz_Y 0 (839, ls, .int (a + b) :: st, h)) ∧ (∀ ls a i st h, zz_Y 0 (839, ls, .int i :: .ref a :: st, h) = mo_ia (hp_g h a) i a 0 840 ls st h) ∧ (∀ ls a st h, zz_Y 0 (840, ls, .int a :: st, h) = if a = nI 0 then zz_Y 0 (847, ls, st, h) else zz_Y 0 (843, ls, st, h)) ∧ (∀ ls st h, zz_Y 0 (843, ls, st, h) = zz_Y 0 (844, ls, .int (nI 1) :: st, h)) ∧ (∀ ls st h, zz_Y 0 (844, ls, st, h) = zz_Y 0 (848, ls, st, h)) ∧ (∀ ls st h, zz_Y 0 (847, ls, st, h) = zz_Y 0 (848, ls, .int (nI 0) :: st, h)) ∧ (∀ ls a0 a1 a2 s0 h, zz_Y 0 (848, ls, [a2, a1, a0, s0], h) = mo_k 0 851 ls [s0] (zz_run 192 [a0, a1, a2] h)) ∧ (∀ ls a b st h, zz_Y 0 (851, ls, .int b :: .int a :: st, h) = if a = b then zz_Y 0 (1096, ls, st, h) else zz_Y 0 (854, ls, st, h)) ∧ (∀ ls st h, zz_Y 0 (854, ls, st, h) = zz_Y 0 (855, ls, .int (nI 0) :: st, h)) ∧ (∀ ls v h, v = nI 0 ∨ v = nI 1 → zz_Y 0 (855, ls, [.int v], h) = some (some (.int v), h)) ∧ (∀ l0 l2 l3 x st h, zz_Y 0 (856, [l0, some (.ref x), l2, l3], st, h) = zz_Y 0 (857, [l0, some (.ref x), l2, l3], .ref x :: st, h)) ∧ (∀ l1 l2 l3 x st h, zz_Y 0 (857, [some (.ref x), l1, l2, l3], st, h) = zz_Y 0 (858, [some (.ref x), l1, l2, l3], .ref x :: st, h)) ∧ (∀ l0 l1 l2 x st h, zz_Y 0 (858, [l0, l1, l2, some (.int x)], st, h) = zz_Y 0 (859, [l0, l1, l2, some (.int x)], .int x :: st, h)) ∧ (∀ ls st h, zz_Y 0 (859, ls, st, h) = zz_Y 0 (860, ls, .int (nI 1) :: st, h)) ∧ (∀ ls a b st h, zz_Y 0 (860, ls, .int b :: .int a :: st, h) = zz_Y 0 (861, ls, .int (a + b) :: st, h)) ∧ (∀ ls a i st h, zz_Y 0 (861, ls, .int i :: .ref a :: st, h) = mo_ia (hp_g h a) i a 0 862 ls st h) ∧ (∀ l1 l2 l3 x st h, zz_Y 0 (862, [some (.ref x), l1, l2, l3], st, h) = zz_Y 0 (863, [some (.ref x), l1, l2, l3], .ref x :: st, h)) ∧ (∀ l0 l1 l2 x st h, zz_Y 0 (863, [l0, l1, l2, some (.int x)], st, h) = zz_Y 0 (864, [l0, l1, l2, some (.int x)], .int x :: st, h)) ∧ (∀ ls st h, zz_Y 0 (864, ls, st, h) = zz_Y 0 (865, ls, .int (nI 2) :: st, h)) ∧ (∀ ls a b st h, zz_Y 0 (865, ls, .int b :: .int a :: st, h) = zz_Y 0 (866, ls, .int (a + b) :: st, h)) ∧ (∀ ls a i st h, zz_Y 0 (866, ls, .int i :: .ref a :: st, h) = mo_ia (hp_g h a) i a 0 867 ls st h) ∧ (∀ ls a st h, zz_Y 0 (867, ls, .int a :: st, h) = if a = nI 0 then zz_Y 0 (874, ls, st, h) else zz_Y 0 (870, ls, st, h)) ∧ (∀ ls st h, zz_Y 0 (870, ls, st, h) = zz_Y 0 (871, ls, .int (nI 1) :: st, h)) ∧ (∀ ls st h, zz_Y 0 (871, ls, st, h) = zz_Y 0 (875, ls, st, h)) ∧ (∀ ls st h, zz_Y 0 (874, ls, st, h) = zz_Y 0 (875, ls, .int (nI 0) :: st, h)) ∧ (∀ ls a0 a1 a2 h, zz_Y 0 (875, ls, [a2, a1, a0], h) = mo_k 0 878 ls [] (zz_run 131 [a0, a1, a2] h)) ∧ (∀ l0 l1 l3 x st h, zz_Y 0 (878, [l0, l1, some (.ref x), l3], st, h) = zz_Y 0 (879, [l0, l1, some (.ref x), l3], .ref x :: st, h)) ∧ (∀ l1 l2 l3 x st h, zz_Y 0 (879, [some (.ref x), l1, l2, l3], st, h) = zz_Y 0 (880, [some (.ref x), l1, l2, l3], .ref x :: st, h)) ∧ (∀ l0 l1 l2 x st h, zz_Y 0 (880, [l0, l1, l2, some (.int x)], st, h) = zz_Y 0 (881, [l0, l1, l2, some (.int x)], .int x :: st, h)) ∧ (∀ ls st h, zz_Y 0 (881, ls, st, h) = zz_Y 0 (882, ls, .int (nI 1) :: st, h)) ∧ (∀ ls a b st h, zz_Y 0 (882, ls, .int b :: .int a :: st, h) = zz_Y 0 (883, ls, .int (a + b) :: st, h)) ∧ (∀ ls a i st h, zz_Y 0 (883, ls, .int i :: .ref a :: st, h) = mo_ia (hp_g h a) i a 0 884 ls st h) ∧ (∀ l1 l2 l3 x st h, zz_Y 0 (884, [some (.ref x), l1, l2, l3], st, h) = zz_Y 0 (885, [some (.ref x), l1, l2, l3], .ref x :: st, h)) ∧ (∀ l0 l1 l2 x st h, zz_Y 0 (885, [l0, l1, l2, some (.int x)], st, h) = zz_Y 0 (886, [l0, l1, l2, some (.int x)], .int x :: st, h)) ∧ (∀ ls st h, zz_Y 0 (886, ls, st, h) = zz_Y 0 (887, ls, .int (nI 2) :: st, h)) ∧ (∀ ls a b st h, zz_Y 0 (887, ls, .int b :: .int a :: st, h) = zz_Y 0 (888, ls, .int (a + b) :: st, h)) ∧ (∀ ls a i st h, zz_Y 0 (888, ls, .int i :: .ref a :: st, h) = mo_ia (hp_g h a) i a 0 889 ls st h) ∧ (∀ ls a st h, zz_Y 0 (889, ls, .int a :: st, h) = if a = nI 0 then zz_Y 0 (896, ls, st, h) else zz_Y 0 (892, ls, st, h)) ∧ (∀ ls st h, zz_Y 0 (892, ls, st, h) = zz_Y 0 (893, ls, .int (nI 1) :: st, h)) ∧ (∀ ls st h, zz_Y 0 (893, ls, st, h) = zz_Y 0 (897, ls, st, h)) ∧ (∀ ls st h, zz_Y 0 (896, ls, st, h) = zz_Y 0 (897, ls, .int (nI 0) :: st, h)) ∧ (∀ ls a0 a1 a2 s0 h, zz_Y 0 (897, ls, [a2, a1, a0, s0], h) = mo_k 0 900 ls [s0] (zz_run 194 [a0, a1, a2] h)) ∧ (∀ ls a b st h, zz_Y 0 (900, ls, .int b :: .int a :: st, h) = if a = b then zz_Y 0 (1096, ls, st, h) else zz_Y 0 (903, ls, st, h)) ∧ (∀ ls st h, zz_Y 0 (903, ls, st, h) = zz_Y 0 (904, ls, .int (nI 0) :: st, h)) ∧ (∀ ls v h, v = nI 0 ∨ v = nI 1 → zz_Y 0 (904, ls, [.int v], h) = some (some (.int v), h)) ∧ (∀ l0 l2 l3 x st h, zz_Y 0 (905, [l0, some (.ref x), l2, l3], st, h) = zz_Y 0 (906, [l0, some (.ref x), l2, l3], .ref x :: st, h)) ∧ (∀ l1 l2 l3 x st h, zz_Y 0 (906, [some (.ref x), l1, l2, l3], st, h) = zz_Y 0 (907, [some (.ref x), l1, l2, l3], .ref x :: st, h)) ∧ (∀ l0 l1 l2 x st h, zz_Y 0 (907, [l0, l1, l2, some (.int x)], st, h) = zz_Y 0 (908, [l0, l1, l2, some (.int x)], .int x :: st, h)) ∧ (∀ ls st h, zz_Y 0 (908, ls, st, h) = zz_Y 0 (909, ls, .int (nI 1) :: st, h)) :=
  ⟨fun _ _ _ => xl_ic d0_825 (by decide +kernel),
   fun ls a0 a1 a2 h => xl_cv (As := [a0, a1, a2]) (st := []) d0_826 xco0 xm_13_104 (congrArg Nat.succ xnp127) (by decide +kernel) rfl,
   fun _ _ _ _ _ _ => xl_aln d0_829 rfl,
   fun _ _ _ _ _ _ => xl_aln d0_830 rfl,
   fun _ _ _ _ _ _ => xl_iln d0_831 rfl,
   fun _ _ _ => xl_ic d0_832 (by decide +kernel),
   fun _ _ _ _ _ => xl_iadd d0_833,
   fun _ _ _ _ _ => xl_ia d0_834,
   fun _ _ _ _ _ _ => xl_aln d0_835 rfl,
   fun _ _ _ _ _ _ => xl_iln d0_836 rfl,
   fun _ _ _ => xl_ic d0_837 (by decide +kernel),
   fun _ _ _ _ _ => xl_iadd d0_838,
   fun _ _ _ _ _ => xl_ia d0_839,
   fun _ _ _ _ => xl_ifeq d0_840 rfl,
   fun _ _ _ => xl_ic d0_843 (by decide +kernel),
   fun _ _ _ => xl_goto d0_844 rfl,
   fun _ _ _ => xl_ic d0_847 (by decide +kernel),
   fun ls a0 a1 a2 s0 h => xl_cv (As := [a0, a1, a2]) (st := [s0]) d0_848 xco0 xm_13_107 (congrArg Nat.succ xnp192) (by decide +kernel) rfl,
   fun _ _ _ _ _ => xl_iceq d0_851 rfl,
   fun _ _ _ => xl_ic d0_854 (by decide +kernel),
   fun _ _ _ hc => xl_irz d0_855 xrt0 hc,
   fun _ _ _ _ _ _ => xl_aln d0_856 rfl,
   fun _ _ _ _ _ _ => xl_aln d0_857 rfl,
   fun _ _ _ _ _ _ => xl_iln d0_858 rfl,
   fun _ _ _ => xl_ic d0_859 (by decide +kernel),
   fun _ _ _ _ _ => xl_iadd d0_860,
   fun _ _ _ _ _ => xl_ia d0_861,
   fun _ _ _ _ _ _ => xl_aln d0_862 rfl,
   fun _ _ _ _ _ _ => xl_iln d0_863 rfl,
   fun _ _ _ => xl_ic d0_864 (by decide +kernel),
   fun _ _ _ _ _ => xl_iadd d0_865,
   fun _ _ _ _ _ => xl_ia d0_866,
   fun _ _ _ _ => xl_ifeq d0_867 rfl,
   fun _ _ _ => xl_ic d0_870 (by decide +kernel),
   fun _ _ _ => xl_goto d0_871 rfl,
   fun _ _ _ => xl_ic d0_874 (by decide +kernel),
   fun ls a0 a1 a2 h => xl_cv (As := [a0, a1, a2]) (st := []) d0_875 xco0 xm_13_108 (congrArg Nat.succ xnp131) (by decide +kernel) rfl,
   fun _ _ _ _ _ _ => xl_aln d0_878 rfl,
   fun _ _ _ _ _ _ => xl_aln d0_879 rfl,
   fun _ _ _ _ _ _ => xl_iln d0_880 rfl,
   fun _ _ _ => xl_ic d0_881 (by decide +kernel),
   fun _ _ _ _ _ => xl_iadd d0_882,
   fun _ _ _ _ _ => xl_ia d0_883,
   fun _ _ _ _ _ _ => xl_aln d0_884 rfl,
   fun _ _ _ _ _ _ => xl_iln d0_885 rfl,
   fun _ _ _ => xl_ic d0_886 (by decide +kernel),
   fun _ _ _ _ _ => xl_iadd d0_887,
   fun _ _ _ _ _ => xl_ia d0_888,
   fun _ _ _ _ => xl_ifeq d0_889 rfl,
   fun _ _ _ => xl_ic d0_892 (by decide +kernel),
   fun _ _ _ => xl_goto d0_893 rfl,
   fun _ _ _ => xl_ic d0_896 (by decide +kernel),
   fun ls a0 a1 a2 s0 h => xl_cv (As := [a0, a1, a2]) (st := [s0]) d0_897 xco0 xm_13_111 (congrArg Nat.succ xnp194) (by decide +kernel) rfl,
   fun _ _ _ _ _ => xl_iceq d0_900 rfl,
   fun _ _ _ => xl_ic d0_903 (by decide +kernel),
   fun _ _ _ hc => xl_irz d0_904 xrt0 hc,
   fun _ _ _ _ _ _ => xl_aln d0_905 rfl,
   fun _ _ _ _ _ _ => xl_aln d0_906 rfl,
   fun _ _ _ _ _ _ => xl_iln d0_907 rfl,
   fun _ _ _ => xl_ic d0_908 (by decide +kernel)⟩
theorem x0_p10 : (∀ ls a b st h, zz_Y 0 (909, ls, .int b :: .int a :: st, h) = zz_Y 0 (910, ls, .int (a + b) :: st, h)) ∧ (∀ ls a i st h, zz_Y 0 (910, ls, .int i :: .ref a :: st, h) = mo_ia (hp_g h a) i a 0 911 ls st h) ∧ (∀ l1 l2 l3 x st h, zz_Y 0 (911, [some (.ref x), l1, l2, l3], st, h) = zz_Y 0 (912, [some (.ref x), l1, l2, l3], .ref x :: st, h)) ∧ (∀ l0 l1 l2 x st h, zz_Y 0 (912, [l0, l1, l2, some (.int x)], st, h) = zz_Y 0 (913, [l0, l1, l2, some (.int x)], .int x :: st, h)) ∧ (∀ ls st h, zz_Y 0 (913, ls, st, h) = zz_Y 0 (914, ls, .int (nI 2) :: st, h)) ∧ (∀ ls a b st h, zz_Y 0 (914, ls, .int b :: .int a :: st, h) = zz_Y 0 (915, ls, .int (a + b) :: st, h)) ∧ (∀ ls a i st h, zz_Y 0 (915, ls, .int i :: .ref a :: st, h) = mo_ia (hp_g h a) i a 0 916 ls st h) ∧ (∀ l1 l2 l3 x st h, zz_Y 0 (916, [some (.ref x), l1, l2, l3], st, h) = zz_Y 0 (917, [some (.ref x), l1, l2, l3], .ref x :: st, h)) ∧ (∀ l0 l1 l2 x st h, zz_Y 0 (917, [l0, l1, l2, some (.int x)], st, h) = zz_Y 0 (918, [l0, l1, l2, some (.int x)], .int x :: st, h)) ∧ (∀ ls st h, zz_Y 0 (918, ls, st, h) = zz_Y 0 (919, ls, .int (nI 3) :: st, h)) ∧ (∀ ls a b st h, zz_Y 0 (919, ls, .int b :: .int a :: st, h) = zz_Y 0 (920, ls, .int (a + b) :: st, h)) ∧ (∀ ls a i st h, zz_Y 0 (920, ls, .int i :: .ref a :: st, h) = mo_ia (hp_g h a) i a 0 921 ls st h) ∧ (∀ ls a0 a1 a2 a3 h, zz_Y 0 (921, ls, [a3, a2, a1, a0], h) = mo_k 0 924 ls [] (zz_run 132 [a0, a1, a2, a3] h)) ∧ (∀ l0 l1 l3 x st h, zz_Y 0 (924, [l0, l1, some (.ref x), l3], st, h) = zz_Y 0 (925, [l0, l1, some (.ref x), l3], .ref x :: st, h)) ∧ (∀ l1 l2 l3 x st h, zz_Y 0 (925, [some (.ref x), l1, l2, l3], st, h) = zz_Y 0 (926, [some (.ref x), l1, l2, l3], .ref x :: st, h)) ∧ (∀ l0 l1 l2 x st h, zz_Y 0 (926, [l0, l1, l2, some (.int x)], st, h) = zz_Y 0 (927, [l0, l1, l2, some (.int x)], .int x :: st, h)) ∧ (∀ ls st h, zz_Y 0 (927, ls, st, h) = zz_Y 0 (928, ls, .int (nI 1) :: st, h)) ∧ (∀ ls a b st h, zz_Y 0 (928, ls, .int b :: .int a :: st, h) = zz_Y 0 (929, ls, .int (a + b) :: st, h)) ∧ (∀ ls a i st h, zz_Y 0 (929, ls, .int i :: .ref a :: st, h) = mo_ia (hp_g h a) i a 0 930 ls st h) ∧ (∀ l1 l2 l3 x st h, zz_Y 0 (930, [some (.ref x), l1, l2, l3], st, h) = zz_Y 0 (931, [some (.ref x), l1, l2, l3], .ref x :: st, h)) ∧ (∀ l0 l1 l2 x st h, zz_Y 0 (931, [l0, l1, l2, some (.int x)], st, h) = zz_Y 0 (932, [l0, l1, l2, some (.int x)], .int x :: st, h)) ∧ (∀ ls st h, zz_Y 0 (932, ls, st, h) = zz_Y 0 (933, ls, .int (nI 2) :: st, h)) ∧ (∀ ls a b st h, zz_Y 0 (933, ls, .int b :: .int a :: st, h) = zz_Y 0 (934, ls, .int (a + b) :: st, h)) ∧ (∀ ls a i st h, zz_Y 0 (934, ls, .int i :: .ref a :: st, h) = mo_ia (hp_g h a) i a 0 935 ls st h) ∧ (∀ l1 l2 l3 x st h, zz_Y 0 (935, [some (.ref x), l1, l2, l3], st, h) = zz_Y 0 (936, [some (.ref x), l1, l2, l3], .ref x :: st, h)) ∧ (∀ l0 l1 l2 x st h, zz_Y 0 (936, [l0, l1, l2, some (.int x)], st, h) = zz_Y 0 (937, [l0, l1, l2, some (.int x)], .int x :: st, h)) ∧ (∀ ls st h, zz_Y 0 (937, ls, st, h) = zz_Y 0 (938, ls, .int (nI 3) :: st, h)) ∧ (∀ ls a b st h, zz_Y 0 (938, ls, .int b :: .int a :: st, h) = zz_Y 0 (939, ls, .int (a + b) :: st, h)) ∧ (∀ ls a i st h, zz_Y 0 (939, ls, .int i :: .ref a :: st, h) = mo_ia (hp_g h a) i a 0 940 ls st h) ∧ (∀ ls a0 a1 a2 a3 s0 h, zz_Y 0 (940, ls, [a3, a2, a1, a0, s0], h) = mo_k 0 943 ls [s0] (zz_run 195 [a0, a1, a2, a3] h)) ∧ (∀ ls a b st h, zz_Y 0 (943, ls, .int b :: .int a :: st, h) = if a = b then zz_Y 0 (1096, ls, st, h) else zz_Y 0 (946, ls, st, h)) ∧ (∀ ls st h, zz_Y 0 (946, ls, st, h) = zz_Y 0 (947, ls, .int (nI 0) :: st, h)) ∧ (∀ ls v h, v = nI 0 ∨ v = nI 1 → zz_Y 0 (947, ls, [.int v], h) = some (some (.int v), h)) ∧ (∀ l0 l2 l3 x st h, zz_Y 0 (948, [l0, some (.ref x), l2, l3], st, h) = zz_Y 0 (949, [l0, some (.ref x), l2, l3], .ref x :: st, h)) ∧ (∀ l1 l2 l3 x st h, zz_Y 0 (949, [some (.ref x), l1, l2, l3], st, h) = zz_Y 0 (950, [some (.ref x), l1, l2, l3], .ref x :: st, h)) ∧ (∀ l0 l1 l2 x st h, zz_Y 0 (950, [l0, l1, l2, some (.int x)], st, h) = zz_Y 0 (951, [l0, l1, l2, some (.int x)], .int x :: st, h)) ∧ (∀ ls st h, zz_Y 0 (951, ls, st, h) = zz_Y 0 (952, ls, .int (nI 1) :: st, h)) ∧ (∀ ls a b st h, zz_Y 0 (952, ls, .int b :: .int a :: st, h) = zz_Y 0 (953, ls, .int (a + b) :: st, h)) ∧ (∀ ls a i st h, zz_Y 0 (953, ls, .int i :: .ref a :: st, h) = mo_ia (hp_g h a) i a 0 954 ls st h) ∧ (∀ ls a0 a1 h, zz_Y 0 (954, ls, [a1, a0], h) = mo_k 0 957 ls [] (zz_run 135 [a0, a1] h)) ∧ (∀ l0 l1 l3 x st h, zz_Y 0 (957, [l0, l1, some (.ref x), l3], st, h) = zz_Y 0 (958, [l0, l1, some (.ref x), l3], .ref x :: st, h)) ∧ (∀ l1 l2 l3 x st h, zz_Y 0 (958, [some (.ref x), l1, l2, l3], st, h) = zz_Y 0 (959, [some (.ref x), l1, l2, l3], .ref x :: st, h)) ∧ (∀ l0 l1 l2 x st h, zz_Y 0 (959, [l0, l1, l2, some (.int x)], st, h) = zz_Y 0 (960, [l0, l1, l2, some (.int x)], .int x :: st, h)) ∧ (∀ ls st h, zz_Y 0 (960, ls, st, h) = zz_Y 0 (961, ls, .int (nI 1) :: st, h)) ∧ (∀ ls a b st h, zz_Y 0 (961, ls, .int b :: .int a :: st, h) = zz_Y 0 (962, ls, .int (a + b) :: st, h)) ∧ (∀ ls a i st h, zz_Y 0 (962, ls, .int i :: .ref a :: st, h) = mo_ia (hp_g h a) i a 0 963 ls st h) ∧ (∀ ls a0 a1 s0 h, zz_Y 0 (963, ls, [a1, a0, s0], h) = mo_k 0 966 ls [s0] (zz_run 198 [a0, a1] h)) ∧ (∀ ls a b st h, zz_Y 0 (966, ls, .int b :: .int a :: st, h) = if a = b then zz_Y 0 (1096, ls, st, h) else zz_Y 0 (969, ls, st, h)) ∧ (∀ ls st h, zz_Y 0 (969, ls, st, h) = zz_Y 0 (970, ls, .int (nI 0) :: st, h)) ∧ (∀ ls v h, v = nI 0 ∨ v = nI 1 → zz_Y 0 (970, ls, [.int v], h) = some (some (.int v), h)) ∧ (∀ l0 l2 l3 x st h, zz_Y 0 (971, [l0, some (.ref x), l2, l3], st, h) = zz_Y 0 (972, [l0, some (.ref x), l2, l3], .ref x :: st, h)) ∧ (∀ l1 l2 l3 x st h, zz_Y 0 (972, [some (.ref x), l1, l2, l3], st, h) = zz_Y 0 (973, [some (.ref x), l1, l2, l3], .ref x :: st, h)) ∧ (∀ l0 l1 l2 x st h, zz_Y 0 (973, [l0, l1, l2, some (.int x)], st, h) = zz_Y 0 (974, [l0, l1, l2, some (.int x)], .int x :: st, h)) ∧ (∀ ls st h, zz_Y 0 (974, ls, st, h) = zz_Y 0 (975, ls, .int (nI 1) :: st, h)) ∧ (∀ ls a b st h, zz_Y 0 (975, ls, .int b :: .int a :: st, h) = zz_Y 0 (976, ls, .int (a + b) :: st, h)) ∧ (∀ ls a i st h, zz_Y 0 (976, ls, .int i :: .ref a :: st, h) = mo_ia (hp_g h a) i a 0 977 ls st h) ∧ (∀ l1 l2 l3 x st h, zz_Y 0 (977, [some (.ref x), l1, l2, l3], st, h) = zz_Y 0 (978, [some (.ref x), l1, l2, l3], .ref x :: st, h)) ∧ (∀ l0 l1 l2 x st h, zz_Y 0 (978, [l0, l1, l2, some (.int x)], st, h) = zz_Y 0 (979, [l0, l1, l2, some (.int x)], .int x :: st, h)) ∧ (∀ ls st h, zz_Y 0 (979, ls, st, h) = zz_Y 0 (980, ls, .int (nI 2) :: st, h)) ∧ (∀ ls a b st h, zz_Y 0 (980, ls, .int b :: .int a :: st, h) = zz_Y 0 (981, ls, .int (a + b) :: st, h)) :=
  ⟨fun _ _ _ _ _ => xl_iadd d0_909,
   fun _ _ _ _ _ => xl_ia d0_910,
   fun _ _ _ _ _ _ => xl_aln d0_911 rfl,
   fun _ _ _ _ _ _ => xl_iln d0_912 rfl,
   fun _ _ _ => xl_ic d0_913 (by decide +kernel),
   fun _ _ _ _ _ => xl_iadd d0_914,
   fun _ _ _ _ _ => xl_ia d0_915,
   fun _ _ _ _ _ _ => xl_aln d0_916 rfl,
   fun _ _ _ _ _ _ => xl_iln d0_917 rfl,
   fun _ _ _ => xl_ic d0_918 (by decide +kernel),
   fun _ _ _ _ _ => xl_iadd d0_919,
   fun _ _ _ _ _ => xl_ia d0_920,
   fun ls a0 a1 a2 a3 h => xl_cv (As := [a0, a1, a2, a3]) (st := []) d0_921 xco0 xm_13_112 (congrArg Nat.succ xnp132) (by decide +kernel) rfl,
   fun _ _ _ _ _ _ => xl_aln d0_924 rfl,
   fun _ _ _ _ _ _ => xl_aln d0_925 rfl,
   fun _ _ _ _ _ _ => xl_iln d0_926 rfl,
   fun _ _ _ => xl_ic d0_927 (by decide +kernel),
   fun _ _ _ _ _ => xl_iadd d0_928,
   fun _ _ _ _ _ => xl_ia d0_929,
   fun _ _ _ _ _ _ => xl_aln d0_930 rfl,
   fun _ _ _ _ _ _ => xl_iln d0_931 rfl,
   fun _ _ _ => xl_ic d0_932 (by decide +kernel),
   fun _ _ _ _ _ => xl_iadd d0_933,
   fun _ _ _ _ _ => xl_ia d0_934,
   fun _ _ _ _ _ _ => xl_aln d0_935 rfl,
   fun _ _ _ _ _ _ => xl_iln d0_936 rfl,
   fun _ _ _ => xl_ic d0_937 (by decide +kernel),
   fun _ _ _ _ _ => xl_iadd d0_938,
   fun _ _ _ _ _ => xl_ia d0_939,
   fun ls a0 a1 a2 a3 s0 h => xl_cv (As := [a0, a1, a2, a3]) (st := [s0]) d0_940 xco0 xm_13_115 (congrArg Nat.succ xnp195) (by decide +kernel) rfl,
   fun _ _ _ _ _ => xl_iceq d0_943 rfl,
   fun _ _ _ => xl_ic d0_946 (by decide +kernel),
   fun _ _ _ hc => xl_irz d0_947 xrt0 hc,
   fun _ _ _ _ _ _ => xl_aln d0_948 rfl,
   fun _ _ _ _ _ _ => xl_aln d0_949 rfl,
   fun _ _ _ _ _ _ => xl_iln d0_950 rfl,
   fun _ _ _ => xl_ic d0_951 (by decide +kernel),
   fun _ _ _ _ _ => xl_iadd d0_952,
   fun _ _ _ _ _ => xl_ia d0_953,
   fun ls a0 a1 h => xl_cv (As := [a0, a1]) (st := []) d0_954 xco0 xm_13_116 (congrArg Nat.succ xnp135) (by decide +kernel) rfl,
   fun _ _ _ _ _ _ => xl_aln d0_957 rfl,
   fun _ _ _ _ _ _ => xl_aln d0_958 rfl,
   fun _ _ _ _ _ _ => xl_iln d0_959 rfl,
   fun _ _ _ => xl_ic d0_960 (by decide +kernel),
   fun _ _ _ _ _ => xl_iadd d0_961,
   fun _ _ _ _ _ => xl_ia d0_962,
   fun ls a0 a1 s0 h => xl_cv (As := [a0, a1]) (st := [s0]) d0_963 xco0 xm_13_119 (congrArg Nat.succ xnp198) (by decide +kernel) rfl,
   fun _ _ _ _ _ => xl_iceq d0_966 rfl,
   fun _ _ _ => xl_ic d0_969 (by decide +kernel),
   fun _ _ _ hc => xl_irz d0_970 xrt0 hc,
   fun _ _ _ _ _ _ => xl_aln d0_971 rfl,
   fun _ _ _ _ _ _ => xl_aln d0_972 rfl,
   fun _ _ _ _ _ _ => xl_iln d0_973 rfl,
   fun _ _ _ => xl_ic d0_974 (by decide +kernel),
   fun _ _ _ _ _ => xl_iadd d0_975,
   fun _ _ _ _ _ => xl_ia d0_976,
   fun _ _ _ _ _ _ => xl_aln d0_977 rfl,
   fun _ _ _ _ _ _ => xl_iln d0_978 rfl,
   fun _ _ _ => xl_ic d0_979 (by decide +kernel),
   fun _ _ _ _ _ => xl_iadd d0_980⟩
theorem x0_p11 : (∀ ls a i st h, zz_Y 0 (981, ls, .int i :: .ref a :: st, h) = mo_ia (hp_g h a) i a 0 982 ls st h) ∧ (∀ ls a0 a1 a2 h, zz_Y 0 (982, ls, [a2, a1, a0], h) = mo_k 0 985 ls [] (zz_run 137 [a0, a1, a2] h)) ∧ (∀ l0 l1 l3 x st h, zz_Y 0 (985, [l0, l1, some (.ref x), l3], st, h) = zz_Y 0 (986, [l0, l1, some (.ref x), l3], .ref x :: st, h)) ∧ (∀ l1 l2 l3 x st h, zz_Y 0 (986, [some (.ref x), l1, l2, l3], st, h) = zz_Y 0 (987, [some (.ref x), l1, l2, l3], .ref x :: st, h)) ∧ (∀ l0 l1 l2 x st h, zz_Y 0 (987, [l0, l1, l2, some (.int x)], st, h) = zz_Y 0 (988, [l0, l1, l2, some (.int x)], .int x :: st, h)) ∧ (∀ ls st h, zz_Y 0 (988, ls, st, h) = zz_Y 0 (989, ls, .int (nI 1) :: st, h)) ∧ (∀ ls a b st h, zz_Y 0 (989, ls, .int b :: .int a :: st, h) = zz_Y 0 (990, ls, .int (a + b) :: st, h)) ∧ (∀ ls a i st h, zz_Y 0 (990, ls, .int i :: .ref a :: st, h) = mo_ia (hp_g h a) i a 0 991 ls st h) ∧ (∀ l1 l2 l3 x st h, zz_Y 0 (991, [some (.ref x), l1, l2, l3], st, h) = zz_Y 0 (992, [some (.ref x), l1, l2, l3], .ref x :: st, h)) ∧ (∀ l0 l1 l2 x st h, zz_Y 0 (992, [l0, l1, l2, some (.int x)], st, h) = zz_Y 0 (993, [l0, l1, l2, some (.int x)], .int x :: st, h)) ∧ (∀ ls st h, zz_Y 0 (993, ls, st, h) = zz_Y 0 (994, ls, .int (nI 2) :: st, h)) ∧ (∀ ls a b st h, zz_Y 0 (994, ls, .int b :: .int a :: st, h) = zz_Y 0 (995, ls, .int (a + b) :: st, h)) ∧ (∀ ls a i st h, zz_Y 0 (995, ls, .int i :: .ref a :: st, h) = mo_ia (hp_g h a) i a 0 996 ls st h) ∧ (∀ ls a0 a1 a2 s0 h, zz_Y 0 (996, ls, [a2, a1, a0, s0], h) = mo_k 0 999 ls [s0] (zz_run 199 [a0, a1, a2] h)) ∧ (∀ ls a b st h, zz_Y 0 (999, ls, .int b :: .int a :: st, h) = if a = b then zz_Y 0 (1096, ls, st, h) else zz_Y 0 (1002, ls, st, h)) ∧ (∀ ls st h, zz_Y 0 (1002, ls, st, h) = zz_Y 0 (1003, ls, .int (nI 0) :: st, h)) ∧ (∀ ls v h, v = nI 0 ∨ v = nI 1 → zz_Y 0 (1003, ls, [.int v], h) = some (some (.int v), h)) ∧ (∀ l0 l2 l3 x st h, zz_Y 0 (1004, [l0, some (.ref x), l2, l3], st, h) = zz_Y 0 (1005, [l0, some (.ref x), l2, l3], .ref x :: st, h)) ∧ (∀ l1 l2 l3 x st h, zz_Y 0 (1005, [some (.ref x), l1, l2, l3], st, h) = zz_Y 0 (1006, [some (.ref x), l1, l2, l3], .ref x :: st, h)) ∧ (∀ l0 l1 l2 x st h, zz_Y 0 (1006, [l0, l1, l2, some (.int x)], st, h) = zz_Y 0 (1007, [l0, l1, l2, some (.int x)], .int x :: st, h)) ∧ (∀ ls st h, zz_Y 0 (1007, ls, st, h) = zz_Y 0 (1008, ls, .int (nI 1) :: st, h)) ∧ (∀ ls a b st h, zz_Y 0 (1008, ls, .int b :: .int a :: st, h) = zz_Y 0 (1009, ls, .int (a + b) :: st, h)) ∧ (∀ ls a i st h, zz_Y 0 (1009, ls, .int i :: .ref a :: st, h) = mo_ia (hp_g h a) i a 0 1010 ls st h) ∧ (∀ ls a0 a1 h, zz_Y 0 (1010, ls, [a1, a0], h) = mo_k 0 1013 ls [] (zz_run 143 [a0, a1] h)) ∧ (∀ l0 l1 l3 x st h, zz_Y 0 (1013, [l0, l1, some (.ref x), l3], st, h) = zz_Y 0 (1014, [l0, l1, some (.ref x), l3], .ref x :: st, h)) ∧ (∀ l1 l2 l3 x st h, zz_Y 0 (1014, [some (.ref x), l1, l2, l3], st, h) = zz_Y 0 (1015, [some (.ref x), l1, l2, l3], .ref x :: st, h)) ∧ (∀ l0 l1 l2 x st h, zz_Y 0 (1015, [l0, l1, l2, some (.int x)], st, h) = zz_Y 0 (1016, [l0, l1, l2, some (.int x)], .int x :: st, h)) ∧ (∀ ls st h, zz_Y 0 (1016, ls, st, h) = zz_Y 0 (1017, ls, .int (nI 1) :: st, h)) ∧ (∀ ls a b st h, zz_Y 0 (1017, ls, .int b :: .int a :: st, h) = zz_Y 0 (1018, ls, .int (a + b) :: st, h)) ∧ (∀ ls a i st h, zz_Y 0 (1018, ls, .int i :: .ref a :: st, h) = mo_ia (hp_g h a) i a 0 1019 ls st h) ∧ (∀ ls a0 a1 s0 h, zz_Y 0 (1019, ls, [a1, a0, s0], h) = mo_k 0 1022 ls [s0] (zz_run 202 [a0, a1] h)) ∧ (∀ ls a b st h, zz_Y 0 (1022, ls, .int b :: .int a :: st, h) = if a = b then zz_Y 0 (1096, ls, st, h) else zz_Y 0 (1025, ls, st, h)) ∧ (∀ ls st h, zz_Y 0 (1025, ls, st, h) = zz_Y 0 (1026, ls, .int (nI 0) :: st, h)) ∧ (∀ ls v h, v = nI 0 ∨ v = nI 1 → zz_Y 0 (1026, ls, [.int v], h) = some (some (.int v), h)) ∧ (∀ l0 l2 l3 x st h, zz_Y 0 (1027, [l0, some (.ref x), l2, l3], st, h) = zz_Y 0 (1028, [l0, some (.ref x), l2, l3], .ref x :: st, h)) ∧ (∀ l1 l2 l3 x st h, zz_Y 0 (1028, [some (.ref x), l1, l2, l3], st, h) = zz_Y 0 (1029, [some (.ref x), l1, l2, l3], .ref x :: st, h)) ∧ (∀ l0 l1 l2 x st h, zz_Y 0 (1029, [l0, l1, l2, some (.int x)], st, h) = zz_Y 0 (1030, [l0, l1, l2, some (.int x)], .int x :: st, h)) ∧ (∀ ls st h, zz_Y 0 (1030, ls, st, h) = zz_Y 0 (1031, ls, .int (nI 1) :: st, h)) ∧ (∀ ls a b st h, zz_Y 0 (1031, ls, .int b :: .int a :: st, h) = zz_Y 0 (1032, ls, .int (a + b) :: st, h)) ∧ (∀ ls a i st h, zz_Y 0 (1032, ls, .int i :: .ref a :: st, h) = mo_ia (hp_g h a) i a 0 1033 ls st h) ∧ (∀ ls a0 a1 h, zz_Y 0 (1033, ls, [a1, a0], h) = mo_k 0 1036 ls [] (zz_run 145 [a0, a1] h)) ∧ (∀ l0 l1 l3 x st h, zz_Y 0 (1036, [l0, l1, some (.ref x), l3], st, h) = zz_Y 0 (1037, [l0, l1, some (.ref x), l3], .ref x :: st, h)) ∧ (∀ l1 l2 l3 x st h, zz_Y 0 (1037, [some (.ref x), l1, l2, l3], st, h) = zz_Y 0 (1038, [some (.ref x), l1, l2, l3], .ref x :: st, h)) ∧ (∀ l0 l1 l2 x st h, zz_Y 0 (1038, [l0, l1, l2, some (.int x)], st, h) = zz_Y 0 (1039, [l0, l1, l2, some (.int x)], .int x :: st, h)) ∧ (∀ ls st h, zz_Y 0 (1039, ls, st, h) = zz_Y 0 (1040, ls, .int (nI 1) :: st, h)) ∧ (∀ ls a b st h, zz_Y 0 (1040, ls, .int b :: .int a :: st, h) = zz_Y 0 (1041, ls, .int (a + b) :: st, h)) ∧ (∀ ls a i st h, zz_Y 0 (1041, ls, .int i :: .ref a :: st, h) = mo_ia (hp_g h a) i a 0 1042 ls st h) ∧ (∀ ls a0 a1 s0 h, zz_Y 0 (1042, ls, [a1, a0, s0], h) = mo_k 0 1045 ls [s0] (zz_run 203 [a0, a1] h)) ∧ (∀ ls a b st h, zz_Y 0 (1045, ls, .int b :: .int a :: st, h) = if a = b then zz_Y 0 (1096, ls, st, h) else zz_Y 0 (1048, ls, st, h)) ∧ (∀ ls st h, zz_Y 0 (1048, ls, st, h) = zz_Y 0 (1049, ls, .int (nI 0) :: st, h)) ∧ (∀ ls v h, v = nI 0 ∨ v = nI 1 → zz_Y 0 (1049, ls, [.int v], h) = some (some (.int v), h)) ∧ (∀ l0 l2 l3 x st h, zz_Y 0 (1050, [l0, some (.ref x), l2, l3], st, h) = zz_Y 0 (1051, [l0, some (.ref x), l2, l3], .ref x :: st, h)) ∧ (∀ l1 l2 l3 x st h, zz_Y 0 (1051, [some (.ref x), l1, l2, l3], st, h) = zz_Y 0 (1052, [some (.ref x), l1, l2, l3], .ref x :: st, h)) ∧ (∀ l0 l1 l2 x st h, zz_Y 0 (1052, [l0, l1, l2, some (.int x)], st, h) = zz_Y 0 (1053, [l0, l1, l2, some (.int x)], .int x :: st, h)) ∧ (∀ ls st h, zz_Y 0 (1053, ls, st, h) = zz_Y 0 (1054, ls, .int (nI 1) :: st, h)) ∧ (∀ ls a b st h, zz_Y 0 (1054, ls, .int b :: .int a :: st, h) = zz_Y 0 (1055, ls, .int (a + b) :: st, h)) ∧ (∀ ls a i st h, zz_Y 0 (1055, ls, .int i :: .ref a :: st, h) = mo_ia (hp_g h a) i a 0 1056 ls st h) ∧ (∀ ls a0 a1 h, zz_Y 0 (1056, ls, [a1, a0], h) = mo_k 0 1059 ls [] (zz_run 147 [a0, a1] h)) ∧ (∀ l0 l1 l3 x st h, zz_Y 0 (1059, [l0, l1, some (.ref x), l3], st, h) = zz_Y 0 (1060, [l0, l1, some (.ref x), l3], .ref x :: st, h)) ∧ (∀ l1 l2 l3 x st h, zz_Y 0 (1060, [some (.ref x), l1, l2, l3], st, h) = zz_Y 0 (1061, [some (.ref x), l1, l2, l3], .ref x :: st, h)) :=
  ⟨fun _ _ _ _ _ => xl_ia d0_981,
   fun ls a0 a1 a2 h => xl_cv (As := [a0, a1, a2]) (st := []) d0_982 xco0 xm_13_120 (congrArg Nat.succ xnp137) (by decide +kernel) rfl,
   fun _ _ _ _ _ _ => xl_aln d0_985 rfl,
   fun _ _ _ _ _ _ => xl_aln d0_986 rfl,
   fun _ _ _ _ _ _ => xl_iln d0_987 rfl,
   fun _ _ _ => xl_ic d0_988 (by decide +kernel),
   fun _ _ _ _ _ => xl_iadd d0_989,
   fun _ _ _ _ _ => xl_ia d0_990,
   fun _ _ _ _ _ _ => xl_aln d0_991 rfl,
   fun _ _ _ _ _ _ => xl_iln d0_992 rfl,
   fun _ _ _ => xl_ic d0_993 (by decide +kernel),
   fun _ _ _ _ _ => xl_iadd d0_994,
   fun _ _ _ _ _ => xl_ia d0_995,
   fun ls a0 a1 a2 s0 h => xl_cv (As := [a0, a1, a2]) (st := [s0]) d0_996 xco0 xm_13_123 (congrArg Nat.succ xnp199) (by decide +kernel) rfl,
   fun _ _ _ _ _ => xl_iceq d0_999 rfl,
   fun _ _ _ => xl_ic d0_1002 (by decide +kernel),
   fun _ _ _ hc => xl_irz d0_1003 xrt0 hc,
   fun _ _ _ _ _ _ => xl_aln d0_1004 rfl,
   fun _ _ _ _ _ _ => xl_aln d0_1005 rfl,
   fun _ _ _ _ _ _ => xl_iln d0_1006 rfl,
   fun _ _ _ => xl_ic d0_1007 (by decide +kernel),
   fun _ _ _ _ _ => xl_iadd d0_1008,
   fun _ _ _ _ _ => xl_ia d0_1009,
   fun ls a0 a1 h => xl_cv (As := [a0, a1]) (st := []) d0_1010 xco0 xm_13_124 (congrArg Nat.succ xnp143) (by decide +kernel) rfl,
   fun _ _ _ _ _ _ => xl_aln d0_1013 rfl,
   fun _ _ _ _ _ _ => xl_aln d0_1014 rfl,
   fun _ _ _ _ _ _ => xl_iln d0_1015 rfl,
   fun _ _ _ => xl_ic d0_1016 (by decide +kernel),
   fun _ _ _ _ _ => xl_iadd d0_1017,
   fun _ _ _ _ _ => xl_ia d0_1018,
   fun ls a0 a1 s0 h => xl_cv (As := [a0, a1]) (st := [s0]) d0_1019 xco0 xm_13_127 (congrArg Nat.succ xnp202) (by decide +kernel) rfl,
   fun _ _ _ _ _ => xl_iceq d0_1022 rfl,
   fun _ _ _ => xl_ic d0_1025 (by decide +kernel),
   fun _ _ _ hc => xl_irz d0_1026 xrt0 hc,
   fun _ _ _ _ _ _ => xl_aln d0_1027 rfl,
   fun _ _ _ _ _ _ => xl_aln d0_1028 rfl,
   fun _ _ _ _ _ _ => xl_iln d0_1029 rfl,
   fun _ _ _ => xl_ic d0_1030 (by decide +kernel),
   fun _ _ _ _ _ => xl_iadd d0_1031,
   fun _ _ _ _ _ => xl_ia d0_1032,
   fun ls a0 a1 h => xl_cv (As := [a0, a1]) (st := []) d0_1033 xco0 xm_13_128 (congrArg Nat.succ xnp145) (by decide +kernel) rfl,
   fun _ _ _ _ _ _ => xl_aln d0_1036 rfl,
   fun _ _ _ _ _ _ => xl_aln d0_1037 rfl,
   fun _ _ _ _ _ _ => xl_iln d0_1038 rfl,
   fun _ _ _ => xl_ic d0_1039 (by decide +kernel),
   fun _ _ _ _ _ => xl_iadd d0_1040,
   fun _ _ _ _ _ => xl_ia d0_1041,
   fun ls a0 a1 s0 h => xl_cv (As := [a0, a1]) (st := [s0]) d0_1042 xco0 xm_13_131 (congrArg Nat.succ xnp203) (by decide +kernel) rfl,
   fun _ _ _ _ _ => xl_iceq d0_1045 rfl,
   fun _ _ _ => xl_ic d0_1048 (by decide +kernel),
   fun _ _ _ hc => xl_irz d0_1049 xrt0 hc,
   fun _ _ _ _ _ _ => xl_aln d0_1050 rfl,
   fun _ _ _ _ _ _ => xl_aln d0_1051 rfl,
   fun _ _ _ _ _ _ => xl_iln d0_1052 rfl,
   fun _ _ _ => xl_ic d0_1053 (by decide +kernel),
   fun _ _ _ _ _ => xl_iadd d0_1054,
   fun _ _ _ _ _ => xl_ia d0_1055,
   fun ls a0 a1 h => xl_cv (As := [a0, a1]) (st := []) d0_1056 xco0 xm_13_132 (congrArg Nat.succ xnp147) (by decide +kernel) rfl,
   fun _ _ _ _ _ _ => xl_aln d0_1059 rfl,
   fun _ _ _ _ _ _ => xl_aln d0_1060 rfl⟩
theorem x0_p12 : (∀ l0 l1 l2 x st h, zz_Y 0 (1061, [l0, l1, l2, some (.int x)], st, h) = zz_Y 0 (1062, [l0, l1, l2, some (.int x)], .int x :: st, h)) ∧ (∀ ls st h, zz_Y 0 (1062, ls, st, h) = zz_Y 0 (1063, ls, .int (nI 1) :: st, h)) ∧ (∀ ls a b st h, zz_Y 0 (1063, ls, .int b :: .int a :: st, h) = zz_Y 0 (1064, ls, .int (a + b) :: st, h)) ∧ (∀ ls a i st h, zz_Y 0 (1064, ls, .int i :: .ref a :: st, h) = mo_ia (hp_g h a) i a 0 1065 ls st h) ∧ (∀ ls a0 a1 s0 h, zz_Y 0 (1065, ls, [a1, a0, s0], h) = mo_k 0 1068 ls [s0] (zz_run 254 [a0, a1] h)) ∧ (∀ ls a b st h, zz_Y 0 (1068, ls, .int b :: .int a :: st, h) = if a = b then zz_Y 0 (1096, ls, st, h) else zz_Y 0 (1071, ls, st, h)) ∧ (∀ ls st h, zz_Y 0 (1071, ls, st, h) = zz_Y 0 (1072, ls, .int (nI 0) :: st, h)) ∧ (∀ ls v h, v = nI 0 ∨ v = nI 1 → zz_Y 0 (1072, ls, [.int v], h) = some (some (.int v), h)) ∧ (∀ l0 l2 l3 x st h, zz_Y 0 (1073, [l0, some (.ref x), l2, l3], st, h) = zz_Y 0 (1074, [l0, some (.ref x), l2, l3], .ref x :: st, h)) ∧ (∀ l1 l2 l3 x st h, zz_Y 0 (1074, [some (.ref x), l1, l2, l3], st, h) = zz_Y 0 (1075, [some (.ref x), l1, l2, l3], .ref x :: st, h)) ∧ (∀ l0 l1 l2 x st h, zz_Y 0 (1075, [l0, l1, l2, some (.int x)], st, h) = zz_Y 0 (1076, [l0, l1, l2, some (.int x)], .int x :: st, h)) ∧ (∀ ls st h, zz_Y 0 (1076, ls, st, h) = zz_Y 0 (1077, ls, .int (nI 1) :: st, h)) ∧ (∀ ls a b st h, zz_Y 0 (1077, ls, .int b :: .int a :: st, h) = zz_Y 0 (1078, ls, .int (a + b) :: st, h)) ∧ (∀ ls a i st h, zz_Y 0 (1078, ls, .int i :: .ref a :: st, h) = mo_ia (hp_g h a) i a 0 1079 ls st h) ∧ (∀ ls a0 a1 h, zz_Y 0 (1079, ls, [a1, a0], h) = mo_k 0 1082 ls [] (zz_run 151 [a0, a1] h)) ∧ (∀ l0 l1 l3 x st h, zz_Y 0 (1082, [l0, l1, some (.ref x), l3], st, h) = zz_Y 0 (1083, [l0, l1, some (.ref x), l3], .ref x :: st, h)) ∧ (∀ l1 l2 l3 x st h, zz_Y 0 (1083, [some (.ref x), l1, l2, l3], st, h) = zz_Y 0 (1084, [some (.ref x), l1, l2, l3], .ref x :: st, h)) ∧ (∀ l0 l1 l2 x st h, zz_Y 0 (1084, [l0, l1, l2, some (.int x)], st, h) = zz_Y 0 (1085, [l0, l1, l2, some (.int x)], .int x :: st, h)) ∧ (∀ ls st h, zz_Y 0 (1085, ls, st, h) = zz_Y 0 (1086, ls, .int (nI 1) :: st, h)) ∧ (∀ ls a b st h, zz_Y 0 (1086, ls, .int b :: .int a :: st, h) = zz_Y 0 (1087, ls, .int (a + b) :: st, h)) ∧ (∀ ls a i st h, zz_Y 0 (1087, ls, .int i :: .ref a :: st, h) = mo_ia (hp_g h a) i a 0 1088 ls st h) ∧ (∀ ls a0 a1 s0 h, zz_Y 0 (1088, ls, [a1, a0, s0], h) = mo_k 0 1091 ls [s0] (zz_run 255 [a0, a1] h)) ∧ (∀ ls a b st h, zz_Y 0 (1091, ls, .int b :: .int a :: st, h) = if a = b then zz_Y 0 (1096, ls, st, h) else zz_Y 0 (1094, ls, st, h)) ∧ (∀ ls st h, zz_Y 0 (1094, ls, st, h) = zz_Y 0 (1095, ls, .int (nI 0) :: st, h)) ∧ (∀ ls v h, v = nI 0 ∨ v = nI 1 → zz_Y 0 (1095, ls, [.int v], h) = some (some (.int v), h)) ∧ (∀ l0 l1 l2 x st h, zz_nl l2 = true → zz_Y 0 (1096, [l0, l1, l2, some (.int x)], st, h) = zz_Y 0 (1099, [l0, l1, l2, some (.int (x + nI 6))], st, h)) ∧ (∀ ls st h, zz_Y 0 (1099, ls, st, h) = zz_Y 0 (18, ls, st, h)) ∧ (∀ ls st h, zz_Y 0 (1102, ls, st, h) = zz_Y 0 (1103, ls, .int (nI 1) :: st, h)) ∧ (∀ ls v h, v = nI 0 ∨ v = nI 1 → zz_Y 0 (1103, ls, [.int v], h) = some (some (.int v), h)) :=
  ⟨fun _ _ _ _ _ _ => xl_iln d0_1061 rfl,
   fun _ _ _ => xl_ic d0_1062 (by decide +kernel),
   fun _ _ _ _ _ => xl_iadd d0_1063,
   fun _ _ _ _ _ => xl_ia d0_1064,
   fun ls a0 a1 s0 h => xl_cv (As := [a0, a1]) (st := [s0]) d0_1065 xco0 xm_13_136 (congrArg Nat.succ xnp254) (by decide +kernel) rfl,
   fun _ _ _ _ _ => xl_iceq d0_1068 rfl,
   fun _ _ _ => xl_ic d0_1071 (by decide +kernel),
   fun _ _ _ hc => xl_irz d0_1072 xrt0 hc,
   fun _ _ _ _ _ _ => xl_aln d0_1073 rfl,
   fun _ _ _ _ _ _ => xl_aln d0_1074 rfl,
   fun _ _ _ _ _ _ => xl_iln d0_1075 rfl,
   fun _ _ _ => xl_ic d0_1076 (by decide +kernel),
   fun _ _ _ _ _ => xl_iadd d0_1077,
   fun _ _ _ _ _ => xl_ia d0_1078,
   fun ls a0 a1 h => xl_cv (As := [a0, a1]) (st := []) d0_1079 xco0 xm_13_137 (congrArg Nat.succ xnp151) (by decide +kernel) rfl,
   fun _ _ _ _ _ _ => xl_aln d0_1082 rfl,
   fun _ _ _ _ _ _ => xl_aln d0_1083 rfl,
   fun _ _ _ _ _ _ => xl_iln d0_1084 rfl,
   fun _ _ _ => xl_ic d0_1085 (by decide +kernel),
   fun _ _ _ _ _ => xl_iadd d0_1086,
   fun _ _ _ _ _ => xl_ia d0_1087,
   fun ls a0 a1 s0 h => xl_cv (As := [a0, a1]) (st := [s0]) d0_1088 xco0 xm_13_140 (congrArg Nat.succ xnp255) (by decide +kernel) rfl,
   fun _ _ _ _ _ => xl_iceq d0_1091 rfl,
   fun _ _ _ => xl_ic d0_1094 (by decide +kernel),
   fun _ _ _ hc => xl_irz d0_1095 xrt0 hc,
   fun _ _ _ _ _ _ hc => xl_inc d0_1096 xml0 (by decide) rfl (by decide +kernel) (zz_nl_s1 hc),
   fun _ _ _ => xl_goto d0_1099 rfl,
   fun _ _ _ => xl_ic d0_1102 (by decide +kernel),
   fun _ _ _ hc => xl_irz d0_1103 xrt0 hc⟩
theorem x0_c18 : ∀ l0 l1 l2 x st h, zz_Y 0 (18, [l0, l1, l2, some (.int x)], st, h) = zz_Y 0 (19, [l0, l1, l2, some (.int x)], .int x :: st, h) := fun _ _ _ _ _ _ => xl_iln d0_18 rfl
/-! 1 FacetSieve.<init>()V -/
theorem d1_0 : decode (zz_c 1) 0 = .ok (.aload_n 0, 1) := by decide +kernel
theorem d1_1 : decode (zz_c 1) 1 = .ok (.invokespecial 3, 3) := by decide +kernel
theorem d1_4 : decode (zz_c 1) 4 = .ok (.aload_n 0, 1) := by decide +kernel
theorem d1_5 : decode (zz_c 1) 5 = .ok (.new 9, 3) := by decide +kernel
theorem d1_8 : decode (zz_c 1) 8 = .ok (.dup, 1) := by decide +kernel
theorem d1_9 : decode (zz_c 1) 9 = .ok (.invokespecial 11, 3) := by decide +kernel
theorem d1_12 : decode (zz_c 1) 12 = .ok (.putfield 12, 3) := by decide +kernel
theorem d1_15 : decode (zz_c 1) 15 = .ok (.aload_n 0, 1) := by decide +kernel
theorem d1_16 : decode (zz_c 1) 16 = .ok (.iconst 3, 1) := by decide +kernel
theorem d1_17 : decode (zz_c 1) 17 = .ok (.anewarray 9, 3) := by decide +kernel
theorem d1_20 : decode (zz_c 1) 20 = .ok (.putfield 16, 3) := by decide +kernel
theorem d1_23 : decode (zz_c 1) 23 = .ok (.aload_n 0, 1) := by decide +kernel
theorem d1_24 : decode (zz_c 1) 24 = .ok (.new 20, 3) := by decide +kernel
theorem d1_27 : decode (zz_c 1) 27 = .ok (.dup, 1) := by decide +kernel
theorem d1_28 : decode (zz_c 1) 28 = .ok (.invokespecial 22, 3) := by decide +kernel
theorem d1_31 : decode (zz_c 1) 31 = .ok (.putfield 23, 3) := by decide +kernel
theorem d1_34 : decode (zz_c 1) 34 = .ok (.aload_n 0, 1) := by decide +kernel
theorem d1_35 : decode (zz_c 1) 35 = .ok (.new 27, 3) := by decide +kernel
theorem d1_38 : decode (zz_c 1) 38 = .ok (.dup, 1) := by decide +kernel
theorem d1_39 : decode (zz_c 1) 39 = .ok (.invokespecial 29, 3) := by decide +kernel
theorem d1_42 : decode (zz_c 1) 42 = .ok (.putfield 30, 3) := by decide +kernel
theorem d1_45 : decode (zz_c 1) 45 = .ok (.aload_n 0, 1) := by decide +kernel
theorem d1_46 : decode (zz_c 1) 46 = .ok (.new 34, 3) := by decide +kernel
theorem d1_49 : decode (zz_c 1) 49 = .ok (.dup, 1) := by decide +kernel
theorem d1_50 : decode (zz_c 1) 50 = .ok (.invokespecial 36, 3) := by decide +kernel
theorem d1_53 : decode (zz_c 1) 53 = .ok (.putfield 37, 3) := by decide +kernel
theorem d1_56 : decode (zz_c 1) 56 = .ok (.aload_n 0, 1) := by decide +kernel
theorem d1_57 : decode (zz_c 1) 57 = .ok (.new 41, 3) := by decide +kernel
theorem d1_60 : decode (zz_c 1) 60 = .ok (.dup, 1) := by decide +kernel
theorem d1_61 : decode (zz_c 1) 61 = .ok (.iconst 1, 1) := by decide +kernel
theorem d1_62 : decode (zz_c 1) 62 = .ok (.invokespecial 43, 3) := by decide +kernel
theorem d1_65 : decode (zz_c 1) 65 = .ok (.putfield 46, 3) := by decide +kernel
theorem d1_68 : decode (zz_c 1) 68 = .ok (.return_, 1) := by decide +kernel
theorem x1 : (∀ x st h, zz_Y 1 (0, [some (.ref x)], st, h) = zz_Y 1 (1, [some (.ref x)], .ref x :: st, h)) ∧ (∀ ls a h, zz_Y 1 (1, ls, [.ref a], h) = zz_Y 1 (4, ls, [], h)) ∧ (∀ x st h, zz_Y 1 (4, [some (.ref x)], st, h) = zz_Y 1 (5, [some (.ref x)], .ref x :: st, h)) ∧ (∀ ls st h, zz_Y 1 (5, ls, st, h) = zz_Y 1 (8, ls, .ref h.1 :: st, hp_n h 10 (.inr (1, [.null, .null, .null, .int 0, .int 0, .int 0, .int 0, .null, .int 0, .int 0])))) ∧ (∀ ls a st h, zz_Y 1 (8, ls, .ref a :: st, h) = zz_Y 1 (9, ls, .ref a :: .ref a :: st, h)) ∧ (∀ ls a0 s0 s1 h, zz_Y 1 (9, ls, [a0, s0, s1], h) = mo_k 1 12 ls [s0, s1] (zz_run 2 [a0] h)) ∧ (∀ ls a v st h, zz_Y 1 (12, ls, v :: .ref a :: st, h) = mo_pf (hp_g h a) 10 0 (.object "FacetSieve$Everything") v a 1 15 ls st h) ∧ (∀ x st h, zz_Y 1 (15, [some (.ref x)], st, h) = zz_Y 1 (16, [some (.ref x)], .ref x :: st, h)) ∧ (∀ ls st h, zz_Y 1 (16, ls, st, h) = zz_Y 1 (17, ls, .int (nI 3) :: st, h)) ∧ (∀ ls n st h, zz_Y 1 (17, ls, .int n :: st, h) = mo_na zz_ev (fun n => (n, .inr (.inr (.inr (.inr (fun _ => none)))))) n 1 20 ls st h) ∧ (∀ ls a v st h, zz_Y 1 (20, ls, v :: .ref a :: st, h) = mo_pf (hp_g h a) 10 1 (.array (.object "FacetSieve$Everything")) v a 1 23 ls st h) ∧ (∀ x st h, zz_Y 1 (23, [some (.ref x)], st, h) = zz_Y 1 (24, [some (.ref x)], .ref x :: st, h)) ∧ (∀ ls st h, zz_Y 1 (24, ls, st, h) = zz_Y 1 (27, ls, .ref h.1 :: st, hp_n h 6 (.inr (2, [.null, .null, .null, .null, .int 0, .int 0])))) ∧ (∀ ls a st h, zz_Y 1 (27, ls, .ref a :: st, h) = zz_Y 1 (28, ls, .ref a :: .ref a :: st, h)) ∧ (∀ ls a0 s0 s1 h, zz_Y 1 (28, ls, [a0, s0, s1], h) = mo_k 1 31 ls [s0, s1] (zz_run 9 [a0] h)) ∧ (∀ ls a v st h, zz_Y 1 (31, ls, v :: .ref a :: st, h) = mo_pf (hp_g h a) 10 2 (.object "FacetSieve$Journal") v a 1 34 ls st h) ∧ (∀ x st h, zz_Y 1 (34, [some (.ref x)], st, h) = zz_Y 1 (35, [some (.ref x)], .ref x :: st, h)) ∧ (∀ ls st h, zz_Y 1 (35, ls, st, h) = zz_Y 1 (38, ls, .ref h.1 :: st, hp_n h 2 (.inr (5, [.null, .null])))) ∧ (∀ ls a st h, zz_Y 1 (38, ls, .ref a :: st, h) = zz_Y 1 (39, ls, .ref a :: .ref a :: st, h)) ∧ (∀ ls a0 s0 s1 h, zz_Y 1 (39, ls, [a0, s0, s1], h) = mo_k 1 42 ls [s0, s1] (zz_run 11 [a0] h)) ∧ (∀ ls a v st h, zz_Y 1 (42, ls, v :: .ref a :: st, h) = mo_pf (hp_g h a) 10 3 (.object "FacetSieve$SchemeReader") v a 1 45 ls st h) ∧ (∀ x st h, zz_Y 1 (45, [some (.ref x)], st, h) = zz_Y 1 (46, [some (.ref x)], .ref x :: st, h)) ∧ (∀ ls st h, zz_Y 1 (46, ls, st, h) = zz_Y 1 (49, ls, .ref h.1 :: st, hp_n h 9 (.inr (4, [.null, .null, .null, .null, .int 0, .int 0, .int 0, .int 0, .int 0])))) ∧ (∀ ls a st h, zz_Y 1 (49, ls, .ref a :: st, h) = zz_Y 1 (50, ls, .ref a :: .ref a :: st, h)) ∧ (∀ ls a0 s0 s1 h, zz_Y 1 (50, ls, [a0, s0, s1], h) = mo_k 1 53 ls [s0, s1] (zz_run 12 [a0] h)) ∧ (∀ ls a v st h, zz_Y 1 (53, ls, v :: .ref a :: st, h) = mo_pf (hp_g h a) 10 4 (.object "FacetSieve$QuestionReader") v a 1 56 ls st h) ∧ (∀ x st h, zz_Y 1 (56, [some (.ref x)], st, h) = zz_Y 1 (57, [some (.ref x)], .ref x :: st, h)) ∧ (∀ ls st h, zz_Y 1 (57, ls, st, h) = zz_Y 1 (60, ls, .ref h.1 :: st, hp_n h 2 (.inr (6, [.int 0, .null])))) ∧ (∀ ls a st h, zz_Y 1 (60, ls, .ref a :: st, h) = zz_Y 1 (61, ls, .ref a :: .ref a :: st, h)) ∧ (∀ ls st h, zz_Y 1 (61, ls, st, h) = zz_Y 1 (62, ls, .int (nI 1) :: st, h)) ∧ (∀ ls a0 a1 s0 s1 h, zz_Y 1 (62, ls, [a1, a0, s0, s1], h) = mo_k 1 65 ls [s0, s1] (zz_run 6 [a0, a1] h)) ∧ (∀ ls a v st h, zz_Y 1 (65, ls, v :: .ref a :: st, h) = mo_pf (hp_g h a) 10 5 (.object "FacetSieve$Sets") v a 1 68 ls st h) ∧ (∀ ls h, zz_Y 1 (68, ls, [], h) = some (none, h)) :=
  ⟨fun _ _ _ => xl_aln d1_0 rfl,
   fun _ _ _ => xl_oi d1_1 xco1 xm_10_3 (by decide +kernel) (by decide +kernel) rfl,
   fun _ _ _ => xl_aln d1_4 rfl,
   fun _ _ _ => xl_new d1_5 xco1 (by decide +kernel) rfl rfl (by decide +kernel),
   fun _ _ _ _ => xl_dupr d1_8,
   fun ls a0 s0 s1 h => xl_cin (As := [a0]) (st := [s0, s1]) d1_9 xco1 xm_10_11 (congrArg Nat.succ xnp2) (by decide +kernel) rfl,
   fun _ _ _ _ _ => xl_pf d1_12 xco1 xf_10_12 (by decide +kernel) rfl,
   fun _ _ _ => xl_aln d1_15 rfl,
   fun _ _ _ => xl_ic d1_16 (by decide +kernel),
   fun _ _ _ _ => xl_nae d1_17 xco1 (by decide +kernel),
   fun _ _ _ _ _ => xl_pf d1_20 xco1 xf_10_16 (by decide +kernel) rfl,
   fun _ _ _ => xl_aln d1_23 rfl,
   fun _ _ _ => xl_new d1_24 xco1 (by decide +kernel) rfl rfl (by decide +kernel),
   fun _ _ _ _ => xl_dupr d1_27,
   fun ls a0 s0 s1 h => xl_cin (As := [a0]) (st := [s0, s1]) d1_28 xco1 xm_10_22 (congrArg Nat.succ xnp9) (by decide +kernel) rfl,
   fun _ _ _ _ _ => xl_pf d1_31 xco1 xf_10_23 (by decide +kernel) rfl,
   fun _ _ _ => xl_aln d1_34 rfl,
   fun _ _ _ => xl_new d1_35 xco1 (by decide +kernel) rfl rfl (by decide +kernel),
   fun _ _ _ _ => xl_dupr d1_38,
   fun ls a0 s0 s1 h => xl_cin (As := [a0]) (st := [s0, s1]) d1_39 xco1 xm_10_29 (congrArg Nat.succ xnp11) (by decide +kernel) rfl,
   fun _ _ _ _ _ => xl_pf d1_42 xco1 xf_10_30 (by decide +kernel) rfl,
   fun _ _ _ => xl_aln d1_45 rfl,
   fun _ _ _ => xl_new d1_46 xco1 (by decide +kernel) rfl rfl (by decide +kernel),
   fun _ _ _ _ => xl_dupr d1_49,
   fun ls a0 s0 s1 h => xl_cin (As := [a0]) (st := [s0, s1]) d1_50 xco1 xm_10_36 (congrArg Nat.succ xnp12) (by decide +kernel) rfl,
   fun _ _ _ _ _ => xl_pf d1_53 xco1 xf_10_37 (by decide +kernel) rfl,
   fun _ _ _ => xl_aln d1_56 rfl,
   fun _ _ _ => xl_new d1_57 xco1 (by decide +kernel) rfl rfl (by decide +kernel),
   fun _ _ _ _ => xl_dupr d1_60,
   fun _ _ _ => xl_ic d1_61 (by decide +kernel),
   fun ls a0 a1 s0 s1 h => xl_ci (As := [a0, a1]) (st := [s0, s1]) d1_62 xco1 xm_10_43 (congrArg Nat.succ xnp6) (by decide +kernel) rfl,
   fun _ _ _ _ _ => xl_pf d1_65 xco1 xf_10_46 (by decide +kernel) rfl,
   fun _ _ => xl_r d1_68 xrt1⟩
/-! 2 FacetSieve$Everything.<init>()V -/
theorem d2_0 : decode (zz_c 2) 0 = .ok (.aload_n 0, 1) := by decide +kernel
theorem d2_1 : decode (zz_c 2) 1 = .ok (.invokespecial 3, 3) := by decide +kernel
theorem d2_4 : decode (zz_c 2) 4 = .ok (.aload_n 0, 1) := by decide +kernel
theorem d2_5 : decode (zz_c 2) 5 = .ok (.new 9, 3) := by decide +kernel
theorem d2_8 : decode (zz_c 2) 8 = .ok (.dup, 1) := by decide +kernel
theorem d2_9 : decode (zz_c 2) 9 = .ok (.invokespecial 11, 3) := by decide +kernel
theorem d2_12 : decode (zz_c 2) 12 = .ok (.putfield 12, 3) := by decide +kernel
theorem d2_15 : decode (zz_c 2) 15 = .ok (.aload_n 0, 1) := by decide +kernel
theorem d2_16 : decode (zz_c 2) 16 = .ok (.new 18, 3) := by decide +kernel
theorem d2_19 : decode (zz_c 2) 19 = .ok (.dup, 1) := by decide +kernel
theorem d2_20 : decode (zz_c 2) 20 = .ok (.invokespecial 20, 3) := by decide +kernel
theorem d2_23 : decode (zz_c 2) 23 = .ok (.putfield 21, 3) := by decide +kernel
theorem d2_26 : decode (zz_c 2) 26 = .ok (.aload_n 0, 1) := by decide +kernel
theorem d2_27 : decode (zz_c 2) 27 = .ok (.new 25, 3) := by decide +kernel
theorem d2_30 : decode (zz_c 2) 30 = .ok (.dup, 1) := by decide +kernel
theorem d2_31 : decode (zz_c 2) 31 = .ok (.invokespecial 27, 3) := by decide +kernel
theorem d2_34 : decode (zz_c 2) 34 = .ok (.putfield 28, 3) := by decide +kernel
theorem d2_37 : decode (zz_c 2) 37 = .ok (.aload_n 0, 1) := by decide +kernel
theorem d2_38 : decode (zz_c 2) 38 = .ok (.iconst (-1), 1) := by decide +kernel
theorem d2_39 : decode (zz_c 2) 39 = .ok (.putfield 32, 3) := by decide +kernel
theorem d2_42 : decode (zz_c 2) 42 = .ok (.aload_n 0, 1) := by decide +kernel
theorem d2_43 : decode (zz_c 2) 43 = .ok (.new 36, 3) := by decide +kernel
theorem d2_46 : decode (zz_c 2) 46 = .ok (.dup, 1) := by decide +kernel
theorem d2_47 : decode (zz_c 2) 47 = .ok (.iconst 1, 1) := by decide +kernel
theorem d2_48 : decode (zz_c 2) 48 = .ok (.invokespecial 38, 3) := by decide +kernel
theorem d2_51 : decode (zz_c 2) 51 = .ok (.putfield 41, 3) := by decide +kernel
theorem d2_54 : decode (zz_c 2) 54 = .ok (.aload_n 0, 1) := by decide +kernel
theorem d2_55 : decode (zz_c 2) 55 = .ok (.iconst (-1), 1) := by decide +kernel
theorem d2_56 : decode (zz_c 2) 56 = .ok (.putfield 45, 3) := by decide +kernel
theorem d2_59 : decode (zz_c 2) 59 = .ok (.return_, 1) := by decide +kernel
theorem x2 : (∀ x st h, zz_Y 2 (0, [some (.ref x)], st, h) = zz_Y 2 (1, [some (.ref x)], .ref x :: st, h)) ∧ (∀ ls a h, zz_Y 2 (1, ls, [.ref a], h) = zz_Y 2 (4, ls, [], h)) ∧ (∀ x st h, zz_Y 2 (4, [some (.ref x)], st, h) = zz_Y 2 (5, [some (.ref x)], .ref x :: st, h)) ∧ (∀ ls st h, zz_Y 2 (5, ls, st, h) = zz_Y 2 (8, ls, .ref h.1 :: st, hp_n h 2 (.inr (8, [.null, .int 0])))) ∧ (∀ ls a st h, zz_Y 2 (8, ls, .ref a :: st, h) = zz_Y 2 (9, ls, .ref a :: .ref a :: st, h)) ∧ (∀ ls a0 s0 s1 h, zz_Y 2 (9, ls, [a0, s0, s1], h) = mo_k 2 12 ls [s0, s1] (zz_run 3 [a0] h)) ∧ (∀ ls a v st h, zz_Y 2 (12, ls, v :: .ref a :: st, h) = mo_pf (hp_g h a) 1 0 (.object "FacetSieve$Tape") v a 2 15 ls st h) ∧ (∀ x st h, zz_Y 2 (15, [some (.ref x)], st, h) = zz_Y 2 (16, [some (.ref x)], .ref x :: st, h)) ∧ (∀ ls st h, zz_Y 2 (16, ls, st, h) = zz_Y 2 (19, ls, .ref h.1 :: st, hp_n h 4 (.inr (7, [.null, .null, .null, .null])))) ∧ (∀ ls a st h, zz_Y 2 (19, ls, .ref a :: st, h) = zz_Y 2 (20, ls, .ref a :: .ref a :: st, h)) ∧ (∀ ls a0 s0 s1 h, zz_Y 2 (20, ls, [a0, s0, s1], h) = mo_k 2 23 ls [s0, s1] (zz_run 4 [a0] h)) ∧ (∀ ls a v st h, zz_Y 2 (23, ls, v :: .ref a :: st, h) = mo_pf (hp_g h a) 1 1 (.object "FacetSieve$Stock") v a 2 26 ls st h) ∧ (∀ x st h, zz_Y 2 (26, [some (.ref x)], st, h) = zz_Y 2 (27, [some (.ref x)], .ref x :: st, h)) ∧ (∀ ls st h, zz_Y 2 (27, ls, st, h) = zz_Y 2 (30, ls, .ref h.1 :: st, hp_n h 2 (.inr (0, [.null, .null])))) ∧ (∀ ls a st h, zz_Y 2 (30, ls, .ref a :: st, h) = zz_Y 2 (31, ls, .ref a :: .ref a :: st, h)) ∧ (∀ ls a0 s0 s1 h, zz_Y 2 (31, ls, [a0, s0, s1], h) = mo_k 2 34 ls [s0, s1] (zz_run 8 [a0] h)) ∧ (∀ ls a v st h, zz_Y 2 (34, ls, v :: .ref a :: st, h) = mo_pf (hp_g h a) 1 2 (.object "FacetSieve$Choice") v a 2 37 ls st h) ∧ (∀ x st h, zz_Y 2 (37, [some (.ref x)], st, h) = zz_Y 2 (38, [some (.ref x)], .ref x :: st, h)) ∧ (∀ ls st h, zz_Y 2 (38, ls, st, h) = zz_Y 2 (39, ls, .int (-1) :: st, h)) ∧ (∀ ls a v st h, zz_Y 2 (39, ls, v :: .ref a :: st, h) = mo_pf (hp_g h a) 1 4 .int v a 2 42 ls st h) ∧ (∀ x st h, zz_Y 2 (42, [some (.ref x)], st, h) = zz_Y 2 (43, [some (.ref x)], .ref x :: st, h)) ∧ (∀ ls st h, zz_Y 2 (43, ls, st, h) = zz_Y 2 (46, ls, .ref h.1 :: st, hp_n h 2 (.inr (6, [.int 0, .null])))) ∧ (∀ ls a st h, zz_Y 2 (46, ls, .ref a :: st, h) = zz_Y 2 (47, ls, .ref a :: .ref a :: st, h)) ∧ (∀ ls st h, zz_Y 2 (47, ls, st, h) = zz_Y 2 (48, ls, .int (nI 1) :: st, h)) ∧ (∀ ls a0 a1 s0 s1 h, zz_Y 2 (48, ls, [a1, a0, s0, s1], h) = mo_k 2 51 ls [s0, s1] (zz_run 6 [a0, a1] h)) ∧ (∀ ls a v st h, zz_Y 2 (51, ls, v :: .ref a :: st, h) = mo_pf (hp_g h a) 1 7 (.object "FacetSieve$Sets") v a 2 54 ls st h) ∧ (∀ x st h, zz_Y 2 (54, [some (.ref x)], st, h) = zz_Y 2 (55, [some (.ref x)], .ref x :: st, h)) ∧ (∀ ls st h, zz_Y 2 (55, ls, st, h) = zz_Y 2 (56, ls, .int (-1) :: st, h)) ∧ (∀ ls a v st h, zz_Y 2 (56, ls, v :: .ref a :: st, h) = mo_pf (hp_g h a) 1 9 .int v a 2 59 ls st h) ∧ (∀ ls h, zz_Y 2 (59, ls, [], h) = some (none, h)) :=
  ⟨fun _ _ _ => xl_aln d2_0 rfl,
   fun _ _ _ => xl_oi d2_1 xco2 xm_1_3 (by decide +kernel) (by decide +kernel) rfl,
   fun _ _ _ => xl_aln d2_4 rfl,
   fun _ _ _ => xl_new d2_5 xco2 (by decide +kernel) rfl rfl (by decide +kernel),
   fun _ _ _ _ => xl_dupr d2_8,
   fun ls a0 s0 s1 h => xl_cin (As := [a0]) (st := [s0, s1]) d2_9 xco2 xm_1_11 (congrArg Nat.succ xnp3) (by decide +kernel) rfl,
   fun _ _ _ _ _ => xl_pf d2_12 xco2 xf_1_12 (by decide +kernel) rfl,
   fun _ _ _ => xl_aln d2_15 rfl,
   fun _ _ _ => xl_new d2_16 xco2 (by decide +kernel) rfl rfl (by decide +kernel),
   fun _ _ _ _ => xl_dupr d2_19,
   fun ls a0 s0 s1 h => xl_ci (As := [a0]) (st := [s0, s1]) d2_20 xco2 xm_1_20 (congrArg Nat.succ xnp4) (by decide +kernel) rfl,
   fun _ _ _ _ _ => xl_pf d2_23 xco2 xf_1_21 (by decide +kernel) rfl,
   fun _ _ _ => xl_aln d2_26 rfl,
   fun _ _ _ => xl_new d2_27 xco2 (by decide +kernel) rfl rfl (by decide +kernel),
   fun _ _ _ _ => xl_dupr d2_30,
   fun ls a0 s0 s1 h => xl_cin (As := [a0]) (st := [s0, s1]) d2_31 xco2 xm_1_27 (congrArg Nat.succ xnp8) (by decide +kernel) rfl,
   fun _ _ _ _ _ => xl_pf d2_34 xco2 xf_1_28 (by decide +kernel) rfl,
   fun _ _ _ => xl_aln d2_37 rfl,
   fun _ _ _ => xl_ic d2_38 (by decide +kernel),
   fun _ _ _ _ _ => xl_pf d2_39 xco2 xf_1_32 (by decide +kernel) rfl,
   fun _ _ _ => xl_aln d2_42 rfl,
   fun _ _ _ => xl_new d2_43 xco2 (by decide +kernel) rfl rfl (by decide +kernel),
   fun _ _ _ _ => xl_dupr d2_46,
   fun _ _ _ => xl_ic d2_47 (by decide +kernel),
   fun ls a0 a1 s0 s1 h => xl_ci (As := [a0, a1]) (st := [s0, s1]) d2_48 xco2 xm_1_38 (congrArg Nat.succ xnp6) (by decide +kernel) rfl,
   fun _ _ _ _ _ => xl_pf d2_51 xco2 xf_1_41 (by decide +kernel) rfl,
   fun _ _ _ => xl_aln d2_54 rfl,
   fun _ _ _ => xl_ic d2_55 (by decide +kernel),
   fun _ _ _ _ _ => xl_pf d2_56 xco2 xf_1_45 (by decide +kernel) rfl,
   fun _ _ => xl_r d2_59 xrt2⟩
/-! 3 FacetSieve$Tape.<init>()V -/
theorem d3_0 : decode (zz_c 3) 0 = .ok (.aload_n 0, 1) := by decide +kernel
theorem d3_1 : decode (zz_c 3) 1 = .ok (.invokespecial 3, 3) := by decide +kernel
theorem d3_4 : decode (zz_c 3) 4 = .ok (.aload_n 0, 1) := by decide +kernel
theorem d3_5 : decode (zz_c 3) 5 = .ok (.sipush 600, 3) := by decide +kernel
theorem d3_8 : decode (zz_c 3) 8 = .ok (.newarray .byte, 2) := by decide +kernel
theorem d3_10 : decode (zz_c 3) 10 = .ok (.putfield 9, 3) := by decide +kernel
theorem d3_13 : decode (zz_c 3) 13 = .ok (.return_, 1) := by decide +kernel
theorem x3 : (∀ x st h, zz_Y 3 (0, [some (.ref x)], st, h) = zz_Y 3 (1, [some (.ref x)], .ref x :: st, h)) ∧ (∀ ls a h, zz_Y 3 (1, ls, [.ref a], h) = zz_Y 3 (4, ls, [], h)) ∧ (∀ x st h, zz_Y 3 (4, [some (.ref x)], st, h) = zz_Y 3 (5, [some (.ref x)], .ref x :: st, h)) ∧ (∀ ls st h, zz_Y 3 (5, ls, st, h) = zz_Y 3 (8, ls, .int (nI 600) :: st, h)) ∧ (∀ ls n st h, zz_Y 3 (8, ls, .int n :: st, h) = mo_na .byte (fun n => (n, .inl (fun _ => 0))) n 3 10 ls st h) ∧ (∀ ls a v st h, zz_Y 3 (10, ls, v :: .ref a :: st, h) = mo_pf (hp_g h a) 8 0 (.array .byte) v a 3 13 ls st h) ∧ (∀ ls h, zz_Y 3 (13, ls, [], h) = some (none, h)) :=
  ⟨fun _ _ _ => xl_aln d3_0 rfl,
   fun _ _ _ => xl_oi d3_1 xco3 xm_8_3 (by decide +kernel) (by decide +kernel) rfl,
   fun _ _ _ => xl_aln d3_4 rfl,
   fun _ _ _ => xl_si d3_5 (by decide +kernel),
   fun _ _ _ _ => xl_nab d3_8,
   fun _ _ _ _ _ => xl_pf d3_10 xco3 xf_8_9 (by decide +kernel) rfl,
   fun _ _ => xl_r d3_13 xrt3⟩
/-! 4 FacetSieve$Stock.<init>()V -/
theorem d4_0 : decode (zz_c 4) 0 = .ok (.aload_n 0, 1) := by decide +kernel
theorem d4_1 : decode (zz_c 4) 1 = .ok (.invokespecial 3, 3) := by decide +kernel
theorem d4_4 : decode (zz_c 4) 4 = .ok (.aload_n 0, 1) := by decide +kernel
theorem d4_5 : decode (zz_c 4) 5 = .ok (.new 9, 3) := by decide +kernel
theorem d4_8 : decode (zz_c 4) 8 = .ok (.dup, 1) := by decide +kernel
theorem d4_9 : decode (zz_c 4) 9 = .ok (.invokespecial 11, 3) := by decide +kernel
theorem d4_12 : decode (zz_c 4) 12 = .ok (.putfield 12, 3) := by decide +kernel
theorem d4_15 : decode (zz_c 4) 15 = .ok (.aload_n 0, 1) := by decide +kernel
theorem d4_16 : decode (zz_c 4) 16 = .ok (.sipush 256, 3) := by decide +kernel
theorem d4_19 : decode (zz_c 4) 19 = .ok (.newarray .int, 2) := by decide +kernel
theorem d4_21 : decode (zz_c 4) 21 = .ok (.putfield 18, 3) := by decide +kernel
theorem d4_24 : decode (zz_c 4) 24 = .ok (.aload_n 0, 1) := by decide +kernel
theorem d4_25 : decode (zz_c 4) 25 = .ok (.sipush 256, 3) := by decide +kernel
theorem d4_28 : decode (zz_c 4) 28 = .ok (.newarray .int, 2) := by decide +kernel
theorem d4_30 : decode (zz_c 4) 30 = .ok (.putfield 22, 3) := by decide +kernel
theorem d4_33 : decode (zz_c 4) 33 = .ok (.aload_n 0, 1) := by decide +kernel
theorem d4_34 : decode (zz_c 4) 34 = .ok (.new 25, 3) := by decide +kernel
theorem d4_37 : decode (zz_c 4) 37 = .ok (.dup, 1) := by decide +kernel
theorem d4_38 : decode (zz_c 4) 38 = .ok (.bipush 21, 2) := by decide +kernel
theorem d4_40 : decode (zz_c 4) 40 = .ok (.invokespecial 27, 3) := by decide +kernel
theorem d4_43 : decode (zz_c 4) 43 = .ok (.putfield 30, 3) := by decide +kernel
theorem d4_46 : decode (zz_c 4) 46 = .ok (.aload_n 0, 1) := by decide +kernel
theorem d4_47 : decode (zz_c 4) 47 = .ok (.getfield 18, 3) := by decide +kernel
theorem d4_50 : decode (zz_c 4) 50 = .ok (.iconst (-1), 1) := by decide +kernel
theorem d4_51 : decode (zz_c 4) 51 = .ok (.invokestatic 34, 3) := by decide +kernel
theorem d4_54 : decode (zz_c 4) 54 = .ok (.return_, 1) := by decide +kernel
theorem x4 : (∀ x st h, zz_Y 4 (0, [some (.ref x)], st, h) = zz_Y 4 (1, [some (.ref x)], .ref x :: st, h)) ∧ (∀ ls a h, zz_Y 4 (1, ls, [.ref a], h) = zz_Y 4 (4, ls, [], h)) ∧ (∀ x st h, zz_Y 4 (4, [some (.ref x)], st, h) = zz_Y 4 (5, [some (.ref x)], .ref x :: st, h)) ∧ (∀ ls st h, zz_Y 4 (5, ls, st, h) = zz_Y 4 (8, ls, .ref h.1 :: st, hp_n h 10 (.inr (3, [.int 0, .null, .null, .null, .null, .int 0, .null, .null, .null, .null])))) ∧ (∀ ls a st h, zz_Y 4 (8, ls, .ref a :: st, h) = zz_Y 4 (9, ls, .ref a :: .ref a :: st, h)) ∧ (∀ ls a0 s0 s1 h, zz_Y 4 (9, ls, [a0, s0, s1], h) = mo_k 4 12 ls [s0, s1] (zz_run 5 [a0] h)) ∧ (∀ ls a v st h, zz_Y 4 (12, ls, v :: .ref a :: st, h) = mo_pf (hp_g h a) 7 0 (.object "FacetSieve$Plan") v a 4 15 ls st h) ∧ (∀ x st h, zz_Y 4 (15, [some (.ref x)], st, h) = zz_Y 4 (16, [some (.ref x)], .ref x :: st, h)) ∧ (∀ ls st h, zz_Y 4 (16, ls, st, h) = zz_Y 4 (19, ls, .int (nI 256) :: st, h)) ∧ (∀ ls n st h, zz_Y 4 (19, ls, .int n :: st, h) = mo_na .int (fun n => (n, .inl (fun _ => 0))) n 4 21 ls st h) ∧ (∀ ls a v st h, zz_Y 4 (21, ls, v :: .ref a :: st, h) = mo_pf (hp_g h a) 7 1 (.array .int) v a 4 24 ls st h) ∧ (∀ x st h, zz_Y 4 (24, [some (.ref x)], st, h) = zz_Y 4 (25, [some (.ref x)], .ref x :: st, h)) ∧ (∀ ls st h, zz_Y 4 (25, ls, st, h) = zz_Y 4 (28, ls, .int (nI 256) :: st, h)) ∧ (∀ ls n st h, zz_Y 4 (28, ls, .int n :: st, h) = mo_na .int (fun n => (n, .inl (fun _ => 0))) n 4 30 ls st h) ∧ (∀ ls a v st h, zz_Y 4 (30, ls, v :: .ref a :: st, h) = mo_pf (hp_g h a) 7 2 (.array .int) v a 4 33 ls st h) ∧ (∀ x st h, zz_Y 4 (33, [some (.ref x)], st, h) = zz_Y 4 (34, [some (.ref x)], .ref x :: st, h)) ∧ (∀ ls st h, zz_Y 4 (34, ls, st, h) = zz_Y 4 (37, ls, .ref h.1 :: st, hp_n h 2 (.inr (6, [.int 0, .null])))) ∧ (∀ ls a st h, zz_Y 4 (37, ls, .ref a :: st, h) = zz_Y 4 (38, ls, .ref a :: .ref a :: st, h)) ∧ (∀ ls st h, zz_Y 4 (38, ls, st, h) = zz_Y 4 (40, ls, .int (nI 21) :: st, h)) ∧ (∀ ls a0 a1 s0 s1 h, zz_Y 4 (40, ls, [a1, a0, s0, s1], h) = mo_k 4 43 ls [s0, s1] (zz_run 6 [a0, a1] h)) ∧ (∀ ls a v st h, zz_Y 4 (43, ls, v :: .ref a :: st, h) = mo_pf (hp_g h a) 7 3 (.object "FacetSieve$Sets") v a 4 46 ls st h) ∧ (∀ x st h, zz_Y 4 (46, [some (.ref x)], st, h) = zz_Y 4 (47, [some (.ref x)], .ref x :: st, h)) ∧ (∀ ls a st h, zz_Y 4 (47, ls, .ref a :: st, h) = mo_gf (hp_g h a) 7 1 4 50 ls st h) ∧ (∀ ls st h, zz_Y 4 (50, ls, st, h) = zz_Y 4 (51, ls, .int (-1) :: st, h)) ∧ (∀ ls a0 a1 h, zz_Y 4 (51, ls, [a1, a0], h) = mo_k 4 54 ls [] (zz_run 7 [a0, a1] h)) ∧ (∀ ls h, zz_Y 4 (54, ls, [], h) = some (none, h)) :=
  ⟨fun _ _ _ => xl_aln d4_0 rfl,
   fun _ _ _ => xl_oi d4_1 xco4 xm_7_3 (by decide +kernel) (by decide +kernel) rfl,
   fun _ _ _ => xl_aln d4_4 rfl,
   fun _ _ _ => xl_new d4_5 xco4 (by decide +kernel) rfl rfl (by decide +kernel),
   fun _ _ _ _ => xl_dupr d4_8,
   fun ls a0 s0 s1 h => xl_cin (As := [a0]) (st := [s0, s1]) d4_9 xco4 xm_7_11 (congrArg Nat.succ xnp5) (by decide +kernel) rfl,
   fun _ _ _ _ _ => xl_pf d4_12 xco4 xf_7_12 (by decide +kernel) rfl,
   fun _ _ _ => xl_aln d4_15 rfl,
   fun _ _ _ => xl_si d4_16 (by decide +kernel),
   fun _ _ _ _ => xl_nai d4_19,
   fun _ _ _ _ _ => xl_pf d4_21 xco4 xf_7_18 (by decide +kernel) rfl,
   fun _ _ _ => xl_aln d4_24 rfl,
   fun _ _ _ => xl_si d4_25 (by decide +kernel),
   fun _ _ _ _ => xl_nai d4_28,
   fun _ _ _ _ _ => xl_pf d4_30 xco4 xf_7_22 (by decide +kernel) rfl,
   fun _ _ _ => xl_aln d4_33 rfl,
   fun _ _ _ => xl_new d4_34 xco4 (by decide +kernel) rfl rfl (by decide +kernel),
   fun _ _ _ _ => xl_dupr d4_37,
   fun _ _ _ => xl_bi d4_38 (by decide +kernel),
   fun ls a0 a1 s0 s1 h => xl_ci (As := [a0, a1]) (st := [s0, s1]) d4_40 xco4 xm_7_27 (congrArg Nat.succ xnp6) (by decide +kernel) rfl,
   fun _ _ _ _ _ => xl_pf d4_43 xco4 xf_7_30 (by decide +kernel) rfl,
   fun _ _ _ => xl_aln d4_46 rfl,
   fun _ _ _ _ => xl_gf d4_47 xco4 xf_7_18,
   fun _ _ _ => xl_ic d4_50 (by decide +kernel),
   fun ls a0 a1 h => xl_cs (As := [a0, a1]) (st := []) d4_51 xco4 xm_7_34 xnp7 (by decide +kernel) rfl,
   fun _ _ => xl_r d4_54 xrt4⟩
/-! 5 FacetSieve$Plan.<init>()V -/
theorem d5_0 : decode (zz_c 5) 0 = .ok (.aload_n 0, 1) := by decide +kernel
theorem d5_1 : decode (zz_c 5) 1 = .ok (.invokespecial 3, 3) := by decide +kernel
theorem d5_4 : decode (zz_c 5) 4 = .ok (.aload_n 0, 1) := by decide +kernel
theorem d5_5 : decode (zz_c 5) 5 = .ok (.iconst 4, 1) := by decide +kernel
theorem d5_6 : decode (zz_c 5) 6 = .ok (.newarray .long, 2) := by decide +kernel
theorem d5_8 : decode (zz_c 5) 8 = .ok (.putfield 9, 3) := by decide +kernel
theorem d5_11 : decode (zz_c 5) 11 = .ok (.aload_n 0, 1) := by decide +kernel
theorem d5_12 : decode (zz_c 5) 12 = .ok (.iconst 4, 1) := by decide +kernel
theorem d5_13 : decode (zz_c 5) 13 = .ok (.newarray .int, 2) := by decide +kernel
theorem d5_15 : decode (zz_c 5) 15 = .ok (.putfield 15, 3) := by decide +kernel
theorem d5_18 : decode (zz_c 5) 18 = .ok (.aload_n 0, 1) := by decide +kernel
theorem d5_19 : decode (zz_c 5) 19 = .ok (.iconst 4, 1) := by decide +kernel
theorem d5_20 : decode (zz_c 5) 20 = .ok (.newarray .int, 2) := by decide +kernel
theorem d5_22 : decode (zz_c 5) 22 = .ok (.putfield 19, 3) := by decide +kernel
theorem d5_25 : decode (zz_c 5) 25 = .ok (.aload_n 0, 1) := by decide +kernel
theorem d5_26 : decode (zz_c 5) 26 = .ok (.iconst 4, 1) := by decide +kernel
theorem d5_27 : decode (zz_c 5) 27 = .ok (.newarray .int, 2) := by decide +kernel
theorem d5_29 : decode (zz_c 5) 29 = .ok (.putfield 22, 3) := by decide +kernel
theorem d5_32 : decode (zz_c 5) 32 = .ok (.aload_n 0, 1) := by decide +kernel
theorem d5_33 : decode (zz_c 5) 33 = .ok (.bipush 20, 2) := by decide +kernel
theorem d5_35 : decode (zz_c 5) 35 = .ok (.newarray .long, 2) := by decide +kernel
theorem d5_37 : decode (zz_c 5) 37 = .ok (.putfield 25, 3) := by decide +kernel
theorem d5_40 : decode (zz_c 5) 40 = .ok (.aload_n 0, 1) := by decide +kernel
theorem d5_41 : decode (zz_c 5) 41 = .ok (.bipush 20, 2) := by decide +kernel
theorem d5_43 : decode (zz_c 5) 43 = .ok (.newarray .int, 2) := by decide +kernel
theorem d5_45 : decode (zz_c 5) 45 = .ok (.putfield 28, 3) := by decide +kernel
theorem d5_48 : decode (zz_c 5) 48 = .ok (.aload_n 0, 1) := by decide +kernel
theorem d5_49 : decode (zz_c 5) 49 = .ok (.bipush 20, 2) := by decide +kernel
theorem d5_51 : decode (zz_c 5) 51 = .ok (.newarray .int, 2) := by decide +kernel
theorem d5_53 : decode (zz_c 5) 53 = .ok (.putfield 31, 3) := by decide +kernel
theorem d5_56 : decode (zz_c 5) 56 = .ok (.aload_n 0, 1) := by decide +kernel
theorem d5_57 : decode (zz_c 5) 57 = .ok (.bipush 20, 2) := by decide +kernel
theorem d5_59 : decode (zz_c 5) 59 = .ok (.newarray .int, 2) := by decide +kernel
theorem d5_61 : decode (zz_c 5) 61 = .ok (.putfield 34, 3) := by decide +kernel
theorem d5_64 : decode (zz_c 5) 64 = .ok (.return_, 1) := by decide +kernel
theorem x5 : (∀ x st h, zz_Y 5 (0, [some (.ref x)], st, h) = zz_Y 5 (1, [some (.ref x)], .ref x :: st, h)) ∧ (∀ ls a h, zz_Y 5 (1, ls, [.ref a], h) = zz_Y 5 (4, ls, [], h)) ∧ (∀ x st h, zz_Y 5 (4, [some (.ref x)], st, h) = zz_Y 5 (5, [some (.ref x)], .ref x :: st, h)) ∧ (∀ ls st h, zz_Y 5 (5, ls, st, h) = zz_Y 5 (6, ls, .int (nI 4) :: st, h)) ∧ (∀ ls n st h, zz_Y 5 (6, ls, .int n :: st, h) = mo_na .long (fun n => (n, .inr (.inl (fun _ => 0)))) n 5 8 ls st h) ∧ (∀ ls a v st h, zz_Y 5 (8, ls, v :: .ref a :: st, h) = mo_pf (hp_g h a) 3 1 (.array .long) v a 5 11 ls st h) ∧ (∀ x st h, zz_Y 5 (11, [some (.ref x)], st, h) = zz_Y 5 (12, [some (.ref x)], .ref x :: st, h)) ∧ (∀ ls st h, zz_Y 5 (12, ls, st, h) = zz_Y 5 (13, ls, .int (nI 4) :: st, h)) ∧ (∀ ls n st h, zz_Y 5 (13, ls, .int n :: st, h) = mo_na .int (fun n => (n, .inl (fun _ => 0))) n 5 15 ls st h) ∧ (∀ ls a v st h, zz_Y 5 (15, ls, v :: .ref a :: st, h) = mo_pf (hp_g h a) 3 2 (.array .int) v a 5 18 ls st h) ∧ (∀ x st h, zz_Y 5 (18, [some (.ref x)], st, h) = zz_Y 5 (19, [some (.ref x)], .ref x :: st, h)) ∧ (∀ ls st h, zz_Y 5 (19, ls, st, h) = zz_Y 5 (20, ls, .int (nI 4) :: st, h)) ∧ (∀ ls n st h, zz_Y 5 (20, ls, .int n :: st, h) = mo_na .int (fun n => (n, .inl (fun _ => 0))) n 5 22 ls st h) ∧ (∀ ls a v st h, zz_Y 5 (22, ls, v :: .ref a :: st, h) = mo_pf (hp_g h a) 3 3 (.array .int) v a 5 25 ls st h) ∧ (∀ x st h, zz_Y 5 (25, [some (.ref x)], st, h) = zz_Y 5 (26, [some (.ref x)], .ref x :: st, h)) ∧ (∀ ls st h, zz_Y 5 (26, ls, st, h) = zz_Y 5 (27, ls, .int (nI 4) :: st, h)) ∧ (∀ ls n st h, zz_Y 5 (27, ls, .int n :: st, h) = mo_na .int (fun n => (n, .inl (fun _ => 0))) n 5 29 ls st h) ∧ (∀ ls a v st h, zz_Y 5 (29, ls, v :: .ref a :: st, h) = mo_pf (hp_g h a) 3 4 (.array .int) v a 5 32 ls st h) ∧ (∀ x st h, zz_Y 5 (32, [some (.ref x)], st, h) = zz_Y 5 (33, [some (.ref x)], .ref x :: st, h)) ∧ (∀ ls st h, zz_Y 5 (33, ls, st, h) = zz_Y 5 (35, ls, .int (nI 20) :: st, h)) ∧ (∀ ls n st h, zz_Y 5 (35, ls, .int n :: st, h) = mo_na .long (fun n => (n, .inr (.inl (fun _ => 0)))) n 5 37 ls st h) ∧ (∀ ls a v st h, zz_Y 5 (37, ls, v :: .ref a :: st, h) = mo_pf (hp_g h a) 3 6 (.array .long) v a 5 40 ls st h) ∧ (∀ x st h, zz_Y 5 (40, [some (.ref x)], st, h) = zz_Y 5 (41, [some (.ref x)], .ref x :: st, h)) ∧ (∀ ls st h, zz_Y 5 (41, ls, st, h) = zz_Y 5 (43, ls, .int (nI 20) :: st, h)) ∧ (∀ ls n st h, zz_Y 5 (43, ls, .int n :: st, h) = mo_na .int (fun n => (n, .inl (fun _ => 0))) n 5 45 ls st h) ∧ (∀ ls a v st h, zz_Y 5 (45, ls, v :: .ref a :: st, h) = mo_pf (hp_g h a) 3 7 (.array .int) v a 5 48 ls st h) ∧ (∀ x st h, zz_Y 5 (48, [some (.ref x)], st, h) = zz_Y 5 (49, [some (.ref x)], .ref x :: st, h)) ∧ (∀ ls st h, zz_Y 5 (49, ls, st, h) = zz_Y 5 (51, ls, .int (nI 20) :: st, h)) ∧ (∀ ls n st h, zz_Y 5 (51, ls, .int n :: st, h) = mo_na .int (fun n => (n, .inl (fun _ => 0))) n 5 53 ls st h) ∧ (∀ ls a v st h, zz_Y 5 (53, ls, v :: .ref a :: st, h) = mo_pf (hp_g h a) 3 8 (.array .int) v a 5 56 ls st h) ∧ (∀ x st h, zz_Y 5 (56, [some (.ref x)], st, h) = zz_Y 5 (57, [some (.ref x)], .ref x :: st, h)) ∧ (∀ ls st h, zz_Y 5 (57, ls, st, h) = zz_Y 5 (59, ls, .int (nI 20) :: st, h)) ∧ (∀ ls n st h, zz_Y 5 (59, ls, .int n :: st, h) = mo_na .int (fun n => (n, .inl (fun _ => 0))) n 5 61 ls st h) ∧ (∀ ls a v st h, zz_Y 5 (61, ls, v :: .ref a :: st, h) = mo_pf (hp_g h a) 3 9 (.array .int) v a 5 64 ls st h) ∧ (∀ ls h, zz_Y 5 (64, ls, [], h) = some (none, h)) :=
  ⟨fun _ _ _ => xl_aln d5_0 rfl,
   fun _ _ _ => xl_oi d5_1 xco5 xm_3_3 (by decide +kernel) (by decide +kernel) rfl,
   fun _ _ _ => xl_aln d5_4 rfl,
   fun _ _ _ => xl_ic d5_5 (by decide +kernel),
   fun _ _ _ _ => xl_naj d5_6,
   fun _ _ _ _ _ => xl_pf d5_8 xco5 xf_3_9 (by decide +kernel) rfl,
   fun _ _ _ => xl_aln d5_11 rfl,
   fun _ _ _ => xl_ic d5_12 (by decide +kernel),
   fun _ _ _ _ => xl_nai d5_13,
   fun _ _ _ _ _ => xl_pf d5_15 xco5 xf_3_15 (by decide +kernel) rfl,
   fun _ _ _ => xl_aln d5_18 rfl,
   fun _ _ _ => xl_ic d5_19 (by decide +kernel),
   fun _ _ _ _ => xl_nai d5_20,
   fun _ _ _ _ _ => xl_pf d5_22 xco5 xf_3_19 (by decide +kernel) rfl,
   fun _ _ _ => xl_aln d5_25 rfl,
   fun _ _ _ => xl_ic d5_26 (by decide +kernel),
   fun _ _ _ _ => xl_nai d5_27,
   fun _ _ _ _ _ => xl_pf d5_29 xco5 xf_3_22 (by decide +kernel) rfl,
   fun _ _ _ => xl_aln d5_32 rfl,
   fun _ _ _ => xl_bi d5_33 (by decide +kernel),
   fun _ _ _ _ => xl_naj d5_35,
   fun _ _ _ _ _ => xl_pf d5_37 xco5 xf_3_25 (by decide +kernel) rfl,
   fun _ _ _ => xl_aln d5_40 rfl,
   fun _ _ _ => xl_bi d5_41 (by decide +kernel),
   fun _ _ _ _ => xl_nai d5_43,
   fun _ _ _ _ _ => xl_pf d5_45 xco5 xf_3_28 (by decide +kernel) rfl,
   fun _ _ _ => xl_aln d5_48 rfl,
   fun _ _ _ => xl_bi d5_49 (by decide +kernel),
   fun _ _ _ _ => xl_nai d5_51,
   fun _ _ _ _ _ => xl_pf d5_53 xco5 xf_3_31 (by decide +kernel) rfl,
   fun _ _ _ => xl_aln d5_56 rfl,
   fun _ _ _ => xl_bi d5_57 (by decide +kernel),
   fun _ _ _ _ => xl_nai d5_59,
   fun _ _ _ _ _ => xl_pf d5_61 xco5 xf_3_34 (by decide +kernel) rfl,
   fun _ _ => xl_r d5_64 xrt5⟩
/-! 6 FacetSieve$Sets.<init>(I)V -/
theorem d6_0 : decode (zz_c 6) 0 = .ok (.aload_n 0, 1) := by decide +kernel
theorem d6_1 : decode (zz_c 6) 1 = .ok (.invokespecial 3, 3) := by decide +kernel
theorem d6_4 : decode (zz_c 6) 4 = .ok (.aload_n 0, 1) := by decide +kernel
theorem d6_5 : decode (zz_c 6) 5 = .ok (.iload_n 1, 1) := by decide +kernel
theorem d6_6 : decode (zz_c 6) 6 = .ok (.iconst 0, 1) := by decide +kernel
theorem d6_7 : decode (zz_c 6) 7 = .ok (.invokestatic 9, 3) := by decide +kernel
theorem d6_10 : decode (zz_c 6) 10 = .ok (.putfield 15, 3) := by decide +kernel
theorem d6_13 : decode (zz_c 6) 13 = .ok (.aload_n 0, 1) := by decide +kernel
theorem d6_14 : decode (zz_c 6) 14 = .ok (.aload_n 0, 1) := by decide +kernel
theorem d6_15 : decode (zz_c 6) 15 = .ok (.getfield 15, 3) := by decide +kernel
theorem d6_18 : decode (zz_c 6) 18 = .ok (.bipush 8, 2) := by decide +kernel
theorem d6_20 : decode (zz_c 6) 20 = .ok (.imul, 1) := by decide +kernel
theorem d6_21 : decode (zz_c 6) 21 = .ok (.newarray .int, 2) := by decide +kernel
theorem d6_23 : decode (zz_c 6) 23 = .ok (.putfield 21, 3) := by decide +kernel
theorem d6_26 : decode (zz_c 6) 26 = .ok (.return_, 1) := by decide +kernel
theorem x6 : (∀ l1 x st h, zz_Y 6 (0, [some (.ref x), l1], st, h) = zz_Y 6 (1, [some (.ref x), l1], .ref x :: st, h)) ∧ (∀ ls a h, zz_Y 6 (1, ls, [.ref a], h) = zz_Y 6 (4, ls, [], h)) ∧ (∀ l1 x st h, zz_Y 6 (4, [some (.ref x), l1], st, h) = zz_Y 6 (5, [some (.ref x), l1], .ref x :: st, h)) ∧ (∀ l0 x st h, zz_Y 6 (5, [l0, some (.int x)], st, h) = zz_Y 6 (6, [l0, some (.int x)], .int x :: st, h)) ∧ (∀ ls st h, zz_Y 6 (6, ls, st, h) = zz_Y 6 (7, ls, .int (nI 0) :: st, h)) ∧ (∀ ls a b s0 h, zz_Y 6 (7, ls, [.int b, .int a, s0], h) = zz_Y 6 (10, ls, [.int (if a < b then b else a), s0], h)) ∧ (∀ ls a v st h, zz_Y 6 (10, ls, v :: .ref a :: st, h) = mo_pf (hp_g h a) 6 0 .int v a 6 13 ls st h) ∧ (∀ l1 x st h, zz_Y 6 (13, [some (.ref x), l1], st, h) = zz_Y 6 (14, [some (.ref x), l1], .ref x :: st, h)) ∧ (∀ l1 x st h, zz_Y 6 (14, [some (.ref x), l1], st, h) = zz_Y 6 (15, [some (.ref x), l1], .ref x :: st, h)) ∧ (∀ ls a st h, zz_Y 6 (15, ls, .ref a :: st, h) = mo_gf (hp_g h a) 6 0 6 18 ls st h) ∧ (∀ ls st h, zz_Y 6 (18, ls, st, h) = zz_Y 6 (20, ls, .int (nI 8) :: st, h)) ∧ (∀ ls a b st h, zz_Y 6 (20, ls, .int b :: .int a :: st, h) = zz_Y 6 (21, ls, .int (a * b) :: st, h)) ∧ (∀ ls n st h, zz_Y 6 (21, ls, .int n :: st, h) = mo_na .int (fun n => (n, .inl (fun _ => 0))) n 6 23 ls st h) ∧ (∀ ls a v st h, zz_Y 6 (23, ls, v :: .ref a :: st, h) = mo_pf (hp_g h a) 6 1 (.array .int) v a 6 26 ls st h) ∧ (∀ ls h, zz_Y 6 (26, ls, [], h) = some (none, h)) :=
  ⟨fun _ _ _ _ => xl_aln d6_0 rfl,
   fun _ _ _ => xl_oi d6_1 xco6 xm_6_3 (by decide +kernel) (by decide +kernel) rfl,
   fun _ _ _ _ => xl_aln d6_4 rfl,
   fun _ _ _ _ => xl_iln d6_5 rfl,
   fun _ _ _ => xl_ic d6_6 (by decide +kernel),
   fun _ _ _ _ _ => xl_mx d6_7 xco6 xm_6_9 (by decide +kernel) (by decide +kernel) rfl,
   fun _ _ _ _ _ => xl_pf d6_10 xco6 xf_6_15 (by decide +kernel) rfl,
   fun _ _ _ _ => xl_aln d6_13 rfl,
   fun _ _ _ _ => xl_aln d6_14 rfl,
   fun _ _ _ _ => xl_gf d6_15 xco6 xf_6_15,
   fun _ _ _ => xl_bi d6_18 (by decide +kernel),
   fun _ _ _ _ _ => xl_imul d6_20,
   fun _ _ _ _ => xl_nai d6_21,
   fun _ _ _ _ _ => xl_pf d6_23 xco6 xf_6_21 (by decide +kernel) rfl,
   fun _ _ => xl_r d6_26 xrt6⟩
/-! 7 java/util/Arrays.fill([II)V -/
theorem d7_0 : decode (zz_c 7) 0 = .ok (.iconst 0, 1) := by decide +kernel
theorem d7_1 : decode (zz_c 7) 1 = .ok (.istore_n 2, 1) := by decide +kernel
theorem d7_2 : decode (zz_c 7) 2 = .ok (.aload_n 0, 1) := by decide +kernel
theorem d7_3 : decode (zz_c 7) 3 = .ok (.arraylength, 1) := by decide +kernel
theorem d7_4 : decode (zz_c 7) 4 = .ok (.istore_n 3, 1) := by decide +kernel
theorem d7_5 : decode (zz_c 7) 5 = .ok (.iload_n 2, 1) := by decide +kernel
theorem d7_6 : decode (zz_c 7) 6 = .ok (.iload_n 3, 1) := by decide +kernel
theorem d7_7 : decode (zz_c 7) 7 = .ok (.if_icmp .ge 13, 3) := by decide +kernel
theorem d7_10 : decode (zz_c 7) 10 = .ok (.aload_n 0, 1) := by decide +kernel
theorem d7_11 : decode (zz_c 7) 11 = .ok (.iload_n 2, 1) := by decide +kernel
theorem d7_12 : decode (zz_c 7) 12 = .ok (.iload_n 1, 1) := by decide +kernel
theorem d7_13 : decode (zz_c 7) 13 = .ok (.iastore, 1) := by decide +kernel
theorem d7_14 : decode (zz_c 7) 14 = .ok (.iinc 2 1, 3) := by decide +kernel
theorem d7_17 : decode (zz_c 7) 17 = .ok (.goto (-12), 3) := by decide +kernel
theorem d7_20 : decode (zz_c 7) 20 = .ok (.return_, 1) := by decide +kernel
theorem x7 : (∀ ls st h, zz_Y 7 (0, ls, st, h) = zz_Y 7 (1, ls, .int (nI 0) :: st, h)) ∧ (∀ l0 l1 l2 l3 x st h, zz_nl l1 = true → zz_Y 7 (1, [l0, l1, l2, l3], .int x :: st, h) = zz_Y 7 (2, [l0, l1, some (.int x), l3], st, h)) ∧ (∀ l1 l2 l3 x st h, zz_Y 7 (2, [some (.ref x), l1, l2, l3], st, h) = zz_Y 7 (3, [some (.ref x), l1, l2, l3], .ref x :: st, h)) ∧ (∀ ls a st h, zz_Y 7 (3, ls, .ref a :: st, h) = mo_le (hp_g h a) a 7 4 ls st h) ∧ (∀ l0 l1 l2 l3 x st h, zz_nl l2 = true → zz_Y 7 (4, [l0, l1, l2, l3], .int x :: st, h) = zz_Y 7 (5, [l0, l1, l2, some (.int x)], st, h)) ∧ (∀ l0 l1 l2 x st h, zz_Y 7 (6, [l0, l1, l2, some (.int x)], st, h) = zz_Y 7 (7, [l0, l1, l2, some (.int x)], .int x :: st, h)) ∧ (∀ ls a b st h, zz_Y 7 (7, ls, .int b :: .int a :: st, h) = if a < b then zz_Y 7 (10, ls, st, h) else zz_Y 7 (20, ls, st, h)) ∧ (∀ l1 l2 l3 x st h, zz_Y 7 (10, [some (.ref x), l1, l2, l3], st, h) = zz_Y 7 (11, [some (.ref x), l1, l2, l3], .ref x :: st, h)) ∧ (∀ l0 l1 l3 x st h, zz_Y 7 (11, [l0, l1, some (.int x), l3], st, h) = zz_Y 7 (12, [l0, l1, some (.int x), l3], .int x :: st, h)) ∧ (∀ l0 l2 l3 x st h, zz_Y 7 (12, [l0, some (.int x), l2, l3], st, h) = zz_Y 7 (13, [l0, some (.int x), l2, l3], .int x :: st, h)) ∧ (∀ ls a i x st h, zz_Y 7 (13, ls, .int x :: .int i :: .ref a :: st, h) = mo_is (hp_g h a) x i a 7 14 ls st h) ∧ (∀ l0 l1 l3 x st h, zz_nl l1 = true → zz_Y 7 (14, [l0, l1, some (.int x), l3], st, h) = zz_Y 7 (17, [l0, l1, some (.int (x + nI 1)), l3], st, h)) ∧ (∀ ls st h, zz_Y 7 (17, ls, st, h) = zz_Y 7 (5, ls, st, h)) ∧ (∀ ls h, zz_Y 7 (20, ls, [], h) = some (none, h)) :=
  ⟨fun _ _ _ => xl_ic d7_0 (by decide +kernel),
   fun _ _ _ _ _ _ _ hc => xl_isn d7_1 xml7 (by decide) (zz_nl_s1 hc),
   fun _ _ _ _ _ _ => xl_aln d7_2 rfl,
   fun _ _ _ _ => xl_le d7_3,
   fun _ _ _ _ _ _ _ hc => xl_isn d7_4 xml7 (by decide) (zz_nl_s1 hc),
   fun _ _ _ _ _ _ => xl_iln d7_6 rfl,
   fun _ _ _ _ _ => xl_icge d7_7 rfl,
   fun _ _ _ _ _ _ => xl_aln d7_10 rfl,
   fun _ _ _ _ _ _ => xl_iln d7_11 rfl,
   fun _ _ _ _ _ _ => xl_iln d7_12 rfl,
   fun _ _ _ _ _ _ => xl_ist d7_13,
   fun _ _ _ _ _ _ hc => xl_inc d7_14 xml7 (by decide) rfl (by decide +kernel) (zz_nl_s1 hc),
   fun _ _ _ => xl_goto d7_17 rfl,
   fun _ _ => xl_r d7_20 xrt7⟩
theorem x7_c5 : ∀ l0 l1 l3 x st h, zz_Y 7 (5, [l0, l1, some (.int x), l3], st, h) = zz_Y 7 (6, [l0, l1, some (.int x), l3], .int x :: st, h) := fun _ _ _ _ _ _ => xl_iln d7_5 rfl
