/-! the law, by program -/
theorem d_L_law_0 : decode cL_law 0 = .ok (.new 8, 3) := by decide +kernel
theorem d_L_law_3 : decode cL_law 3 = .ok (.dup, 1) := by decide +kernel
theorem d_L_law_4 : decode cL_law 4 = .ok (.invokespecial 91, 3) := by decide +kernel
theorem d_L_law_7 : decode cL_law 7 = .ok (.astore_n 1, 1) := by decide +kernel
theorem d_L_law_8 : decode cL_law 8 = .ok (.new 92, 3) := by decide +kernel
theorem d_L_law_11 : decode cL_law 11 = .ok (.dup, 1) := by decide +kernel
theorem d_L_law_12 : decode cL_law 12 = .ok (.invokespecial 94, 3) := by decide +kernel
theorem d_L_law_15 : decode cL_law 15 = .ok (.astore_n 2, 1) := by decide +kernel
theorem d_L_law_16 : decode cL_law 16 = .ok (.iconst 1, 1) := by decide +kernel
theorem d_L_law_17 : decode cL_law 17 = .ok (.newarray .long, 2) := by decide +kernel
theorem d_L_law_19 : decode cL_law 19 = .ok (.astore_n 3, 1) := by decide +kernel
theorem d_L_law_20 : decode cL_law 20 = .ok (.iconst 0, 1) := by decide +kernel
theorem d_L_law_21 : decode cL_law 21 = .ok (.istore 4, 2) := by decide +kernel
theorem d_L_law_23 : decode cL_law 23 = .ok (.iload 4, 2) := by decide +kernel
theorem d_L_law_25 : decode cL_law 25 = .ok (.aload_n 0, 1) := by decide +kernel
theorem d_L_law_26 : decode cL_law 26 = .ok (.arraylength, 1) := by decide +kernel
theorem d_L_law_27 : decode cL_law 27 = .ok (.bipush 6, 2) := by decide +kernel
theorem d_L_law_29 : decode cL_law 29 = .ok (.isub, 1) := by decide +kernel
theorem d_L_law_30 : decode cL_law 30 = .ok (.if_icmp .gt 1874, 3) := by decide +kernel
theorem d_L_law_33 : decode cL_law 33 = .ok (.aload_n 0, 1) := by decide +kernel
theorem d_L_law_34 : decode cL_law 34 = .ok (.iload 4, 2) := by decide +kernel
theorem d_L_law_36 : decode cL_law 36 = .ok (.iaload, 1) := by decide +kernel
theorem d_L_law_37 : decode cL_law 37 = .ok (.bipush 31, 2) := by decide +kernel
theorem d_L_law_39 : decode cL_law 39 = .ok (.iand, 1) := by decide +kernel
theorem d_L_law_40 : decode cL_law 40 = .ok (.tableswitch 1858 0 29 #[136, 209, 265, 278, 334, 402, 470, 526, 622, 690, 746, 845, 913, 980, 1048, 1062, 1154, 1209, 1277, 1357, 1412, 1468, 1547, 1561, 1617, 1685, 1708, 1764, 1832, 1845], 136) := by decide +kernel
theorem d_L_law_176 : decode cL_law 176 = .ok (.aload_n 1, 1) := by decide +kernel
theorem d_L_law_177 : decode cL_law 177 = .ok (.aload_n 0, 1) := by decide +kernel
theorem d_L_law_178 : decode cL_law 178 = .ok (.iload 4, 2) := by decide +kernel
theorem d_L_law_180 : decode cL_law 180 = .ok (.iconst 1, 1) := by decide +kernel
theorem d_L_law_181 : decode cL_law 181 = .ok (.iadd, 1) := by decide +kernel
theorem d_L_law_182 : decode cL_law 182 = .ok (.iaload, 1) := by decide +kernel
theorem d_L_law_183 : decode cL_law 183 = .ok (.aload_n 0, 1) := by decide +kernel
theorem d_L_law_184 : decode cL_law 184 = .ok (.iload 4, 2) := by decide +kernel
theorem d_L_law_186 : decode cL_law 186 = .ok (.iconst 2, 1) := by decide +kernel
theorem d_L_law_187 : decode cL_law 187 = .ok (.iadd, 1) := by decide +kernel
theorem d_L_law_188 : decode cL_law 188 = .ok (.iaload, 1) := by decide +kernel
theorem d_L_law_189 : decode cL_law 189 = .ok (.aload_n 0, 1) := by decide +kernel
theorem d_L_law_190 : decode cL_law 190 = .ok (.iload 4, 2) := by decide +kernel
theorem d_L_law_192 : decode cL_law 192 = .ok (.iconst 3, 1) := by decide +kernel
theorem d_L_law_193 : decode cL_law 193 = .ok (.iadd, 1) := by decide +kernel
theorem d_L_law_194 : decode cL_law 194 = .ok (.iaload, 1) := by decide +kernel
theorem d_L_law_195 : decode cL_law 195 = .ok (.aload_n 0, 1) := by decide +kernel
theorem d_L_law_196 : decode cL_law 196 = .ok (.iload 4, 2) := by decide +kernel
theorem d_L_law_198 : decode cL_law 198 = .ok (.iconst 4, 1) := by decide +kernel
theorem d_L_law_199 : decode cL_law 199 = .ok (.iadd, 1) := by decide +kernel
theorem d_L_law_200 : decode cL_law 200 = .ok (.iaload, 1) := by decide +kernel
theorem d_L_law_201 : decode cL_law 201 = .ok (.aload_n 0, 1) := by decide +kernel
theorem d_L_law_202 : decode cL_law 202 = .ok (.iload 4, 2) := by decide +kernel
theorem d_L_law_204 : decode cL_law 204 = .ok (.iconst 5, 1) := by decide +kernel
theorem d_L_law_205 : decode cL_law 205 = .ok (.iadd, 1) := by decide +kernel
theorem d_L_law_206 : decode cL_law 206 = .ok (.iaload, 1) := by decide +kernel
theorem d_L_law_207 : decode cL_law 207 = .ok (.invokevirtual 95, 3) := by decide +kernel
theorem d_L_law_210 : decode cL_law 210 = .ok (.aload_n 2, 1) := by decide +kernel
theorem d_L_law_211 : decode cL_law 211 = .ok (.aload_n 0, 1) := by decide +kernel
theorem d_L_law_212 : decode cL_law 212 = .ok (.iload 4, 2) := by decide +kernel
theorem d_L_law_214 : decode cL_law 214 = .ok (.iconst 1, 1) := by decide +kernel
theorem d_L_law_215 : decode cL_law 215 = .ok (.iadd, 1) := by decide +kernel
theorem d_L_law_216 : decode cL_law 216 = .ok (.iaload, 1) := by decide +kernel
theorem d_L_law_217 : decode cL_law 217 = .ok (.aload_n 0, 1) := by decide +kernel
theorem d_L_law_218 : decode cL_law 218 = .ok (.iload 4, 2) := by decide +kernel
theorem d_L_law_220 : decode cL_law 220 = .ok (.iconst 2, 1) := by decide +kernel
theorem d_L_law_221 : decode cL_law 221 = .ok (.iadd, 1) := by decide +kernel
theorem d_L_law_222 : decode cL_law 222 = .ok (.iaload, 1) := by decide +kernel
theorem d_L_law_223 : decode cL_law 223 = .ok (.aload_n 0, 1) := by decide +kernel
theorem d_L_law_224 : decode cL_law 224 = .ok (.iload 4, 2) := by decide +kernel
theorem d_L_law_226 : decode cL_law 226 = .ok (.iconst 3, 1) := by decide +kernel
theorem d_L_law_227 : decode cL_law 227 = .ok (.iadd, 1) := by decide +kernel
theorem d_L_law_228 : decode cL_law 228 = .ok (.iaload, 1) := by decide +kernel
theorem d_L_law_229 : decode cL_law 229 = .ok (.aload_n 0, 1) := by decide +kernel
theorem d_L_law_230 : decode cL_law 230 = .ok (.iload 4, 2) := by decide +kernel
theorem d_L_law_232 : decode cL_law 232 = .ok (.iconst 4, 1) := by decide +kernel
theorem d_L_law_233 : decode cL_law 233 = .ok (.iadd, 1) := by decide +kernel
theorem d_L_law_234 : decode cL_law 234 = .ok (.iaload, 1) := by decide +kernel
theorem d_L_law_235 : decode cL_law 235 = .ok (.aload_n 0, 1) := by decide +kernel
theorem d_L_law_236 : decode cL_law 236 = .ok (.iload 4, 2) := by decide +kernel
theorem d_L_law_238 : decode cL_law 238 = .ok (.iconst 5, 1) := by decide +kernel
theorem d_L_law_239 : decode cL_law 239 = .ok (.iadd, 1) := by decide +kernel
theorem d_L_law_240 : decode cL_law 240 = .ok (.iaload, 1) := by decide +kernel
theorem d_L_law_241 : decode cL_law 241 = .ok (.invokevirtual 99, 3) := by decide +kernel
theorem d_L_law_244 : decode cL_law 244 = .ok (.if_icmp .eq 1654, 3) := by decide +kernel
theorem d_L_law_247 : decode cL_law 247 = .ok (.iconst 0, 1) := by decide +kernel
theorem d_L_law_248 : decode cL_law 248 = .ok (.ireturn, 1) := by decide +kernel
theorem d_L_law_249 : decode cL_law 249 = .ok (.aload_n 1, 1) := by decide +kernel
theorem d_L_law_250 : decode cL_law 250 = .ok (.aload_n 0, 1) := by decide +kernel
theorem d_L_law_251 : decode cL_law 251 = .ok (.iload 4, 2) := by decide +kernel
theorem d_L_law_253 : decode cL_law 253 = .ok (.iconst 1, 1) := by decide +kernel
theorem d_L_law_254 : decode cL_law 254 = .ok (.iadd, 1) := by decide +kernel
theorem d_L_law_255 : decode cL_law 255 = .ok (.iaload, 1) := by decide +kernel
theorem d_L_law_256 : decode cL_law 256 = .ok (.aload_n 3, 1) := by decide +kernel
theorem d_L_law_257 : decode cL_law 257 = .ok (.invokestatic 100, 3) := by decide +kernel
theorem d_L_law_260 : decode cL_law 260 = .ok (.istore 5, 2) := by decide +kernel
theorem d_L_law_262 : decode cL_law 262 = .ok (.aload_n 2, 1) := by decide +kernel
theorem d_L_law_263 : decode cL_law 263 = .ok (.aload_n 0, 1) := by decide +kernel
theorem d_L_law_264 : decode cL_law 264 = .ok (.iload 4, 2) := by decide +kernel
theorem d_L_law_266 : decode cL_law 266 = .ok (.iconst 1, 1) := by decide +kernel
theorem d_L_law_267 : decode cL_law 267 = .ok (.iadd, 1) := by decide +kernel
theorem d_L_law_268 : decode cL_law 268 = .ok (.iaload, 1) := by decide +kernel
theorem d_L_law_269 : decode cL_law 269 = .ok (.invokevirtual 105, 3) := by decide +kernel
theorem d_L_law_272 : decode cL_law 272 = .ok (.istore 6, 2) := by decide +kernel
theorem d_L_law_274 : decode cL_law 274 = .ok (.aload_n 2, 1) := by decide +kernel
theorem d_L_law_275 : decode cL_law 275 = .ok (.invokevirtual 106, 3) := by decide +kernel
theorem d_L_law_278 : decode cL_law 278 = .ok (.iload 5, 2) := by decide +kernel
theorem d_L_law_280 : decode cL_law 280 = .ok (.if_icmp .eq 5, 3) := by decide +kernel
theorem d_L_law_283 : decode cL_law 283 = .ok (.iconst 0, 1) := by decide +kernel
theorem d_L_law_284 : decode cL_law 284 = .ok (.ireturn, 1) := by decide +kernel
theorem d_L_law_285 : decode cL_law 285 = .ok (.iload 5, 2) := by decide +kernel
theorem d_L_law_287 : decode cL_law 287 = .ok (.ifCond .ne 15, 3) := by decide +kernel
theorem d_L_law_290 : decode cL_law 290 = .ok (.aload_n 3, 1) := by decide +kernel
theorem d_L_law_291 : decode cL_law 291 = .ok (.iconst 0, 1) := by decide +kernel
theorem d_L_law_292 : decode cL_law 292 = .ok (.laload, 1) := by decide +kernel
theorem d_L_law_293 : decode cL_law 293 = .ok (.iload 6, 2) := by decide +kernel
theorem d_L_law_295 : decode cL_law 295 = .ok (.i2l, 1) := by decide +kernel
theorem d_L_law_296 : decode cL_law 296 = .ok (.lcmp, 1) := by decide +kernel
theorem d_L_law_297 : decode cL_law 297 = .ok (.ifCond .eq 5, 3) := by decide +kernel
theorem d_L_law_300 : decode cL_law 300 = .ok (.iconst 0, 1) := by decide +kernel
theorem d_L_law_301 : decode cL_law 301 = .ok (.ireturn, 1) := by decide +kernel
theorem d_L_law_302 : decode cL_law 302 = .ok (.goto 1596, 3) := by decide +kernel
theorem d_L_law_305 : decode cL_law 305 = .ok (.aload_n 1, 1) := by decide +kernel
theorem d_L_law_306 : decode cL_law 306 = .ok (.invokevirtual 110, 3) := by decide +kernel
theorem d_L_law_309 : decode cL_law 309 = .ok (.aload_n 2, 1) := by decide +kernel
theorem d_L_law_310 : decode cL_law 310 = .ok (.invokevirtual 113, 3) := by decide +kernel
theorem d_L_law_313 : decode cL_law 313 = .ok (.if_icmp .eq 1585, 3) := by decide +kernel
theorem d_L_law_316 : decode cL_law 316 = .ok (.iconst 0, 1) := by decide +kernel
theorem d_L_law_317 : decode cL_law 317 = .ok (.ireturn, 1) := by decide +kernel
theorem d_L_law_318 : decode cL_law 318 = .ok (.aload_n 1, 1) := by decide +kernel
theorem d_L_law_319 : decode cL_law 319 = .ok (.aload_n 0, 1) := by decide +kernel
theorem d_L_law_320 : decode cL_law 320 = .ok (.iload 4, 2) := by decide +kernel
theorem d_L_law_322 : decode cL_law 322 = .ok (.iconst 1, 1) := by decide +kernel
theorem d_L_law_323 : decode cL_law 323 = .ok (.iadd, 1) := by decide +kernel
theorem d_L_law_324 : decode cL_law 324 = .ok (.iaload, 1) := by decide +kernel
theorem d_L_law_325 : decode cL_law 325 = .ok (.aload_n 3, 1) := by decide +kernel
theorem d_L_law_326 : decode cL_law 326 = .ok (.invokestatic 114, 3) := by decide +kernel
theorem d_L_law_329 : decode cL_law 329 = .ok (.istore 5, 2) := by decide +kernel
theorem d_L_law_331 : decode cL_law 331 = .ok (.aload_n 2, 1) := by decide +kernel
theorem d_L_law_332 : decode cL_law 332 = .ok (.aload_n 0, 1) := by decide +kernel
theorem d_L_law_333 : decode cL_law 333 = .ok (.iload 4, 2) := by decide +kernel
theorem d_L_law_335 : decode cL_law 335 = .ok (.iconst 1, 1) := by decide +kernel
theorem d_L_law_336 : decode cL_law 336 = .ok (.iadd, 1) := by decide +kernel
theorem d_L_law_337 : decode cL_law 337 = .ok (.iaload, 1) := by decide +kernel
theorem d_L_law_338 : decode cL_law 338 = .ok (.invokevirtual 116, 3) := by decide +kernel
theorem d_L_law_341 : decode cL_law 341 = .ok (.istore 6, 2) := by decide +kernel
theorem d_L_law_343 : decode cL_law 343 = .ok (.aload_n 2, 1) := by decide +kernel
theorem d_L_law_344 : decode cL_law 344 = .ok (.invokevirtual 106, 3) := by decide +kernel
theorem d_L_law_347 : decode cL_law 347 = .ok (.iload 5, 2) := by decide +kernel
theorem d_L_law_349 : decode cL_law 349 = .ok (.if_icmp .eq 5, 3) := by decide +kernel
theorem d_L_law_352 : decode cL_law 352 = .ok (.iconst 0, 1) := by decide +kernel
theorem d_L_law_353 : decode cL_law 353 = .ok (.ireturn, 1) := by decide +kernel
theorem d_L_law_354 : decode cL_law 354 = .ok (.iload 5, 2) := by decide +kernel
theorem d_L_law_356 : decode cL_law 356 = .ok (.ifCond .ne 15, 3) := by decide +kernel
theorem d_L_law_359 : decode cL_law 359 = .ok (.aload_n 3, 1) := by decide +kernel
theorem d_L_law_360 : decode cL_law 360 = .ok (.iconst 0, 1) := by decide +kernel
theorem d_L_law_361 : decode cL_law 361 = .ok (.laload, 1) := by decide +kernel
theorem d_L_law_362 : decode cL_law 362 = .ok (.iload 6, 2) := by decide +kernel
theorem d_L_law_364 : decode cL_law 364 = .ok (.i2l, 1) := by decide +kernel
theorem d_L_law_365 : decode cL_law 365 = .ok (.lcmp, 1) := by decide +kernel
theorem d_L_law_366 : decode cL_law 366 = .ok (.ifCond .eq 5, 3) := by decide +kernel
theorem d_L_law_369 : decode cL_law 369 = .ok (.iconst 0, 1) := by decide +kernel
theorem d_L_law_370 : decode cL_law 370 = .ok (.ireturn, 1) := by decide +kernel
theorem d_L_law_371 : decode cL_law 371 = .ok (.goto 1527, 3) := by decide +kernel
theorem d_L_law_374 : decode cL_law 374 = .ok (.aload_n 1, 1) := by decide +kernel
theorem d_L_law_375 : decode cL_law 375 = .ok (.aload_n 0, 1) := by decide +kernel
theorem d_L_law_376 : decode cL_law 376 = .ok (.iload 4, 2) := by decide +kernel
theorem d_L_law_378 : decode cL_law 378 = .ok (.iconst 1, 1) := by decide +kernel
theorem d_L_law_379 : decode cL_law 379 = .ok (.iadd, 1) := by decide +kernel
theorem d_L_law_380 : decode cL_law 380 = .ok (.iaload, 1) := by decide +kernel
theorem d_L_law_381 : decode cL_law 381 = .ok (.aload_n 0, 1) := by decide +kernel
theorem d_L_law_382 : decode cL_law 382 = .ok (.iload 4, 2) := by decide +kernel
theorem d_L_law_384 : decode cL_law 384 = .ok (.iconst 2, 1) := by decide +kernel
theorem d_L_law_385 : decode cL_law 385 = .ok (.iadd, 1) := by decide +kernel
theorem d_L_law_386 : decode cL_law 386 = .ok (.iaload, 1) := by decide +kernel
theorem d_L_law_387 : decode cL_law 387 = .ok (.aload_n 3, 1) := by decide +kernel
theorem d_L_law_388 : decode cL_law 388 = .ok (.invokestatic 117, 3) := by decide +kernel
theorem d_L_law_391 : decode cL_law 391 = .ok (.istore 5, 2) := by decide +kernel
theorem d_L_law_393 : decode cL_law 393 = .ok (.aload_n 2, 1) := by decide +kernel
theorem d_L_law_394 : decode cL_law 394 = .ok (.aload_n 0, 1) := by decide +kernel
theorem d_L_law_395 : decode cL_law 395 = .ok (.iload 4, 2) := by decide +kernel
theorem d_L_law_397 : decode cL_law 397 = .ok (.iconst 1, 1) := by decide +kernel
theorem d_L_law_398 : decode cL_law 398 = .ok (.iadd, 1) := by decide +kernel
theorem d_L_law_399 : decode cL_law 399 = .ok (.iaload, 1) := by decide +kernel
theorem d_L_law_400 : decode cL_law 400 = .ok (.aload_n 0, 1) := by decide +kernel
theorem d_L_law_401 : decode cL_law 401 = .ok (.iload 4, 2) := by decide +kernel
theorem d_L_law_403 : decode cL_law 403 = .ok (.iconst 2, 1) := by decide +kernel
theorem d_L_law_404 : decode cL_law 404 = .ok (.iadd, 1) := by decide +kernel
theorem d_L_law_405 : decode cL_law 405 = .ok (.iaload, 1) := by decide +kernel
theorem d_L_law_406 : decode cL_law 406 = .ok (.invokevirtual 120, 3) := by decide +kernel
theorem d_L_law_409 : decode cL_law 409 = .ok (.istore 6, 2) := by decide +kernel
theorem d_L_law_411 : decode cL_law 411 = .ok (.aload_n 2, 1) := by decide +kernel
theorem d_L_law_412 : decode cL_law 412 = .ok (.invokevirtual 106, 3) := by decide +kernel
theorem d_L_law_415 : decode cL_law 415 = .ok (.iload 5, 2) := by decide +kernel
theorem d_L_law_417 : decode cL_law 417 = .ok (.if_icmp .eq 5, 3) := by decide +kernel
theorem d_L_law_420 : decode cL_law 420 = .ok (.iconst 0, 1) := by decide +kernel
theorem d_L_law_421 : decode cL_law 421 = .ok (.ireturn, 1) := by decide +kernel
theorem d_L_law_422 : decode cL_law 422 = .ok (.iload 5, 2) := by decide +kernel
theorem d_L_law_424 : decode cL_law 424 = .ok (.ifCond .ne 15, 3) := by decide +kernel
theorem d_L_law_427 : decode cL_law 427 = .ok (.aload_n 3, 1) := by decide +kernel
theorem d_L_law_428 : decode cL_law 428 = .ok (.iconst 0, 1) := by decide +kernel
theorem d_L_law_429 : decode cL_law 429 = .ok (.laload, 1) := by decide +kernel
theorem d_L_law_430 : decode cL_law 430 = .ok (.iload 6, 2) := by decide +kernel
theorem d_L_law_432 : decode cL_law 432 = .ok (.i2l, 1) := by decide +kernel
theorem d_L_law_433 : decode cL_law 433 = .ok (.lcmp, 1) := by decide +kernel
theorem d_L_law_434 : decode cL_law 434 = .ok (.ifCond .eq 5, 3) := by decide +kernel
theorem d_L_law_437 : decode cL_law 437 = .ok (.iconst 0, 1) := by decide +kernel
theorem d_L_law_438 : decode cL_law 438 = .ok (.ireturn, 1) := by decide +kernel
theorem d_L_law_439 : decode cL_law 439 = .ok (.goto 1459, 3) := by decide +kernel
theorem d_L_law_442 : decode cL_law 442 = .ok (.aload_n 1, 1) := by decide +kernel
theorem d_L_law_443 : decode cL_law 443 = .ok (.aload_n 0, 1) := by decide +kernel
theorem d_L_law_444 : decode cL_law 444 = .ok (.iload 4, 2) := by decide +kernel
theorem d_L_law_446 : decode cL_law 446 = .ok (.iconst 1, 1) := by decide +kernel
theorem d_L_law_447 : decode cL_law 447 = .ok (.iadd, 1) := by decide +kernel
theorem d_L_law_448 : decode cL_law 448 = .ok (.iaload, 1) := by decide +kernel
theorem d_L_law_449 : decode cL_law 449 = .ok (.aload_n 0, 1) := by decide +kernel
theorem d_L_law_450 : decode cL_law 450 = .ok (.iload 4, 2) := by decide +kernel
theorem d_L_law_452 : decode cL_law 452 = .ok (.iconst 2, 1) := by decide +kernel
theorem d_L_law_453 : decode cL_law 453 = .ok (.iadd, 1) := by decide +kernel
theorem d_L_law_454 : decode cL_law 454 = .ok (.iaload, 1) := by decide +kernel
theorem d_L_law_455 : decode cL_law 455 = .ok (.aload_n 3, 1) := by decide +kernel
theorem d_L_law_456 : decode cL_law 456 = .ok (.invokestatic 121, 3) := by decide +kernel
theorem d_L_law_459 : decode cL_law 459 = .ok (.istore 5, 2) := by decide +kernel
theorem d_L_law_461 : decode cL_law 461 = .ok (.aload_n 2, 1) := by decide +kernel
theorem d_L_law_462 : decode cL_law 462 = .ok (.aload_n 0, 1) := by decide +kernel
theorem d_L_law_463 : decode cL_law 463 = .ok (.iload 4, 2) := by decide +kernel
theorem d_L_law_465 : decode cL_law 465 = .ok (.iconst 1, 1) := by decide +kernel
theorem d_L_law_466 : decode cL_law 466 = .ok (.iadd, 1) := by decide +kernel
theorem d_L_law_467 : decode cL_law 467 = .ok (.iaload, 1) := by decide +kernel
theorem d_L_law_468 : decode cL_law 468 = .ok (.aload_n 0, 1) := by decide +kernel
theorem d_L_law_469 : decode cL_law 469 = .ok (.iload 4, 2) := by decide +kernel
theorem d_L_law_471 : decode cL_law 471 = .ok (.iconst 2, 1) := by decide +kernel
theorem d_L_law_472 : decode cL_law 472 = .ok (.iadd, 1) := by decide +kernel
theorem d_L_law_473 : decode cL_law 473 = .ok (.iaload, 1) := by decide +kernel
theorem d_L_law_474 : decode cL_law 474 = .ok (.invokevirtual 123, 3) := by decide +kernel
theorem d_L_law_477 : decode cL_law 477 = .ok (.istore 6, 2) := by decide +kernel
theorem d_L_law_479 : decode cL_law 479 = .ok (.aload_n 2, 1) := by decide +kernel
theorem d_L_law_480 : decode cL_law 480 = .ok (.invokevirtual 106, 3) := by decide +kernel
theorem d_L_law_483 : decode cL_law 483 = .ok (.iload 5, 2) := by decide +kernel
theorem d_L_law_485 : decode cL_law 485 = .ok (.if_icmp .eq 5, 3) := by decide +kernel
theorem d_L_law_488 : decode cL_law 488 = .ok (.iconst 0, 1) := by decide +kernel
theorem d_L_law_489 : decode cL_law 489 = .ok (.ireturn, 1) := by decide +kernel
theorem d_L_law_490 : decode cL_law 490 = .ok (.iload 5, 2) := by decide +kernel
theorem d_L_law_492 : decode cL_law 492 = .ok (.ifCond .ne 15, 3) := by decide +kernel
theorem d_L_law_495 : decode cL_law 495 = .ok (.aload_n 3, 1) := by decide +kernel
theorem d_L_law_496 : decode cL_law 496 = .ok (.iconst 0, 1) := by decide +kernel
theorem d_L_law_497 : decode cL_law 497 = .ok (.laload, 1) := by decide +kernel
theorem d_L_law_498 : decode cL_law 498 = .ok (.iload 6, 2) := by decide +kernel
theorem d_L_law_500 : decode cL_law 500 = .ok (.i2l, 1) := by decide +kernel
theorem d_L_law_501 : decode cL_law 501 = .ok (.lcmp, 1) := by decide +kernel
theorem d_L_law_502 : decode cL_law 502 = .ok (.ifCond .eq 5, 3) := by decide +kernel
theorem d_L_law_505 : decode cL_law 505 = .ok (.iconst 0, 1) := by decide +kernel
theorem d_L_law_506 : decode cL_law 506 = .ok (.ireturn, 1) := by decide +kernel
theorem d_L_law_507 : decode cL_law 507 = .ok (.goto 1391, 3) := by decide +kernel
theorem d_L_law_510 : decode cL_law 510 = .ok (.aload_n 1, 1) := by decide +kernel
theorem d_L_law_511 : decode cL_law 511 = .ok (.aload_n 0, 1) := by decide +kernel
theorem d_L_law_512 : decode cL_law 512 = .ok (.iload 4, 2) := by decide +kernel
theorem d_L_law_514 : decode cL_law 514 = .ok (.iconst 1, 1) := by decide +kernel
theorem d_L_law_515 : decode cL_law 515 = .ok (.iadd, 1) := by decide +kernel
theorem d_L_law_516 : decode cL_law 516 = .ok (.iaload, 1) := by decide +kernel
theorem d_L_law_517 : decode cL_law 517 = .ok (.aload_n 3, 1) := by decide +kernel
theorem d_L_law_518 : decode cL_law 518 = .ok (.invokestatic 124, 3) := by decide +kernel
theorem d_L_law_521 : decode cL_law 521 = .ok (.istore 5, 2) := by decide +kernel
theorem d_L_law_523 : decode cL_law 523 = .ok (.aload_n 2, 1) := by decide +kernel
theorem d_L_law_524 : decode cL_law 524 = .ok (.aload_n 0, 1) := by decide +kernel
theorem d_L_law_525 : decode cL_law 525 = .ok (.iload 4, 2) := by decide +kernel
theorem d_L_law_527 : decode cL_law 527 = .ok (.iconst 1, 1) := by decide +kernel
theorem d_L_law_528 : decode cL_law 528 = .ok (.iadd, 1) := by decide +kernel
theorem d_L_law_529 : decode cL_law 529 = .ok (.iaload, 1) := by decide +kernel
theorem d_L_law_530 : decode cL_law 530 = .ok (.invokevirtual 126, 3) := by decide +kernel
theorem d_L_law_533 : decode cL_law 533 = .ok (.istore 6, 2) := by decide +kernel
theorem d_L_law_535 : decode cL_law 535 = .ok (.aload_n 2, 1) := by decide +kernel
theorem d_L_law_536 : decode cL_law 536 = .ok (.invokevirtual 106, 3) := by decide +kernel
theorem d_L_law_539 : decode cL_law 539 = .ok (.iload 5, 2) := by decide +kernel
theorem d_L_law_541 : decode cL_law 541 = .ok (.if_icmp .eq 5, 3) := by decide +kernel
theorem d_L_law_544 : decode cL_law 544 = .ok (.iconst 0, 1) := by decide +kernel
theorem d_L_law_545 : decode cL_law 545 = .ok (.ireturn, 1) := by decide +kernel
theorem d_L_law_546 : decode cL_law 546 = .ok (.iload 5, 2) := by decide +kernel
theorem d_L_law_548 : decode cL_law 548 = .ok (.ifCond .ne 15, 3) := by decide +kernel
theorem d_L_law_551 : decode cL_law 551 = .ok (.aload_n 3, 1) := by decide +kernel
theorem d_L_law_552 : decode cL_law 552 = .ok (.iconst 0, 1) := by decide +kernel
theorem d_L_law_553 : decode cL_law 553 = .ok (.laload, 1) := by decide +kernel
theorem d_L_law_554 : decode cL_law 554 = .ok (.iload 6, 2) := by decide +kernel
theorem d_L_law_556 : decode cL_law 556 = .ok (.i2l, 1) := by decide +kernel
theorem d_L_law_557 : decode cL_law 557 = .ok (.lcmp, 1) := by decide +kernel
theorem d_L_law_558 : decode cL_law 558 = .ok (.ifCond .eq 5, 3) := by decide +kernel
theorem d_L_law_561 : decode cL_law 561 = .ok (.iconst 0, 1) := by decide +kernel
theorem d_L_law_562 : decode cL_law 562 = .ok (.ireturn, 1) := by decide +kernel
theorem d_L_law_563 : decode cL_law 563 = .ok (.goto 1335, 3) := by decide +kernel
theorem d_L_law_566 : decode cL_law 566 = .ok (.aload_n 1, 1) := by decide +kernel
theorem d_L_law_567 : decode cL_law 567 = .ok (.aload_n 0, 1) := by decide +kernel
theorem d_L_law_568 : decode cL_law 568 = .ok (.iload 4, 2) := by decide +kernel
theorem d_L_law_570 : decode cL_law 570 = .ok (.iconst 1, 1) := by decide +kernel
theorem d_L_law_571 : decode cL_law 571 = .ok (.iadd, 1) := by decide +kernel
theorem d_L_law_572 : decode cL_law 572 = .ok (.iaload, 1) := by decide +kernel
theorem d_L_law_573 : decode cL_law 573 = .ok (.aload_n 0, 1) := by decide +kernel
theorem d_L_law_574 : decode cL_law 574 = .ok (.iload 4, 2) := by decide +kernel
theorem d_L_law_576 : decode cL_law 576 = .ok (.iconst 2, 1) := by decide +kernel
theorem d_L_law_577 : decode cL_law 577 = .ok (.iadd, 1) := by decide +kernel
theorem d_L_law_578 : decode cL_law 578 = .ok (.iaload, 1) := by decide +kernel
theorem d_L_law_579 : decode cL_law 579 = .ok (.aload_n 0, 1) := by decide +kernel
theorem d_L_law_580 : decode cL_law 580 = .ok (.iload 4, 2) := by decide +kernel
theorem d_L_law_582 : decode cL_law 582 = .ok (.iconst 3, 1) := by decide +kernel
theorem d_L_law_583 : decode cL_law 583 = .ok (.iadd, 1) := by decide +kernel
theorem d_L_law_584 : decode cL_law 584 = .ok (.iaload, 1) := by decide +kernel
theorem d_L_law_585 : decode cL_law 585 = .ok (.ifCond .eq 7, 3) := by decide +kernel
theorem d_L_law_588 : decode cL_law 588 = .ok (.iconst 1, 1) := by decide +kernel
theorem d_L_law_589 : decode cL_law 589 = .ok (.goto 4, 3) := by decide +kernel
theorem d_L_law_592 : decode cL_law 592 = .ok (.iconst 0, 1) := by decide +kernel
theorem d_L_law_593 : decode cL_law 593 = .ok (.aload_n 3, 1) := by decide +kernel
theorem d_L_law_594 : decode cL_law 594 = .ok (.invokestatic 127, 3) := by decide +kernel
theorem d_L_law_597 : decode cL_law 597 = .ok (.istore 5, 2) := by decide +kernel
theorem d_L_law_599 : decode cL_law 599 = .ok (.aload_n 2, 1) := by decide +kernel
theorem d_L_law_600 : decode cL_law 600 = .ok (.aload_n 0, 1) := by decide +kernel
theorem d_L_law_601 : decode cL_law 601 = .ok (.iload 4, 2) := by decide +kernel
theorem d_L_law_603 : decode cL_law 603 = .ok (.iconst 1, 1) := by decide +kernel
theorem d_L_law_604 : decode cL_law 604 = .ok (.iadd, 1) := by decide +kernel
theorem d_L_law_605 : decode cL_law 605 = .ok (.iaload, 1) := by decide +kernel
theorem d_L_law_606 : decode cL_law 606 = .ok (.aload_n 0, 1) := by decide +kernel
theorem d_L_law_607 : decode cL_law 607 = .ok (.iload 4, 2) := by decide +kernel
theorem d_L_law_609 : decode cL_law 609 = .ok (.iconst 2, 1) := by decide +kernel
theorem d_L_law_610 : decode cL_law 610 = .ok (.iadd, 1) := by decide +kernel
theorem d_L_law_611 : decode cL_law 611 = .ok (.iaload, 1) := by decide +kernel
theorem d_L_law_612 : decode cL_law 612 = .ok (.aload_n 0, 1) := by decide +kernel
theorem d_L_law_613 : decode cL_law 613 = .ok (.iload 4, 2) := by decide +kernel
theorem d_L_law_615 : decode cL_law 615 = .ok (.iconst 3, 1) := by decide +kernel
theorem d_L_law_616 : decode cL_law 616 = .ok (.iadd, 1) := by decide +kernel
theorem d_L_law_617 : decode cL_law 617 = .ok (.iaload, 1) := by decide +kernel
theorem d_L_law_618 : decode cL_law 618 = .ok (.ifCond .eq 7, 3) := by decide +kernel
theorem d_L_law_621 : decode cL_law 621 = .ok (.iconst 1, 1) := by decide +kernel
theorem d_L_law_622 : decode cL_law 622 = .ok (.goto 4, 3) := by decide +kernel
theorem d_L_law_625 : decode cL_law 625 = .ok (.iconst 0, 1) := by decide +kernel
theorem d_L_law_626 : decode cL_law 626 = .ok (.invokevirtual 130, 3) := by decide +kernel
theorem d_L_law_629 : decode cL_law 629 = .ok (.istore 6, 2) := by decide +kernel
theorem d_L_law_631 : decode cL_law 631 = .ok (.aload_n 2, 1) := by decide +kernel
theorem d_L_law_632 : decode cL_law 632 = .ok (.invokevirtual 106, 3) := by decide +kernel
theorem d_L_law_635 : decode cL_law 635 = .ok (.iload 5, 2) := by decide +kernel
theorem d_L_law_637 : decode cL_law 637 = .ok (.if_icmp .eq 5, 3) := by decide +kernel
theorem d_L_law_640 : decode cL_law 640 = .ok (.iconst 0, 1) := by decide +kernel
theorem d_L_law_641 : decode cL_law 641 = .ok (.ireturn, 1) := by decide +kernel
theorem d_L_law_642 : decode cL_law 642 = .ok (.iload 5, 2) := by decide +kernel
theorem d_L_law_644 : decode cL_law 644 = .ok (.ifCond .ne 15, 3) := by decide +kernel
theorem d_L_law_647 : decode cL_law 647 = .ok (.aload_n 3, 1) := by decide +kernel
theorem d_L_law_648 : decode cL_law 648 = .ok (.iconst 0, 1) := by decide +kernel
theorem d_L_law_649 : decode cL_law 649 = .ok (.laload, 1) := by decide +kernel
theorem d_L_law_650 : decode cL_law 650 = .ok (.iload 6, 2) := by decide +kernel
theorem d_L_law_652 : decode cL_law 652 = .ok (.i2l, 1) := by decide +kernel
theorem d_L_law_653 : decode cL_law 653 = .ok (.lcmp, 1) := by decide +kernel
theorem d_L_law_654 : decode cL_law 654 = .ok (.ifCond .eq 5, 3) := by decide +kernel
theorem d_L_law_657 : decode cL_law 657 = .ok (.iconst 0, 1) := by decide +kernel
theorem d_L_law_658 : decode cL_law 658 = .ok (.ireturn, 1) := by decide +kernel
theorem d_L_law_659 : decode cL_law 659 = .ok (.goto 1239, 3) := by decide +kernel
theorem d_L_law_662 : decode cL_law 662 = .ok (.aload_n 1, 1) := by decide +kernel
theorem d_L_law_663 : decode cL_law 663 = .ok (.aload_n 0, 1) := by decide +kernel
theorem d_L_law_664 : decode cL_law 664 = .ok (.iload 4, 2) := by decide +kernel
theorem d_L_law_666 : decode cL_law 666 = .ok (.iconst 1, 1) := by decide +kernel
theorem d_L_law_667 : decode cL_law 667 = .ok (.iadd, 1) := by decide +kernel
theorem d_L_law_668 : decode cL_law 668 = .ok (.iaload, 1) := by decide +kernel
theorem d_L_law_669 : decode cL_law 669 = .ok (.aload_n 0, 1) := by decide +kernel
theorem d_L_law_670 : decode cL_law 670 = .ok (.iload 4, 2) := by decide +kernel
theorem d_L_law_672 : decode cL_law 672 = .ok (.iconst 2, 1) := by decide +kernel
theorem d_L_law_673 : decode cL_law 673 = .ok (.iadd, 1) := by decide +kernel
theorem d_L_law_674 : decode cL_law 674 = .ok (.iaload, 1) := by decide +kernel
theorem d_L_law_675 : decode cL_law 675 = .ok (.aload_n 3, 1) := by decide +kernel
theorem d_L_law_676 : decode cL_law 676 = .ok (.invokestatic 131, 3) := by decide +kernel
theorem d_L_law_679 : decode cL_law 679 = .ok (.istore 5, 2) := by decide +kernel
theorem d_L_law_681 : decode cL_law 681 = .ok (.aload_n 2, 1) := by decide +kernel
theorem d_L_law_682 : decode cL_law 682 = .ok (.aload_n 0, 1) := by decide +kernel
theorem d_L_law_683 : decode cL_law 683 = .ok (.iload 4, 2) := by decide +kernel
theorem d_L_law_685 : decode cL_law 685 = .ok (.iconst 1, 1) := by decide +kernel
theorem d_L_law_686 : decode cL_law 686 = .ok (.iadd, 1) := by decide +kernel
theorem d_L_law_687 : decode cL_law 687 = .ok (.iaload, 1) := by decide +kernel
theorem d_L_law_688 : decode cL_law 688 = .ok (.aload_n 0, 1) := by decide +kernel
theorem d_L_law_689 : decode cL_law 689 = .ok (.iload 4, 2) := by decide +kernel
theorem d_L_law_691 : decode cL_law 691 = .ok (.iconst 2, 1) := by decide +kernel
theorem d_L_law_692 : decode cL_law 692 = .ok (.iadd, 1) := by decide +kernel
theorem d_L_law_693 : decode cL_law 693 = .ok (.iaload, 1) := by decide +kernel
theorem d_L_law_694 : decode cL_law 694 = .ok (.invokevirtual 133, 3) := by decide +kernel
theorem d_L_law_697 : decode cL_law 697 = .ok (.istore 6, 2) := by decide +kernel
theorem d_L_law_699 : decode cL_law 699 = .ok (.aload_n 2, 1) := by decide +kernel
theorem d_L_law_700 : decode cL_law 700 = .ok (.invokevirtual 106, 3) := by decide +kernel
theorem d_L_law_703 : decode cL_law 703 = .ok (.iload 5, 2) := by decide +kernel
theorem d_L_law_705 : decode cL_law 705 = .ok (.if_icmp .eq 5, 3) := by decide +kernel
theorem d_L_law_708 : decode cL_law 708 = .ok (.iconst 0, 1) := by decide +kernel
theorem d_L_law_709 : decode cL_law 709 = .ok (.ireturn, 1) := by decide +kernel
theorem d_L_law_710 : decode cL_law 710 = .ok (.iload 5, 2) := by decide +kernel
theorem d_L_law_712 : decode cL_law 712 = .ok (.ifCond .ne 15, 3) := by decide +kernel
theorem d_L_law_715 : decode cL_law 715 = .ok (.aload_n 3, 1) := by decide +kernel
theorem d_L_law_716 : decode cL_law 716 = .ok (.iconst 0, 1) := by decide +kernel
theorem d_L_law_717 : decode cL_law 717 = .ok (.laload, 1) := by decide +kernel
theorem d_L_law_718 : decode cL_law 718 = .ok (.iload 6, 2) := by decide +kernel
theorem d_L_law_720 : decode cL_law 720 = .ok (.i2l, 1) := by decide +kernel
theorem d_L_law_721 : decode cL_law 721 = .ok (.lcmp, 1) := by decide +kernel
theorem d_L_law_722 : decode cL_law 722 = .ok (.ifCond .eq 5, 3) := by decide +kernel
theorem d_L_law_725 : decode cL_law 725 = .ok (.iconst 0, 1) := by decide +kernel
theorem d_L_law_726 : decode cL_law 726 = .ok (.ireturn, 1) := by decide +kernel
theorem d_L_law_727 : decode cL_law 727 = .ok (.goto 1171, 3) := by decide +kernel
theorem d_L_law_730 : decode cL_law 730 = .ok (.aload_n 1, 1) := by decide +kernel
theorem d_L_law_731 : decode cL_law 731 = .ok (.aload_n 0, 1) := by decide +kernel
theorem d_L_law_732 : decode cL_law 732 = .ok (.iload 4, 2) := by decide +kernel
theorem d_L_law_734 : decode cL_law 734 = .ok (.iconst 1, 1) := by decide +kernel
theorem d_L_law_735 : decode cL_law 735 = .ok (.iadd, 1) := by decide +kernel
theorem d_L_law_736 : decode cL_law 736 = .ok (.iaload, 1) := by decide +kernel
theorem d_L_law_737 : decode cL_law 737 = .ok (.aload_n 3, 1) := by decide +kernel
theorem d_L_law_738 : decode cL_law 738 = .ok (.invokestatic 134, 3) := by decide +kernel
theorem d_L_law_741 : decode cL_law 741 = .ok (.istore 5, 2) := by decide +kernel
theorem d_L_law_743 : decode cL_law 743 = .ok (.aload_n 2, 1) := by decide +kernel
theorem d_L_law_744 : decode cL_law 744 = .ok (.aload_n 0, 1) := by decide +kernel
theorem d_L_law_745 : decode cL_law 745 = .ok (.iload 4, 2) := by decide +kernel
theorem d_L_law_747 : decode cL_law 747 = .ok (.iconst 1, 1) := by decide +kernel
theorem d_L_law_748 : decode cL_law 748 = .ok (.iadd, 1) := by decide +kernel
theorem d_L_law_749 : decode cL_law 749 = .ok (.iaload, 1) := by decide +kernel
theorem d_L_law_750 : decode cL_law 750 = .ok (.invokevirtual 136, 3) := by decide +kernel
theorem d_L_law_753 : decode cL_law 753 = .ok (.istore 6, 2) := by decide +kernel
theorem d_L_law_755 : decode cL_law 755 = .ok (.aload_n 2, 1) := by decide +kernel
theorem d_L_law_756 : decode cL_law 756 = .ok (.invokevirtual 106, 3) := by decide +kernel
theorem d_L_law_759 : decode cL_law 759 = .ok (.iload 5, 2) := by decide +kernel
theorem d_L_law_761 : decode cL_law 761 = .ok (.if_icmp .eq 5, 3) := by decide +kernel
theorem d_L_law_764 : decode cL_law 764 = .ok (.iconst 0, 1) := by decide +kernel
theorem d_L_law_765 : decode cL_law 765 = .ok (.ireturn, 1) := by decide +kernel
theorem d_L_law_766 : decode cL_law 766 = .ok (.iload 5, 2) := by decide +kernel
theorem d_L_law_768 : decode cL_law 768 = .ok (.ifCond .ne 15, 3) := by decide +kernel
theorem d_L_law_771 : decode cL_law 771 = .ok (.aload_n 3, 1) := by decide +kernel
theorem d_L_law_772 : decode cL_law 772 = .ok (.iconst 0, 1) := by decide +kernel
theorem d_L_law_773 : decode cL_law 773 = .ok (.laload, 1) := by decide +kernel
theorem d_L_law_774 : decode cL_law 774 = .ok (.iload 6, 2) := by decide +kernel
theorem d_L_law_776 : decode cL_law 776 = .ok (.i2l, 1) := by decide +kernel
theorem d_L_law_777 : decode cL_law 777 = .ok (.lcmp, 1) := by decide +kernel
theorem d_L_law_778 : decode cL_law 778 = .ok (.ifCond .eq 5, 3) := by decide +kernel
theorem d_L_law_781 : decode cL_law 781 = .ok (.iconst 0, 1) := by decide +kernel
theorem d_L_law_782 : decode cL_law 782 = .ok (.ireturn, 1) := by decide +kernel
theorem d_L_law_783 : decode cL_law 783 = .ok (.goto 1115, 3) := by decide +kernel
theorem d_L_law_786 : decode cL_law 786 = .ok (.aload_n 1, 1) := by decide +kernel
theorem d_L_law_787 : decode cL_law 787 = .ok (.aload_n 0, 1) := by decide +kernel
theorem d_L_law_788 : decode cL_law 788 = .ok (.iload 4, 2) := by decide +kernel
theorem d_L_law_790 : decode cL_law 790 = .ok (.iconst 1, 1) := by decide +kernel
theorem d_L_law_791 : decode cL_law 791 = .ok (.iadd, 1) := by decide +kernel
theorem d_L_law_792 : decode cL_law 792 = .ok (.iaload, 1) := by decide +kernel
theorem d_L_law_793 : decode cL_law 793 = .ok (.aload_n 0, 1) := by decide +kernel
theorem d_L_law_794 : decode cL_law 794 = .ok (.iload 4, 2) := by decide +kernel
theorem d_L_law_796 : decode cL_law 796 = .ok (.iconst 2, 1) := by decide +kernel
theorem d_L_law_797 : decode cL_law 797 = .ok (.iadd, 1) := by decide +kernel
theorem d_L_law_798 : decode cL_law 798 = .ok (.iaload, 1) := by decide +kernel
theorem d_L_law_799 : decode cL_law 799 = .ok (.aload_n 0, 1) := by decide +kernel
theorem d_L_law_800 : decode cL_law 800 = .ok (.iload 4, 2) := by decide +kernel
theorem d_L_law_802 : decode cL_law 802 = .ok (.iconst 3, 1) := by decide +kernel
theorem d_L_law_803 : decode cL_law 803 = .ok (.iadd, 1) := by decide +kernel
theorem d_L_law_804 : decode cL_law 804 = .ok (.iaload, 1) := by decide +kernel
theorem d_L_law_805 : decode cL_law 805 = .ok (.aload_n 0, 1) := by decide +kernel
theorem d_L_law_806 : decode cL_law 806 = .ok (.iload 4, 2) := by decide +kernel
theorem d_L_law_808 : decode cL_law 808 = .ok (.iconst 4, 1) := by decide +kernel
theorem d_L_law_809 : decode cL_law 809 = .ok (.iadd, 1) := by decide +kernel
theorem d_L_law_810 : decode cL_law 810 = .ok (.iaload, 1) := by decide +kernel
theorem d_L_law_811 : decode cL_law 811 = .ok (.aload_n 3, 1) := by decide +kernel
theorem d_L_law_812 : decode cL_law 812 = .ok (.invokestatic 137, 3) := by decide +kernel
theorem d_L_law_815 : decode cL_law 815 = .ok (.istore 5, 2) := by decide +kernel
theorem d_L_law_817 : decode cL_law 817 = .ok (.aload_n 2, 1) := by decide +kernel
theorem d_L_law_818 : decode cL_law 818 = .ok (.aload_n 0, 1) := by decide +kernel
theorem d_L_law_819 : decode cL_law 819 = .ok (.iload 4, 2) := by decide +kernel
theorem d_L_law_821 : decode cL_law 821 = .ok (.iconst 1, 1) := by decide +kernel
theorem d_L_law_822 : decode cL_law 822 = .ok (.iadd, 1) := by decide +kernel
theorem d_L_law_823 : decode cL_law 823 = .ok (.iaload, 1) := by decide +kernel
theorem d_L_law_824 : decode cL_law 824 = .ok (.aload_n 0, 1) := by decide +kernel
theorem d_L_law_825 : decode cL_law 825 = .ok (.iload 4, 2) := by decide +kernel
theorem d_L_law_827 : decode cL_law 827 = .ok (.iconst 2, 1) := by decide +kernel
theorem d_L_law_828 : decode cL_law 828 = .ok (.iadd, 1) := by decide +kernel
theorem d_L_law_829 : decode cL_law 829 = .ok (.iaload, 1) := by decide +kernel
theorem d_L_law_830 : decode cL_law 830 = .ok (.aload_n 0, 1) := by decide +kernel
theorem d_L_law_831 : decode cL_law 831 = .ok (.iload 4, 2) := by decide +kernel
theorem d_L_law_833 : decode cL_law 833 = .ok (.iconst 3, 1) := by decide +kernel
theorem d_L_law_834 : decode cL_law 834 = .ok (.iadd, 1) := by decide +kernel
theorem d_L_law_835 : decode cL_law 835 = .ok (.iaload, 1) := by decide +kernel
theorem d_L_law_836 : decode cL_law 836 = .ok (.aload_n 0, 1) := by decide +kernel
theorem d_L_law_837 : decode cL_law 837 = .ok (.iload 4, 2) := by decide +kernel
theorem d_L_law_839 : decode cL_law 839 = .ok (.iconst 4, 1) := by decide +kernel
theorem d_L_law_840 : decode cL_law 840 = .ok (.iadd, 1) := by decide +kernel
theorem d_L_law_841 : decode cL_law 841 = .ok (.iaload, 1) := by decide +kernel
theorem d_L_law_842 : decode cL_law 842 = .ok (.invokevirtual 140, 3) := by decide +kernel
theorem d_L_law_845 : decode cL_law 845 = .ok (.istore 6, 2) := by decide +kernel
theorem d_L_law_847 : decode cL_law 847 = .ok (.aload_n 2, 1) := by decide +kernel
theorem d_L_law_848 : decode cL_law 848 = .ok (.invokevirtual 106, 3) := by decide +kernel
theorem d_L_law_851 : decode cL_law 851 = .ok (.iload 5, 2) := by decide +kernel
theorem d_L_law_853 : decode cL_law 853 = .ok (.if_icmp .eq 5, 3) := by decide +kernel
theorem d_L_law_856 : decode cL_law 856 = .ok (.iconst 0, 1) := by decide +kernel
theorem d_L_law_857 : decode cL_law 857 = .ok (.ireturn, 1) := by decide +kernel
theorem d_L_law_858 : decode cL_law 858 = .ok (.iload 5, 2) := by decide +kernel
theorem d_L_law_860 : decode cL_law 860 = .ok (.ifCond .ne 22, 3) := by decide +kernel
theorem d_L_law_863 : decode cL_law 863 = .ok (.aload_n 3, 1) := by decide +kernel
theorem d_L_law_864 : decode cL_law 864 = .ok (.iconst 0, 1) := by decide +kernel
theorem d_L_law_865 : decode cL_law 865 = .ok (.laload, 1) := by decide +kernel
theorem d_L_law_866 : decode cL_law 866 = .ok (.iload 6, 2) := by decide +kernel
theorem d_L_law_868 : decode cL_law 868 = .ok (.ifCond .eq 7, 3) := by decide +kernel
theorem d_L_law_871 : decode cL_law 871 = .ok (.lconst 1, 1) := by decide +kernel
theorem d_L_law_872 : decode cL_law 872 = .ok (.goto 4, 3) := by decide +kernel
theorem d_L_law_875 : decode cL_law 875 = .ok (.lconst 0, 1) := by decide +kernel
theorem d_L_law_876 : decode cL_law 876 = .ok (.lcmp, 1) := by decide +kernel
theorem d_L_law_877 : decode cL_law 877 = .ok (.ifCond .eq 5, 3) := by decide +kernel
theorem d_L_law_880 : decode cL_law 880 = .ok (.iconst 0, 1) := by decide +kernel
theorem d_L_law_881 : decode cL_law 881 = .ok (.ireturn, 1) := by decide +kernel
theorem d_L_law_882 : decode cL_law 882 = .ok (.goto 1016, 3) := by decide +kernel
theorem d_L_law_885 : decode cL_law 885 = .ok (.aload_n 1, 1) := by decide +kernel
theorem d_L_law_886 : decode cL_law 886 = .ok (.aload_n 0, 1) := by decide +kernel
theorem d_L_law_887 : decode cL_law 887 = .ok (.iload 4, 2) := by decide +kernel
theorem d_L_law_889 : decode cL_law 889 = .ok (.iconst 1, 1) := by decide +kernel
theorem d_L_law_890 : decode cL_law 890 = .ok (.iadd, 1) := by decide +kernel
theorem d_L_law_891 : decode cL_law 891 = .ok (.iaload, 1) := by decide +kernel
theorem d_L_law_892 : decode cL_law 892 = .ok (.aload_n 0, 1) := by decide +kernel
theorem d_L_law_893 : decode cL_law 893 = .ok (.iload 4, 2) := by decide +kernel
theorem d_L_law_895 : decode cL_law 895 = .ok (.iconst 2, 1) := by decide +kernel
theorem d_L_law_896 : decode cL_law 896 = .ok (.iadd, 1) := by decide +kernel
theorem d_L_law_897 : decode cL_law 897 = .ok (.iaload, 1) := by decide +kernel
theorem d_L_law_898 : decode cL_law 898 = .ok (.aload_n 3, 1) := by decide +kernel
theorem d_L_law_899 : decode cL_law 899 = .ok (.invokestatic 141, 3) := by decide +kernel
theorem d_L_law_902 : decode cL_law 902 = .ok (.istore 5, 2) := by decide +kernel
theorem d_L_law_904 : decode cL_law 904 = .ok (.aload_n 2, 1) := by decide +kernel
theorem d_L_law_905 : decode cL_law 905 = .ok (.aload_n 0, 1) := by decide +kernel
theorem d_L_law_906 : decode cL_law 906 = .ok (.iload 4, 2) := by decide +kernel
theorem d_L_law_908 : decode cL_law 908 = .ok (.iconst 1, 1) := by decide +kernel
theorem d_L_law_909 : decode cL_law 909 = .ok (.iadd, 1) := by decide +kernel
theorem d_L_law_910 : decode cL_law 910 = .ok (.iaload, 1) := by decide +kernel
theorem d_L_law_911 : decode cL_law 911 = .ok (.aload_n 0, 1) := by decide +kernel
theorem d_L_law_912 : decode cL_law 912 = .ok (.iload 4, 2) := by decide +kernel
theorem d_L_law_914 : decode cL_law 914 = .ok (.iconst 2, 1) := by decide +kernel
theorem d_L_law_915 : decode cL_law 915 = .ok (.iadd, 1) := by decide +kernel
theorem d_L_law_916 : decode cL_law 916 = .ok (.iaload, 1) := by decide +kernel
theorem d_L_law_917 : decode cL_law 917 = .ok (.invokevirtual 143, 3) := by decide +kernel
theorem d_L_law_920 : decode cL_law 920 = .ok (.istore 6, 2) := by decide +kernel
theorem d_L_law_922 : decode cL_law 922 = .ok (.aload_n 2, 1) := by decide +kernel
theorem d_L_law_923 : decode cL_law 923 = .ok (.invokevirtual 106, 3) := by decide +kernel
theorem d_L_law_926 : decode cL_law 926 = .ok (.iload 5, 2) := by decide +kernel
theorem d_L_law_928 : decode cL_law 928 = .ok (.if_icmp .eq 5, 3) := by decide +kernel
theorem d_L_law_931 : decode cL_law 931 = .ok (.iconst 0, 1) := by decide +kernel
theorem d_L_law_932 : decode cL_law 932 = .ok (.ireturn, 1) := by decide +kernel
theorem d_L_law_933 : decode cL_law 933 = .ok (.iload 5, 2) := by decide +kernel
theorem d_L_law_935 : decode cL_law 935 = .ok (.ifCond .ne 15, 3) := by decide +kernel
theorem d_L_law_938 : decode cL_law 938 = .ok (.aload_n 3, 1) := by decide +kernel
theorem d_L_law_939 : decode cL_law 939 = .ok (.iconst 0, 1) := by decide +kernel
theorem d_L_law_940 : decode cL_law 940 = .ok (.laload, 1) := by decide +kernel
theorem d_L_law_941 : decode cL_law 941 = .ok (.iload 6, 2) := by decide +kernel
theorem d_L_law_943 : decode cL_law 943 = .ok (.i2l, 1) := by decide +kernel
theorem d_L_law_944 : decode cL_law 944 = .ok (.lcmp, 1) := by decide +kernel
theorem d_L_law_945 : decode cL_law 945 = .ok (.ifCond .eq 5, 3) := by decide +kernel
theorem d_L_law_948 : decode cL_law 948 = .ok (.iconst 0, 1) := by decide +kernel
theorem d_L_law_949 : decode cL_law 949 = .ok (.ireturn, 1) := by decide +kernel
theorem d_L_law_950 : decode cL_law 950 = .ok (.goto 948, 3) := by decide +kernel
theorem d_L_law_953 : decode cL_law 953 = .ok (.aload_n 1, 1) := by decide +kernel
theorem d_L_law_954 : decode cL_law 954 = .ok (.aload_n 0, 1) := by decide +kernel
theorem d_L_law_955 : decode cL_law 955 = .ok (.iload 4, 2) := by decide +kernel
theorem d_L_law_957 : decode cL_law 957 = .ok (.iconst 1, 1) := by decide +kernel
theorem d_L_law_958 : decode cL_law 958 = .ok (.iadd, 1) := by decide +kernel
theorem d_L_law_959 : decode cL_law 959 = .ok (.iaload, 1) := by decide +kernel
theorem d_L_law_960 : decode cL_law 960 = .ok (.aload_n 0, 1) := by decide +kernel
theorem d_L_law_961 : decode cL_law 961 = .ok (.iload 4, 2) := by decide +kernel
theorem d_L_law_963 : decode cL_law 963 = .ok (.iconst 2, 1) := by decide +kernel
theorem d_L_law_964 : decode cL_law 964 = .ok (.iadd, 1) := by decide +kernel
theorem d_L_law_965 : decode cL_law 965 = .ok (.iaload, 1) := by decide +kernel
theorem d_L_law_966 : decode cL_law 966 = .ok (.aload_n 3, 1) := by decide +kernel
theorem d_L_law_967 : decode cL_law 967 = .ok (.invokestatic 144, 3) := by decide +kernel
theorem d_L_law_970 : decode cL_law 970 = .ok (.istore 5, 2) := by decide +kernel
theorem d_L_law_972 : decode cL_law 972 = .ok (.aload_n 2, 1) := by decide +kernel
theorem d_L_law_973 : decode cL_law 973 = .ok (.aload_n 0, 1) := by decide +kernel
theorem d_L_law_974 : decode cL_law 974 = .ok (.iload 4, 2) := by decide +kernel
theorem d_L_law_976 : decode cL_law 976 = .ok (.iconst 1, 1) := by decide +kernel
theorem d_L_law_977 : decode cL_law 977 = .ok (.iadd, 1) := by decide +kernel
theorem d_L_law_978 : decode cL_law 978 = .ok (.iaload, 1) := by decide +kernel
theorem d_L_law_979 : decode cL_law 979 = .ok (.aload_n 0, 1) := by decide +kernel
theorem d_L_law_980 : decode cL_law 980 = .ok (.iload 4, 2) := by decide +kernel
theorem d_L_law_982 : decode cL_law 982 = .ok (.iconst 2, 1) := by decide +kernel
theorem d_L_law_983 : decode cL_law 983 = .ok (.iadd, 1) := by decide +kernel
theorem d_L_law_984 : decode cL_law 984 = .ok (.iaload, 1) := by decide +kernel
theorem d_L_law_985 : decode cL_law 985 = .ok (.invokevirtual 146, 3) := by decide +kernel
theorem d_L_law_988 : decode cL_law 988 = .ok (.lstore 6, 2) := by decide +kernel
theorem d_L_law_990 : decode cL_law 990 = .ok (.aload_n 2, 1) := by decide +kernel
theorem d_L_law_991 : decode cL_law 991 = .ok (.invokevirtual 106, 3) := by decide +kernel
theorem d_L_law_994 : decode cL_law 994 = .ok (.iload 5, 2) := by decide +kernel
theorem d_L_law_996 : decode cL_law 996 = .ok (.if_icmp .eq 5, 3) := by decide +kernel
theorem d_L_law_999 : decode cL_law 999 = .ok (.iconst 0, 1) := by decide +kernel
theorem d_L_law_1000 : decode cL_law 1000 = .ok (.ireturn, 1) := by decide +kernel
theorem d_L_law_1001 : decode cL_law 1001 = .ok (.iload 5, 2) := by decide +kernel
theorem d_L_law_1003 : decode cL_law 1003 = .ok (.ifCond .ne 14, 3) := by decide +kernel
theorem d_L_law_1006 : decode cL_law 1006 = .ok (.aload_n 3, 1) := by decide +kernel
theorem d_L_law_1007 : decode cL_law 1007 = .ok (.iconst 0, 1) := by decide +kernel
theorem d_L_law_1008 : decode cL_law 1008 = .ok (.laload, 1) := by decide +kernel
theorem d_L_law_1009 : decode cL_law 1009 = .ok (.lload 6, 2) := by decide +kernel
theorem d_L_law_1011 : decode cL_law 1011 = .ok (.lcmp, 1) := by decide +kernel
theorem d_L_law_1012 : decode cL_law 1012 = .ok (.ifCond .eq 5, 3) := by decide +kernel
theorem d_L_law_1015 : decode cL_law 1015 = .ok (.iconst 0, 1) := by decide +kernel
theorem d_L_law_1016 : decode cL_law 1016 = .ok (.ireturn, 1) := by decide +kernel
theorem d_L_law_1017 : decode cL_law 1017 = .ok (.goto 881, 3) := by decide +kernel
theorem d_L_law_1020 : decode cL_law 1020 = .ok (.aload_n 1, 1) := by decide +kernel
theorem d_L_law_1021 : decode cL_law 1021 = .ok (.aload_n 0, 1) := by decide +kernel
theorem d_L_law_1022 : decode cL_law 1022 = .ok (.iload 4, 2) := by decide +kernel
theorem d_L_law_1024 : decode cL_law 1024 = .ok (.iconst 1, 1) := by decide +kernel
theorem d_L_law_1025 : decode cL_law 1025 = .ok (.iadd, 1) := by decide +kernel
theorem d_L_law_1026 : decode cL_law 1026 = .ok (.iaload, 1) := by decide +kernel
theorem d_L_law_1027 : decode cL_law 1027 = .ok (.aload_n 0, 1) := by decide +kernel
theorem d_L_law_1028 : decode cL_law 1028 = .ok (.iload 4, 2) := by decide +kernel
theorem d_L_law_1030 : decode cL_law 1030 = .ok (.iconst 2, 1) := by decide +kernel
theorem d_L_law_1031 : decode cL_law 1031 = .ok (.iadd, 1) := by decide +kernel
theorem d_L_law_1032 : decode cL_law 1032 = .ok (.iaload, 1) := by decide +kernel
theorem d_L_law_1033 : decode cL_law 1033 = .ok (.aload_n 3, 1) := by decide +kernel
theorem d_L_law_1034 : decode cL_law 1034 = .ok (.invokestatic 147, 3) := by decide +kernel
theorem d_L_law_1037 : decode cL_law 1037 = .ok (.istore 5, 2) := by decide +kernel
theorem d_L_law_1039 : decode cL_law 1039 = .ok (.aload_n 2, 1) := by decide +kernel
theorem d_L_law_1040 : decode cL_law 1040 = .ok (.aload_n 0, 1) := by decide +kernel
theorem d_L_law_1041 : decode cL_law 1041 = .ok (.iload 4, 2) := by decide +kernel
theorem d_L_law_1043 : decode cL_law 1043 = .ok (.iconst 1, 1) := by decide +kernel
theorem d_L_law_1044 : decode cL_law 1044 = .ok (.iadd, 1) := by decide +kernel
theorem d_L_law_1045 : decode cL_law 1045 = .ok (.iaload, 1) := by decide +kernel
theorem d_L_law_1046 : decode cL_law 1046 = .ok (.aload_n 0, 1) := by decide +kernel
theorem d_L_law_1047 : decode cL_law 1047 = .ok (.iload 4, 2) := by decide +kernel
theorem d_L_law_1049 : decode cL_law 1049 = .ok (.iconst 2, 1) := by decide +kernel
theorem d_L_law_1050 : decode cL_law 1050 = .ok (.iadd, 1) := by decide +kernel
theorem d_L_law_1051 : decode cL_law 1051 = .ok (.iaload, 1) := by decide +kernel
theorem d_L_law_1052 : decode cL_law 1052 = .ok (.invokevirtual 149, 3) := by decide +kernel
theorem d_L_law_1055 : decode cL_law 1055 = .ok (.istore 6, 2) := by decide +kernel
theorem d_L_law_1057 : decode cL_law 1057 = .ok (.aload_n 2, 1) := by decide +kernel
theorem d_L_law_1058 : decode cL_law 1058 = .ok (.invokevirtual 106, 3) := by decide +kernel
theorem d_L_law_1061 : decode cL_law 1061 = .ok (.iload 5, 2) := by decide +kernel
theorem d_L_law_1063 : decode cL_law 1063 = .ok (.if_icmp .eq 5, 3) := by decide +kernel
theorem d_L_law_1066 : decode cL_law 1066 = .ok (.iconst 0, 1) := by decide +kernel
theorem d_L_law_1067 : decode cL_law 1067 = .ok (.ireturn, 1) := by decide +kernel
theorem d_L_law_1068 : decode cL_law 1068 = .ok (.iload 5, 2) := by decide +kernel
theorem d_L_law_1070 : decode cL_law 1070 = .ok (.ifCond .ne 15, 3) := by decide +kernel
theorem d_L_law_1073 : decode cL_law 1073 = .ok (.aload_n 3, 1) := by decide +kernel
theorem d_L_law_1074 : decode cL_law 1074 = .ok (.iconst 0, 1) := by decide +kernel
theorem d_L_law_1075 : decode cL_law 1075 = .ok (.laload, 1) := by decide +kernel
theorem d_L_law_1076 : decode cL_law 1076 = .ok (.iload 6, 2) := by decide +kernel
theorem d_L_law_1078 : decode cL_law 1078 = .ok (.i2l, 1) := by decide +kernel
theorem d_L_law_1079 : decode cL_law 1079 = .ok (.lcmp, 1) := by decide +kernel
theorem d_L_law_1080 : decode cL_law 1080 = .ok (.ifCond .eq 5, 3) := by decide +kernel
theorem d_L_law_1083 : decode cL_law 1083 = .ok (.iconst 0, 1) := by decide +kernel
theorem d_L_law_1084 : decode cL_law 1084 = .ok (.ireturn, 1) := by decide +kernel
theorem d_L_law_1085 : decode cL_law 1085 = .ok (.goto 813, 3) := by decide +kernel
theorem d_L_law_1088 : decode cL_law 1088 = .ok (.aload_n 1, 1) := by decide +kernel
theorem d_L_law_1089 : decode cL_law 1089 = .ok (.invokevirtual 150, 3) := by decide +kernel
theorem d_L_law_1092 : decode cL_law 1092 = .ok (.aload_n 2, 1) := by decide +kernel
theorem d_L_law_1093 : decode cL_law 1093 = .ok (.invokevirtual 154, 3) := by decide +kernel
theorem d_L_law_1096 : decode cL_law 1096 = .ok (.lcmp, 1) := by decide +kernel
theorem d_L_law_1097 : decode cL_law 1097 = .ok (.ifCond .eq 801, 3) := by decide +kernel
theorem d_L_law_1100 : decode cL_law 1100 = .ok (.iconst 0, 1) := by decide +kernel
theorem d_L_law_1101 : decode cL_law 1101 = .ok (.ireturn, 1) := by decide +kernel
theorem d_L_law_1102 : decode cL_law 1102 = .ok (.aload_n 1, 1) := by decide +kernel
theorem d_L_law_1103 : decode cL_law 1103 = .ok (.aload_n 0, 1) := by decide +kernel
theorem d_L_law_1104 : decode cL_law 1104 = .ok (.iload 4, 2) := by decide +kernel
theorem d_L_law_1106 : decode cL_law 1106 = .ok (.iconst 1, 1) := by decide +kernel
theorem d_L_law_1107 : decode cL_law 1107 = .ok (.iadd, 1) := by decide +kernel
theorem d_L_law_1108 : decode cL_law 1108 = .ok (.iaload, 1) := by decide +kernel
theorem d_L_law_1109 : decode cL_law 1109 = .ok (.aload_n 0, 1) := by decide +kernel
theorem d_L_law_1110 : decode cL_law 1110 = .ok (.iload 4, 2) := by decide +kernel
theorem d_L_law_1112 : decode cL_law 1112 = .ok (.iconst 2, 1) := by decide +kernel
theorem d_L_law_1113 : decode cL_law 1113 = .ok (.iadd, 1) := by decide +kernel
theorem d_L_law_1114 : decode cL_law 1114 = .ok (.iaload, 1) := by decide +kernel
theorem d_L_law_1115 : decode cL_law 1115 = .ok (.aload_n 0, 1) := by decide +kernel
theorem d_L_law_1116 : decode cL_law 1116 = .ok (.iload 4, 2) := by decide +kernel
theorem d_L_law_1118 : decode cL_law 1118 = .ok (.iconst 3, 1) := by decide +kernel
theorem d_L_law_1119 : decode cL_law 1119 = .ok (.iadd, 1) := by decide +kernel
theorem d_L_law_1120 : decode cL_law 1120 = .ok (.iaload, 1) := by decide +kernel
theorem d_L_law_1121 : decode cL_law 1121 = .ok (.aload_n 0, 1) := by decide +kernel
theorem d_L_law_1122 : decode cL_law 1122 = .ok (.iload 4, 2) := by decide +kernel
theorem d_L_law_1124 : decode cL_law 1124 = .ok (.iconst 4, 1) := by decide +kernel
theorem d_L_law_1125 : decode cL_law 1125 = .ok (.iadd, 1) := by decide +kernel
theorem d_L_law_1126 : decode cL_law 1126 = .ok (.iaload, 1) := by decide +kernel
theorem d_L_law_1127 : decode cL_law 1127 = .ok (.aload_n 3, 1) := by decide +kernel
theorem d_L_law_1128 : decode cL_law 1128 = .ok (.invokestatic 155, 3) := by decide +kernel
theorem d_L_law_1131 : decode cL_law 1131 = .ok (.istore 5, 2) := by decide +kernel
theorem d_L_law_1133 : decode cL_law 1133 = .ok (.aload_n 2, 1) := by decide +kernel
theorem d_L_law_1134 : decode cL_law 1134 = .ok (.aload_n 0, 1) := by decide +kernel
theorem d_L_law_1135 : decode cL_law 1135 = .ok (.iload 4, 2) := by decide +kernel
theorem d_L_law_1137 : decode cL_law 1137 = .ok (.iconst 1, 1) := by decide +kernel
theorem d_L_law_1138 : decode cL_law 1138 = .ok (.iadd, 1) := by decide +kernel
theorem d_L_law_1139 : decode cL_law 1139 = .ok (.iaload, 1) := by decide +kernel
theorem d_L_law_1140 : decode cL_law 1140 = .ok (.aload_n 0, 1) := by decide +kernel
theorem d_L_law_1141 : decode cL_law 1141 = .ok (.iload 4, 2) := by decide +kernel
theorem d_L_law_1143 : decode cL_law 1143 = .ok (.iconst 2, 1) := by decide +kernel
theorem d_L_law_1144 : decode cL_law 1144 = .ok (.iadd, 1) := by decide +kernel
theorem d_L_law_1145 : decode cL_law 1145 = .ok (.iaload, 1) := by decide +kernel
theorem d_L_law_1146 : decode cL_law 1146 = .ok (.aload_n 0, 1) := by decide +kernel
theorem d_L_law_1147 : decode cL_law 1147 = .ok (.iload 4, 2) := by decide +kernel
theorem d_L_law_1149 : decode cL_law 1149 = .ok (.iconst 3, 1) := by decide +kernel
theorem d_L_law_1150 : decode cL_law 1150 = .ok (.iadd, 1) := by decide +kernel
theorem d_L_law_1151 : decode cL_law 1151 = .ok (.iaload, 1) := by decide +kernel
theorem d_L_law_1152 : decode cL_law 1152 = .ok (.aload_n 0, 1) := by decide +kernel
theorem d_L_law_1153 : decode cL_law 1153 = .ok (.iload 4, 2) := by decide +kernel
theorem d_L_law_1155 : decode cL_law 1155 = .ok (.iconst 4, 1) := by decide +kernel
theorem d_L_law_1156 : decode cL_law 1156 = .ok (.iadd, 1) := by decide +kernel
theorem d_L_law_1157 : decode cL_law 1157 = .ok (.iaload, 1) := by decide +kernel
theorem d_L_law_1158 : decode cL_law 1158 = .ok (.invokevirtual 157, 3) := by decide +kernel
theorem d_L_law_1161 : decode cL_law 1161 = .ok (.istore 6, 2) := by decide +kernel
theorem d_L_law_1163 : decode cL_law 1163 = .ok (.aload_n 2, 1) := by decide +kernel
theorem d_L_law_1164 : decode cL_law 1164 = .ok (.invokevirtual 106, 3) := by decide +kernel
theorem d_L_law_1167 : decode cL_law 1167 = .ok (.iload 5, 2) := by decide +kernel
theorem d_L_law_1169 : decode cL_law 1169 = .ok (.if_icmp .eq 5, 3) := by decide +kernel
theorem d_L_law_1172 : decode cL_law 1172 = .ok (.iconst 0, 1) := by decide +kernel
theorem d_L_law_1173 : decode cL_law 1173 = .ok (.ireturn, 1) := by decide +kernel
theorem d_L_law_1174 : decode cL_law 1174 = .ok (.iload 5, 2) := by decide +kernel
theorem d_L_law_1176 : decode cL_law 1176 = .ok (.ifCond .ne 15, 3) := by decide +kernel
theorem d_L_law_1179 : decode cL_law 1179 = .ok (.aload_n 3, 1) := by decide +kernel
theorem d_L_law_1180 : decode cL_law 1180 = .ok (.iconst 0, 1) := by decide +kernel
theorem d_L_law_1181 : decode cL_law 1181 = .ok (.laload, 1) := by decide +kernel
theorem d_L_law_1182 : decode cL_law 1182 = .ok (.iload 6, 2) := by decide +kernel
theorem d_L_law_1184 : decode cL_law 1184 = .ok (.i2l, 1) := by decide +kernel
theorem d_L_law_1185 : decode cL_law 1185 = .ok (.lcmp, 1) := by decide +kernel
theorem d_L_law_1186 : decode cL_law 1186 = .ok (.ifCond .eq 5, 3) := by decide +kernel
theorem d_L_law_1189 : decode cL_law 1189 = .ok (.iconst 0, 1) := by decide +kernel
theorem d_L_law_1190 : decode cL_law 1190 = .ok (.ireturn, 1) := by decide +kernel
theorem d_L_law_1191 : decode cL_law 1191 = .ok (.goto 707, 3) := by decide +kernel
theorem d_L_law_1194 : decode cL_law 1194 = .ok (.aload_n 1, 1) := by decide +kernel
theorem d_L_law_1195 : decode cL_law 1195 = .ok (.aload_n 0, 1) := by decide +kernel
theorem d_L_law_1196 : decode cL_law 1196 = .ok (.iload 4, 2) := by decide +kernel
theorem d_L_law_1198 : decode cL_law 1198 = .ok (.iconst 1, 1) := by decide +kernel
theorem d_L_law_1199 : decode cL_law 1199 = .ok (.iadd, 1) := by decide +kernel
theorem d_L_law_1200 : decode cL_law 1200 = .ok (.iaload, 1) := by decide +kernel
theorem d_L_law_1201 : decode cL_law 1201 = .ok (.aload_n 3, 1) := by decide +kernel
theorem d_L_law_1202 : decode cL_law 1202 = .ok (.invokestatic 158, 3) := by decide +kernel
theorem d_L_law_1205 : decode cL_law 1205 = .ok (.istore 5, 2) := by decide +kernel
theorem d_L_law_1207 : decode cL_law 1207 = .ok (.aload_n 2, 1) := by decide +kernel
theorem d_L_law_1208 : decode cL_law 1208 = .ok (.aload_n 0, 1) := by decide +kernel
theorem d_L_law_1209 : decode cL_law 1209 = .ok (.iload 4, 2) := by decide +kernel
theorem d_L_law_1211 : decode cL_law 1211 = .ok (.iconst 1, 1) := by decide +kernel
theorem d_L_law_1212 : decode cL_law 1212 = .ok (.iadd, 1) := by decide +kernel
theorem d_L_law_1213 : decode cL_law 1213 = .ok (.iaload, 1) := by decide +kernel
theorem d_L_law_1214 : decode cL_law 1214 = .ok (.invokevirtual 160, 3) := by decide +kernel
theorem d_L_law_1217 : decode cL_law 1217 = .ok (.lstore 6, 2) := by decide +kernel
theorem d_L_law_1219 : decode cL_law 1219 = .ok (.aload_n 2, 1) := by decide +kernel
theorem d_L_law_1220 : decode cL_law 1220 = .ok (.invokevirtual 106, 3) := by decide +kernel
theorem d_L_law_1223 : decode cL_law 1223 = .ok (.iload 5, 2) := by decide +kernel
theorem d_L_law_1225 : decode cL_law 1225 = .ok (.if_icmp .eq 5, 3) := by decide +kernel
theorem d_L_law_1228 : decode cL_law 1228 = .ok (.iconst 0, 1) := by decide +kernel
theorem d_L_law_1229 : decode cL_law 1229 = .ok (.ireturn, 1) := by decide +kernel
theorem d_L_law_1230 : decode cL_law 1230 = .ok (.iload 5, 2) := by decide +kernel
theorem d_L_law_1232 : decode cL_law 1232 = .ok (.ifCond .ne 14, 3) := by decide +kernel
theorem d_L_law_1235 : decode cL_law 1235 = .ok (.aload_n 3, 1) := by decide +kernel
theorem d_L_law_1236 : decode cL_law 1236 = .ok (.iconst 0, 1) := by decide +kernel
theorem d_L_law_1237 : decode cL_law 1237 = .ok (.laload, 1) := by decide +kernel
theorem d_L_law_1238 : decode cL_law 1238 = .ok (.lload 6, 2) := by decide +kernel
theorem d_L_law_1240 : decode cL_law 1240 = .ok (.lcmp, 1) := by decide +kernel
theorem d_L_law_1241 : decode cL_law 1241 = .ok (.ifCond .eq 5, 3) := by decide +kernel
theorem d_L_law_1244 : decode cL_law 1244 = .ok (.iconst 0, 1) := by decide +kernel
theorem d_L_law_1245 : decode cL_law 1245 = .ok (.ireturn, 1) := by decide +kernel
theorem d_L_law_1246 : decode cL_law 1246 = .ok (.goto 652, 3) := by decide +kernel
theorem d_L_law_1249 : decode cL_law 1249 = .ok (.aload_n 1, 1) := by decide +kernel
theorem d_L_law_1250 : decode cL_law 1250 = .ok (.aload_n 0, 1) := by decide +kernel
theorem d_L_law_1251 : decode cL_law 1251 = .ok (.iload 4, 2) := by decide +kernel
theorem d_L_law_1253 : decode cL_law 1253 = .ok (.iconst 1, 1) := by decide +kernel
theorem d_L_law_1254 : decode cL_law 1254 = .ok (.iadd, 1) := by decide +kernel
theorem d_L_law_1255 : decode cL_law 1255 = .ok (.iaload, 1) := by decide +kernel
theorem d_L_law_1256 : decode cL_law 1256 = .ok (.aload_n 0, 1) := by decide +kernel
theorem d_L_law_1257 : decode cL_law 1257 = .ok (.iload 4, 2) := by decide +kernel
theorem d_L_law_1259 : decode cL_law 1259 = .ok (.iconst 2, 1) := by decide +kernel
theorem d_L_law_1260 : decode cL_law 1260 = .ok (.iadd, 1) := by decide +kernel
theorem d_L_law_1261 : decode cL_law 1261 = .ok (.iaload, 1) := by decide +kernel
theorem d_L_law_1262 : decode cL_law 1262 = .ok (.aload_n 3, 1) := by decide +kernel
theorem d_L_law_1263 : decode cL_law 1263 = .ok (.invokestatic 161, 3) := by decide +kernel
theorem d_L_law_1266 : decode cL_law 1266 = .ok (.istore 5, 2) := by decide +kernel
theorem d_L_law_1268 : decode cL_law 1268 = .ok (.aload_n 2, 1) := by decide +kernel
theorem d_L_law_1269 : decode cL_law 1269 = .ok (.aload_n 0, 1) := by decide +kernel
theorem d_L_law_1270 : decode cL_law 1270 = .ok (.iload 4, 2) := by decide +kernel
theorem d_L_law_1272 : decode cL_law 1272 = .ok (.iconst 1, 1) := by decide +kernel
theorem d_L_law_1273 : decode cL_law 1273 = .ok (.iadd, 1) := by decide +kernel
theorem d_L_law_1274 : decode cL_law 1274 = .ok (.iaload, 1) := by decide +kernel
theorem d_L_law_1275 : decode cL_law 1275 = .ok (.aload_n 0, 1) := by decide +kernel
theorem d_L_law_1276 : decode cL_law 1276 = .ok (.iload 4, 2) := by decide +kernel
theorem d_L_law_1278 : decode cL_law 1278 = .ok (.iconst 2, 1) := by decide +kernel
theorem d_L_law_1279 : decode cL_law 1279 = .ok (.iadd, 1) := by decide +kernel
theorem d_L_law_1280 : decode cL_law 1280 = .ok (.iaload, 1) := by decide +kernel
theorem d_L_law_1281 : decode cL_law 1281 = .ok (.invokevirtual 163, 3) := by decide +kernel
theorem d_L_law_1284 : decode cL_law 1284 = .ok (.istore 6, 2) := by decide +kernel
theorem d_L_law_1286 : decode cL_law 1286 = .ok (.aload_n 2, 1) := by decide +kernel
theorem d_L_law_1287 : decode cL_law 1287 = .ok (.invokevirtual 106, 3) := by decide +kernel
theorem d_L_law_1290 : decode cL_law 1290 = .ok (.iload 5, 2) := by decide +kernel
theorem d_L_law_1292 : decode cL_law 1292 = .ok (.if_icmp .eq 5, 3) := by decide +kernel
theorem d_L_law_1295 : decode cL_law 1295 = .ok (.iconst 0, 1) := by decide +kernel
theorem d_L_law_1296 : decode cL_law 1296 = .ok (.ireturn, 1) := by decide +kernel
theorem d_L_law_1297 : decode cL_law 1297 = .ok (.iload 5, 2) := by decide +kernel
theorem d_L_law_1299 : decode cL_law 1299 = .ok (.ifCond .ne 15, 3) := by decide +kernel
theorem d_L_law_1302 : decode cL_law 1302 = .ok (.aload_n 3, 1) := by decide +kernel
theorem d_L_law_1303 : decode cL_law 1303 = .ok (.iconst 0, 1) := by decide +kernel
theorem d_L_law_1304 : decode cL_law 1304 = .ok (.laload, 1) := by decide +kernel
theorem d_L_law_1305 : decode cL_law 1305 = .ok (.iload 6, 2) := by decide +kernel
theorem d_L_law_1307 : decode cL_law 1307 = .ok (.i2l, 1) := by decide +kernel
theorem d_L_law_1308 : decode cL_law 1308 = .ok (.lcmp, 1) := by decide +kernel
theorem d_L_law_1309 : decode cL_law 1309 = .ok (.ifCond .eq 5, 3) := by decide +kernel
theorem d_L_law_1312 : decode cL_law 1312 = .ok (.iconst 0, 1) := by decide +kernel
theorem d_L_law_1313 : decode cL_law 1313 = .ok (.ireturn, 1) := by decide +kernel
theorem d_L_law_1314 : decode cL_law 1314 = .ok (.goto 584, 3) := by decide +kernel
theorem d_L_law_1317 : decode cL_law 1317 = .ok (.aload_n 1, 1) := by decide +kernel
theorem d_L_law_1318 : decode cL_law 1318 = .ok (.aload_n 0, 1) := by decide +kernel
theorem d_L_law_1319 : decode cL_law 1319 = .ok (.iload 4, 2) := by decide +kernel
theorem d_L_law_1321 : decode cL_law 1321 = .ok (.iconst 1, 1) := by decide +kernel
theorem d_L_law_1322 : decode cL_law 1322 = .ok (.iadd, 1) := by decide +kernel
theorem d_L_law_1323 : decode cL_law 1323 = .ok (.iaload, 1) := by decide +kernel
theorem d_L_law_1324 : decode cL_law 1324 = .ok (.aload_n 0, 1) := by decide +kernel
theorem d_L_law_1325 : decode cL_law 1325 = .ok (.iload 4, 2) := by decide +kernel
theorem d_L_law_1327 : decode cL_law 1327 = .ok (.iconst 2, 1) := by decide +kernel
theorem d_L_law_1328 : decode cL_law 1328 = .ok (.iadd, 1) := by decide +kernel
theorem d_L_law_1329 : decode cL_law 1329 = .ok (.iaload, 1) := by decide +kernel
theorem d_L_law_1330 : decode cL_law 1330 = .ok (.aload_n 0, 1) := by decide +kernel
theorem d_L_law_1331 : decode cL_law 1331 = .ok (.iload 4, 2) := by decide +kernel
theorem d_L_law_1333 : decode cL_law 1333 = .ok (.iconst 3, 1) := by decide +kernel
theorem d_L_law_1334 : decode cL_law 1334 = .ok (.iadd, 1) := by decide +kernel
theorem d_L_law_1335 : decode cL_law 1335 = .ok (.iaload, 1) := by decide +kernel
theorem d_L_law_1336 : decode cL_law 1336 = .ok (.aload_n 3, 1) := by decide +kernel
theorem d_L_law_1337 : decode cL_law 1337 = .ok (.invokestatic 164, 3) := by decide +kernel
theorem d_L_law_1340 : decode cL_law 1340 = .ok (.istore 5, 2) := by decide +kernel
theorem d_L_law_1342 : decode cL_law 1342 = .ok (.aload_n 2, 1) := by decide +kernel
theorem d_L_law_1343 : decode cL_law 1343 = .ok (.aload_n 0, 1) := by decide +kernel
theorem d_L_law_1344 : decode cL_law 1344 = .ok (.iload 4, 2) := by decide +kernel
theorem d_L_law_1346 : decode cL_law 1346 = .ok (.iconst 1, 1) := by decide +kernel
theorem d_L_law_1347 : decode cL_law 1347 = .ok (.iadd, 1) := by decide +kernel
theorem d_L_law_1348 : decode cL_law 1348 = .ok (.iaload, 1) := by decide +kernel
theorem d_L_law_1349 : decode cL_law 1349 = .ok (.aload_n 0, 1) := by decide +kernel
theorem d_L_law_1350 : decode cL_law 1350 = .ok (.iload 4, 2) := by decide +kernel
theorem d_L_law_1352 : decode cL_law 1352 = .ok (.iconst 2, 1) := by decide +kernel
theorem d_L_law_1353 : decode cL_law 1353 = .ok (.iadd, 1) := by decide +kernel
theorem d_L_law_1354 : decode cL_law 1354 = .ok (.iaload, 1) := by decide +kernel
theorem d_L_law_1355 : decode cL_law 1355 = .ok (.aload_n 0, 1) := by decide +kernel
theorem d_L_law_1356 : decode cL_law 1356 = .ok (.iload 4, 2) := by decide +kernel
theorem d_L_law_1358 : decode cL_law 1358 = .ok (.iconst 3, 1) := by decide +kernel
theorem d_L_law_1359 : decode cL_law 1359 = .ok (.iadd, 1) := by decide +kernel
theorem d_L_law_1360 : decode cL_law 1360 = .ok (.iaload, 1) := by decide +kernel
theorem d_L_law_1361 : decode cL_law 1361 = .ok (.invokevirtual 167, 3) := by decide +kernel
theorem d_L_law_1364 : decode cL_law 1364 = .ok (.istore 6, 2) := by decide +kernel
theorem d_L_law_1366 : decode cL_law 1366 = .ok (.aload_n 2, 1) := by decide +kernel
theorem d_L_law_1367 : decode cL_law 1367 = .ok (.invokevirtual 106, 3) := by decide +kernel
theorem d_L_law_1370 : decode cL_law 1370 = .ok (.iload 5, 2) := by decide +kernel
theorem d_L_law_1372 : decode cL_law 1372 = .ok (.if_icmp .eq 5, 3) := by decide +kernel
theorem d_L_law_1375 : decode cL_law 1375 = .ok (.iconst 0, 1) := by decide +kernel
theorem d_L_law_1376 : decode cL_law 1376 = .ok (.ireturn, 1) := by decide +kernel
theorem d_L_law_1377 : decode cL_law 1377 = .ok (.iload 5, 2) := by decide +kernel
theorem d_L_law_1379 : decode cL_law 1379 = .ok (.ifCond .ne 15, 3) := by decide +kernel
theorem d_L_law_1382 : decode cL_law 1382 = .ok (.aload_n 3, 1) := by decide +kernel
theorem d_L_law_1383 : decode cL_law 1383 = .ok (.iconst 0, 1) := by decide +kernel
theorem d_L_law_1384 : decode cL_law 1384 = .ok (.laload, 1) := by decide +kernel
theorem d_L_law_1385 : decode cL_law 1385 = .ok (.iload 6, 2) := by decide +kernel
theorem d_L_law_1387 : decode cL_law 1387 = .ok (.i2l, 1) := by decide +kernel
theorem d_L_law_1388 : decode cL_law 1388 = .ok (.lcmp, 1) := by decide +kernel
theorem d_L_law_1389 : decode cL_law 1389 = .ok (.ifCond .eq 5, 3) := by decide +kernel
theorem d_L_law_1392 : decode cL_law 1392 = .ok (.iconst 0, 1) := by decide +kernel
theorem d_L_law_1393 : decode cL_law 1393 = .ok (.ireturn, 1) := by decide +kernel
theorem d_L_law_1394 : decode cL_law 1394 = .ok (.goto 504, 3) := by decide +kernel
theorem d_L_law_1397 : decode cL_law 1397 = .ok (.aload_n 1, 1) := by decide +kernel
theorem d_L_law_1398 : decode cL_law 1398 = .ok (.aload_n 0, 1) := by decide +kernel
theorem d_L_law_1399 : decode cL_law 1399 = .ok (.iload 4, 2) := by decide +kernel
theorem d_L_law_1401 : decode cL_law 1401 = .ok (.iconst 1, 1) := by decide +kernel
theorem d_L_law_1402 : decode cL_law 1402 = .ok (.iadd, 1) := by decide +kernel
theorem d_L_law_1403 : decode cL_law 1403 = .ok (.iaload, 1) := by decide +kernel
theorem d_L_law_1404 : decode cL_law 1404 = .ok (.aload_n 3, 1) := by decide +kernel
theorem d_L_law_1405 : decode cL_law 1405 = .ok (.invokestatic 168, 3) := by decide +kernel
theorem d_L_law_1408 : decode cL_law 1408 = .ok (.istore 5, 2) := by decide +kernel
theorem d_L_law_1410 : decode cL_law 1410 = .ok (.aload_n 2, 1) := by decide +kernel
theorem d_L_law_1411 : decode cL_law 1411 = .ok (.aload_n 0, 1) := by decide +kernel
theorem d_L_law_1412 : decode cL_law 1412 = .ok (.iload 4, 2) := by decide +kernel
theorem d_L_law_1414 : decode cL_law 1414 = .ok (.iconst 1, 1) := by decide +kernel
theorem d_L_law_1415 : decode cL_law 1415 = .ok (.iadd, 1) := by decide +kernel
theorem d_L_law_1416 : decode cL_law 1416 = .ok (.iaload, 1) := by decide +kernel
theorem d_L_law_1417 : decode cL_law 1417 = .ok (.invokevirtual 170, 3) := by decide +kernel
theorem d_L_law_1420 : decode cL_law 1420 = .ok (.lstore 6, 2) := by decide +kernel
theorem d_L_law_1422 : decode cL_law 1422 = .ok (.aload_n 2, 1) := by decide +kernel
theorem d_L_law_1423 : decode cL_law 1423 = .ok (.invokevirtual 106, 3) := by decide +kernel
theorem d_L_law_1426 : decode cL_law 1426 = .ok (.iload 5, 2) := by decide +kernel
theorem d_L_law_1428 : decode cL_law 1428 = .ok (.if_icmp .eq 5, 3) := by decide +kernel
theorem d_L_law_1431 : decode cL_law 1431 = .ok (.iconst 0, 1) := by decide +kernel
theorem d_L_law_1432 : decode cL_law 1432 = .ok (.ireturn, 1) := by decide +kernel
theorem d_L_law_1433 : decode cL_law 1433 = .ok (.iload 5, 2) := by decide +kernel
theorem d_L_law_1435 : decode cL_law 1435 = .ok (.ifCond .ne 14, 3) := by decide +kernel
theorem d_L_law_1438 : decode cL_law 1438 = .ok (.aload_n 3, 1) := by decide +kernel
theorem d_L_law_1439 : decode cL_law 1439 = .ok (.iconst 0, 1) := by decide +kernel
theorem d_L_law_1440 : decode cL_law 1440 = .ok (.laload, 1) := by decide +kernel
theorem d_L_law_1441 : decode cL_law 1441 = .ok (.lload 6, 2) := by decide +kernel
theorem d_L_law_1443 : decode cL_law 1443 = .ok (.lcmp, 1) := by decide +kernel
theorem d_L_law_1444 : decode cL_law 1444 = .ok (.ifCond .eq 5, 3) := by decide +kernel
theorem d_L_law_1447 : decode cL_law 1447 = .ok (.iconst 0, 1) := by decide +kernel
theorem d_L_law_1448 : decode cL_law 1448 = .ok (.ireturn, 1) := by decide +kernel
theorem d_L_law_1449 : decode cL_law 1449 = .ok (.goto 449, 3) := by decide +kernel
theorem d_L_law_1452 : decode cL_law 1452 = .ok (.aload_n 1, 1) := by decide +kernel
theorem d_L_law_1453 : decode cL_law 1453 = .ok (.aload_n 0, 1) := by decide +kernel
theorem d_L_law_1454 : decode cL_law 1454 = .ok (.iload 4, 2) := by decide +kernel
theorem d_L_law_1456 : decode cL_law 1456 = .ok (.iconst 1, 1) := by decide +kernel
theorem d_L_law_1457 : decode cL_law 1457 = .ok (.iadd, 1) := by decide +kernel
theorem d_L_law_1458 : decode cL_law 1458 = .ok (.iaload, 1) := by decide +kernel
theorem d_L_law_1459 : decode cL_law 1459 = .ok (.aload_n 3, 1) := by decide +kernel
theorem d_L_law_1460 : decode cL_law 1460 = .ok (.invokestatic 171, 3) := by decide +kernel
theorem d_L_law_1463 : decode cL_law 1463 = .ok (.istore 5, 2) := by decide +kernel
theorem d_L_law_1465 : decode cL_law 1465 = .ok (.aload_n 2, 1) := by decide +kernel
theorem d_L_law_1466 : decode cL_law 1466 = .ok (.aload_n 0, 1) := by decide +kernel
theorem d_L_law_1467 : decode cL_law 1467 = .ok (.iload 4, 2) := by decide +kernel
theorem d_L_law_1469 : decode cL_law 1469 = .ok (.iconst 1, 1) := by decide +kernel
theorem d_L_law_1470 : decode cL_law 1470 = .ok (.iadd, 1) := by decide +kernel
theorem d_L_law_1471 : decode cL_law 1471 = .ok (.iaload, 1) := by decide +kernel
theorem d_L_law_1472 : decode cL_law 1472 = .ok (.invokevirtual 173, 3) := by decide +kernel
theorem d_L_law_1475 : decode cL_law 1475 = .ok (.istore 6, 2) := by decide +kernel
theorem d_L_law_1477 : decode cL_law 1477 = .ok (.aload_n 2, 1) := by decide +kernel
theorem d_L_law_1478 : decode cL_law 1478 = .ok (.invokevirtual 106, 3) := by decide +kernel
theorem d_L_law_1481 : decode cL_law 1481 = .ok (.iload 5, 2) := by decide +kernel
theorem d_L_law_1483 : decode cL_law 1483 = .ok (.if_icmp .eq 5, 3) := by decide +kernel
theorem d_L_law_1486 : decode cL_law 1486 = .ok (.iconst 0, 1) := by decide +kernel
theorem d_L_law_1487 : decode cL_law 1487 = .ok (.ireturn, 1) := by decide +kernel
theorem d_L_law_1488 : decode cL_law 1488 = .ok (.iload 5, 2) := by decide +kernel
theorem d_L_law_1490 : decode cL_law 1490 = .ok (.ifCond .ne 15, 3) := by decide +kernel
theorem d_L_law_1493 : decode cL_law 1493 = .ok (.aload_n 3, 1) := by decide +kernel
theorem d_L_law_1494 : decode cL_law 1494 = .ok (.iconst 0, 1) := by decide +kernel
theorem d_L_law_1495 : decode cL_law 1495 = .ok (.laload, 1) := by decide +kernel
theorem d_L_law_1496 : decode cL_law 1496 = .ok (.iload 6, 2) := by decide +kernel
theorem d_L_law_1498 : decode cL_law 1498 = .ok (.i2l, 1) := by decide +kernel
theorem d_L_law_1499 : decode cL_law 1499 = .ok (.lcmp, 1) := by decide +kernel
theorem d_L_law_1500 : decode cL_law 1500 = .ok (.ifCond .eq 5, 3) := by decide +kernel
theorem d_L_law_1503 : decode cL_law 1503 = .ok (.iconst 0, 1) := by decide +kernel
theorem d_L_law_1504 : decode cL_law 1504 = .ok (.ireturn, 1) := by decide +kernel
theorem d_L_law_1505 : decode cL_law 1505 = .ok (.goto 393, 3) := by decide +kernel
theorem d_L_law_1508 : decode cL_law 1508 = .ok (.aload_n 1, 1) := by decide +kernel
theorem d_L_law_1509 : decode cL_law 1509 = .ok (.aload_n 0, 1) := by decide +kernel
theorem d_L_law_1510 : decode cL_law 1510 = .ok (.iload 4, 2) := by decide +kernel
theorem d_L_law_1512 : decode cL_law 1512 = .ok (.iconst 1, 1) := by decide +kernel
theorem d_L_law_1513 : decode cL_law 1513 = .ok (.iadd, 1) := by decide +kernel
theorem d_L_law_1514 : decode cL_law 1514 = .ok (.iaload, 1) := by decide +kernel
theorem d_L_law_1515 : decode cL_law 1515 = .ok (.aload_n 0, 1) := by decide +kernel
theorem d_L_law_1516 : decode cL_law 1516 = .ok (.iload 4, 2) := by decide +kernel
theorem d_L_law_1518 : decode cL_law 1518 = .ok (.iconst 2, 1) := by decide +kernel
theorem d_L_law_1519 : decode cL_law 1519 = .ok (.iadd, 1) := by decide +kernel
theorem d_L_law_1520 : decode cL_law 1520 = .ok (.iaload, 1) := by decide +kernel
theorem d_L_law_1521 : decode cL_law 1521 = .ok (.aload_n 0, 1) := by decide +kernel
theorem d_L_law_1522 : decode cL_law 1522 = .ok (.iload 4, 2) := by decide +kernel
theorem d_L_law_1524 : decode cL_law 1524 = .ok (.iconst 3, 1) := by decide +kernel
theorem d_L_law_1525 : decode cL_law 1525 = .ok (.iadd, 1) := by decide +kernel
theorem d_L_law_1526 : decode cL_law 1526 = .ok (.iaload, 1) := by decide +kernel
theorem d_L_law_1527 : decode cL_law 1527 = .ok (.aload_n 3, 1) := by decide +kernel
theorem d_L_law_1528 : decode cL_law 1528 = .ok (.invokestatic 174, 3) := by decide +kernel
theorem d_L_law_1531 : decode cL_law 1531 = .ok (.istore 5, 2) := by decide +kernel
theorem d_L_law_1533 : decode cL_law 1533 = .ok (.aload_n 2, 1) := by decide +kernel
theorem d_L_law_1534 : decode cL_law 1534 = .ok (.aload_n 0, 1) := by decide +kernel
theorem d_L_law_1535 : decode cL_law 1535 = .ok (.iload 4, 2) := by decide +kernel
theorem d_L_law_1537 : decode cL_law 1537 = .ok (.iconst 1, 1) := by decide +kernel
theorem d_L_law_1538 : decode cL_law 1538 = .ok (.iadd, 1) := by decide +kernel
theorem d_L_law_1539 : decode cL_law 1539 = .ok (.iaload, 1) := by decide +kernel
theorem d_L_law_1540 : decode cL_law 1540 = .ok (.aload_n 0, 1) := by decide +kernel
theorem d_L_law_1541 : decode cL_law 1541 = .ok (.iload 4, 2) := by decide +kernel
theorem d_L_law_1543 : decode cL_law 1543 = .ok (.iconst 2, 1) := by decide +kernel
theorem d_L_law_1544 : decode cL_law 1544 = .ok (.iadd, 1) := by decide +kernel
theorem d_L_law_1545 : decode cL_law 1545 = .ok (.iaload, 1) := by decide +kernel
theorem d_L_law_1546 : decode cL_law 1546 = .ok (.aload_n 0, 1) := by decide +kernel
theorem d_L_law_1547 : decode cL_law 1547 = .ok (.iload 4, 2) := by decide +kernel
theorem d_L_law_1549 : decode cL_law 1549 = .ok (.iconst 3, 1) := by decide +kernel
theorem d_L_law_1550 : decode cL_law 1550 = .ok (.iadd, 1) := by decide +kernel
theorem d_L_law_1551 : decode cL_law 1551 = .ok (.iaload, 1) := by decide +kernel
theorem d_L_law_1552 : decode cL_law 1552 = .ok (.invokevirtual 176, 3) := by decide +kernel
theorem d_L_law_1555 : decode cL_law 1555 = .ok (.lstore 6, 2) := by decide +kernel
theorem d_L_law_1557 : decode cL_law 1557 = .ok (.aload_n 2, 1) := by decide +kernel
theorem d_L_law_1558 : decode cL_law 1558 = .ok (.invokevirtual 106, 3) := by decide +kernel
theorem d_L_law_1561 : decode cL_law 1561 = .ok (.iload 5, 2) := by decide +kernel
theorem d_L_law_1563 : decode cL_law 1563 = .ok (.if_icmp .eq 5, 3) := by decide +kernel
theorem d_L_law_1566 : decode cL_law 1566 = .ok (.iconst 0, 1) := by decide +kernel
theorem d_L_law_1567 : decode cL_law 1567 = .ok (.ireturn, 1) := by decide +kernel
theorem d_L_law_1568 : decode cL_law 1568 = .ok (.iload 5, 2) := by decide +kernel
theorem d_L_law_1570 : decode cL_law 1570 = .ok (.ifCond .ne 14, 3) := by decide +kernel
theorem d_L_law_1573 : decode cL_law 1573 = .ok (.aload_n 3, 1) := by decide +kernel
theorem d_L_law_1574 : decode cL_law 1574 = .ok (.iconst 0, 1) := by decide +kernel
theorem d_L_law_1575 : decode cL_law 1575 = .ok (.laload, 1) := by decide +kernel
theorem d_L_law_1576 : decode cL_law 1576 = .ok (.lload 6, 2) := by decide +kernel
theorem d_L_law_1578 : decode cL_law 1578 = .ok (.lcmp, 1) := by decide +kernel
theorem d_L_law_1579 : decode cL_law 1579 = .ok (.ifCond .eq 5, 3) := by decide +kernel
theorem d_L_law_1582 : decode cL_law 1582 = .ok (.iconst 0, 1) := by decide +kernel
theorem d_L_law_1583 : decode cL_law 1583 = .ok (.ireturn, 1) := by decide +kernel
theorem d_L_law_1584 : decode cL_law 1584 = .ok (.goto 314, 3) := by decide +kernel
theorem d_L_law_1587 : decode cL_law 1587 = .ok (.aload_n 1, 1) := by decide +kernel
theorem d_L_law_1588 : decode cL_law 1588 = .ok (.invokevirtual 177, 3) := by decide +kernel
theorem d_L_law_1591 : decode cL_law 1591 = .ok (.aload_n 2, 1) := by decide +kernel
theorem d_L_law_1592 : decode cL_law 1592 = .ok (.invokevirtual 180, 3) := by decide +kernel
theorem d_L_law_1595 : decode cL_law 1595 = .ok (.lcmp, 1) := by decide +kernel
theorem d_L_law_1596 : decode cL_law 1596 = .ok (.ifCond .eq 302, 3) := by decide +kernel
theorem d_L_law_1599 : decode cL_law 1599 = .ok (.iconst 0, 1) := by decide +kernel
theorem d_L_law_1600 : decode cL_law 1600 = .ok (.ireturn, 1) := by decide +kernel
theorem d_L_law_1601 : decode cL_law 1601 = .ok (.aload_n 1, 1) := by decide +kernel
theorem d_L_law_1602 : decode cL_law 1602 = .ok (.aload_n 0, 1) := by decide +kernel
theorem d_L_law_1603 : decode cL_law 1603 = .ok (.iload 4, 2) := by decide +kernel
theorem d_L_law_1605 : decode cL_law 1605 = .ok (.iconst 1, 1) := by decide +kernel
theorem d_L_law_1606 : decode cL_law 1606 = .ok (.iadd, 1) := by decide +kernel
theorem d_L_law_1607 : decode cL_law 1607 = .ok (.iaload, 1) := by decide +kernel
theorem d_L_law_1608 : decode cL_law 1608 = .ok (.aload_n 3, 1) := by decide +kernel
theorem d_L_law_1609 : decode cL_law 1609 = .ok (.invokestatic 181, 3) := by decide +kernel
theorem d_L_law_1612 : decode cL_law 1612 = .ok (.istore 5, 2) := by decide +kernel
theorem d_L_law_1614 : decode cL_law 1614 = .ok (.aload_n 2, 1) := by decide +kernel
theorem d_L_law_1615 : decode cL_law 1615 = .ok (.aload_n 0, 1) := by decide +kernel
theorem d_L_law_1616 : decode cL_law 1616 = .ok (.iload 4, 2) := by decide +kernel
theorem d_L_law_1618 : decode cL_law 1618 = .ok (.iconst 1, 1) := by decide +kernel
theorem d_L_law_1619 : decode cL_law 1619 = .ok (.iadd, 1) := by decide +kernel
theorem d_L_law_1620 : decode cL_law 1620 = .ok (.iaload, 1) := by decide +kernel
theorem d_L_law_1621 : decode cL_law 1621 = .ok (.invokevirtual 183, 3) := by decide +kernel
theorem d_L_law_1624 : decode cL_law 1624 = .ok (.istore 6, 2) := by decide +kernel
theorem d_L_law_1626 : decode cL_law 1626 = .ok (.aload_n 2, 1) := by decide +kernel
theorem d_L_law_1627 : decode cL_law 1627 = .ok (.invokevirtual 106, 3) := by decide +kernel
theorem d_L_law_1630 : decode cL_law 1630 = .ok (.iload 5, 2) := by decide +kernel
theorem d_L_law_1632 : decode cL_law 1632 = .ok (.if_icmp .eq 5, 3) := by decide +kernel
theorem d_L_law_1635 : decode cL_law 1635 = .ok (.iconst 0, 1) := by decide +kernel
theorem d_L_law_1636 : decode cL_law 1636 = .ok (.ireturn, 1) := by decide +kernel
theorem d_L_law_1637 : decode cL_law 1637 = .ok (.iload 5, 2) := by decide +kernel
theorem d_L_law_1639 : decode cL_law 1639 = .ok (.ifCond .ne 15, 3) := by decide +kernel
theorem d_L_law_1642 : decode cL_law 1642 = .ok (.aload_n 3, 1) := by decide +kernel
theorem d_L_law_1643 : decode cL_law 1643 = .ok (.iconst 0, 1) := by decide +kernel
theorem d_L_law_1644 : decode cL_law 1644 = .ok (.laload, 1) := by decide +kernel
theorem d_L_law_1645 : decode cL_law 1645 = .ok (.iload 6, 2) := by decide +kernel
theorem d_L_law_1647 : decode cL_law 1647 = .ok (.i2l, 1) := by decide +kernel
theorem d_L_law_1648 : decode cL_law 1648 = .ok (.lcmp, 1) := by decide +kernel
theorem d_L_law_1649 : decode cL_law 1649 = .ok (.ifCond .eq 5, 3) := by decide +kernel
theorem d_L_law_1652 : decode cL_law 1652 = .ok (.iconst 0, 1) := by decide +kernel
theorem d_L_law_1653 : decode cL_law 1653 = .ok (.ireturn, 1) := by decide +kernel
theorem d_L_law_1654 : decode cL_law 1654 = .ok (.goto 244, 3) := by decide +kernel
theorem d_L_law_1657 : decode cL_law 1657 = .ok (.aload_n 1, 1) := by decide +kernel
theorem d_L_law_1658 : decode cL_law 1658 = .ok (.aload_n 0, 1) := by decide +kernel
theorem d_L_law_1659 : decode cL_law 1659 = .ok (.iload 4, 2) := by decide +kernel
theorem d_L_law_1661 : decode cL_law 1661 = .ok (.iconst 1, 1) := by decide +kernel
theorem d_L_law_1662 : decode cL_law 1662 = .ok (.iadd, 1) := by decide +kernel
theorem d_L_law_1663 : decode cL_law 1663 = .ok (.iaload, 1) := by decide +kernel
theorem d_L_law_1664 : decode cL_law 1664 = .ok (.aload_n 0, 1) := by decide +kernel
theorem d_L_law_1665 : decode cL_law 1665 = .ok (.iload 4, 2) := by decide +kernel
theorem d_L_law_1667 : decode cL_law 1667 = .ok (.iconst 2, 1) := by decide +kernel
theorem d_L_law_1668 : decode cL_law 1668 = .ok (.iadd, 1) := by decide +kernel
theorem d_L_law_1669 : decode cL_law 1669 = .ok (.iaload, 1) := by decide +kernel
theorem d_L_law_1670 : decode cL_law 1670 = .ok (.aload_n 3, 1) := by decide +kernel
theorem d_L_law_1671 : decode cL_law 1671 = .ok (.invokestatic 184, 3) := by decide +kernel
theorem d_L_law_1674 : decode cL_law 1674 = .ok (.istore 5, 2) := by decide +kernel
theorem d_L_law_1676 : decode cL_law 1676 = .ok (.aload_n 2, 1) := by decide +kernel
theorem d_L_law_1677 : decode cL_law 1677 = .ok (.aload_n 0, 1) := by decide +kernel
theorem d_L_law_1678 : decode cL_law 1678 = .ok (.iload 4, 2) := by decide +kernel
theorem d_L_law_1680 : decode cL_law 1680 = .ok (.iconst 1, 1) := by decide +kernel
theorem d_L_law_1681 : decode cL_law 1681 = .ok (.iadd, 1) := by decide +kernel
theorem d_L_law_1682 : decode cL_law 1682 = .ok (.iaload, 1) := by decide +kernel
theorem d_L_law_1683 : decode cL_law 1683 = .ok (.aload_n 0, 1) := by decide +kernel
theorem d_L_law_1684 : decode cL_law 1684 = .ok (.iload 4, 2) := by decide +kernel
theorem d_L_law_1686 : decode cL_law 1686 = .ok (.iconst 2, 1) := by decide +kernel
theorem d_L_law_1687 : decode cL_law 1687 = .ok (.iadd, 1) := by decide +kernel
theorem d_L_law_1688 : decode cL_law 1688 = .ok (.iaload, 1) := by decide +kernel
theorem d_L_law_1689 : decode cL_law 1689 = .ok (.invokevirtual 186, 3) := by decide +kernel
theorem d_L_law_1692 : decode cL_law 1692 = .ok (.istore 6, 2) := by decide +kernel
theorem d_L_law_1694 : decode cL_law 1694 = .ok (.aload_n 2, 1) := by decide +kernel
theorem d_L_law_1695 : decode cL_law 1695 = .ok (.invokevirtual 106, 3) := by decide +kernel
theorem d_L_law_1698 : decode cL_law 1698 = .ok (.iload 5, 2) := by decide +kernel
theorem d_L_law_1700 : decode cL_law 1700 = .ok (.if_icmp .eq 5, 3) := by decide +kernel
theorem d_L_law_1703 : decode cL_law 1703 = .ok (.iconst 0, 1) := by decide +kernel
theorem d_L_law_1704 : decode cL_law 1704 = .ok (.ireturn, 1) := by decide +kernel
theorem d_L_law_1705 : decode cL_law 1705 = .ok (.iload 5, 2) := by decide +kernel
theorem d_L_law_1707 : decode cL_law 1707 = .ok (.ifCond .ne 15, 3) := by decide +kernel
theorem d_L_law_1710 : decode cL_law 1710 = .ok (.aload_n 3, 1) := by decide +kernel
theorem d_L_law_1711 : decode cL_law 1711 = .ok (.iconst 0, 1) := by decide +kernel
theorem d_L_law_1712 : decode cL_law 1712 = .ok (.laload, 1) := by decide +kernel
theorem d_L_law_1713 : decode cL_law 1713 = .ok (.iload 6, 2) := by decide +kernel
theorem d_L_law_1715 : decode cL_law 1715 = .ok (.i2l, 1) := by decide +kernel
theorem d_L_law_1716 : decode cL_law 1716 = .ok (.lcmp, 1) := by decide +kernel
theorem d_L_law_1717 : decode cL_law 1717 = .ok (.ifCond .eq 5, 3) := by decide +kernel
theorem d_L_law_1720 : decode cL_law 1720 = .ok (.iconst 0, 1) := by decide +kernel
theorem d_L_law_1721 : decode cL_law 1721 = .ok (.ireturn, 1) := by decide +kernel
theorem d_L_law_1722 : decode cL_law 1722 = .ok (.goto 176, 3) := by decide +kernel
theorem d_L_law_1725 : decode cL_law 1725 = .ok (.aload_n 1, 1) := by decide +kernel
theorem d_L_law_1726 : decode cL_law 1726 = .ok (.aload_n 0, 1) := by decide +kernel
theorem d_L_law_1727 : decode cL_law 1727 = .ok (.iload 4, 2) := by decide +kernel
theorem d_L_law_1729 : decode cL_law 1729 = .ok (.iconst 1, 1) := by decide +kernel
theorem d_L_law_1730 : decode cL_law 1730 = .ok (.iadd, 1) := by decide +kernel
theorem d_L_law_1731 : decode cL_law 1731 = .ok (.iaload, 1) := by decide +kernel
theorem d_L_law_1732 : decode cL_law 1732 = .ok (.invokevirtual 187, 3) := by decide +kernel
theorem d_L_law_1735 : decode cL_law 1735 = .ok (.aload_n 2, 1) := by decide +kernel
theorem d_L_law_1736 : decode cL_law 1736 = .ok (.aload_n 0, 1) := by decide +kernel
theorem d_L_law_1737 : decode cL_law 1737 = .ok (.iload 4, 2) := by decide +kernel
theorem d_L_law_1739 : decode cL_law 1739 = .ok (.iconst 1, 1) := by decide +kernel
theorem d_L_law_1740 : decode cL_law 1740 = .ok (.iadd, 1) := by decide +kernel
theorem d_L_law_1741 : decode cL_law 1741 = .ok (.iaload, 1) := by decide +kernel
theorem d_L_law_1742 : decode cL_law 1742 = .ok (.invokevirtual 191, 3) := by decide +kernel
theorem d_L_law_1745 : decode cL_law 1745 = .ok (.goto 153, 3) := by decide +kernel
theorem d_L_law_1748 : decode cL_law 1748 = .ok (.aload_n 1, 1) := by decide +kernel
theorem d_L_law_1749 : decode cL_law 1749 = .ok (.aload_n 0, 1) := by decide +kernel
theorem d_L_law_1750 : decode cL_law 1750 = .ok (.iload 4, 2) := by decide +kernel
theorem d_L_law_1752 : decode cL_law 1752 = .ok (.iconst 1, 1) := by decide +kernel
theorem d_L_law_1753 : decode cL_law 1753 = .ok (.iadd, 1) := by decide +kernel
theorem d_L_law_1754 : decode cL_law 1754 = .ok (.iaload, 1) := by decide +kernel
theorem d_L_law_1755 : decode cL_law 1755 = .ok (.aload_n 3, 1) := by decide +kernel
theorem d_L_law_1756 : decode cL_law 1756 = .ok (.invokestatic 192, 3) := by decide +kernel
theorem d_L_law_1759 : decode cL_law 1759 = .ok (.istore 5, 2) := by decide +kernel
theorem d_L_law_1761 : decode cL_law 1761 = .ok (.aload_n 2, 1) := by decide +kernel
theorem d_L_law_1762 : decode cL_law 1762 = .ok (.aload_n 0, 1) := by decide +kernel
theorem d_L_law_1763 : decode cL_law 1763 = .ok (.iload 4, 2) := by decide +kernel
theorem d_L_law_1765 : decode cL_law 1765 = .ok (.iconst 1, 1) := by decide +kernel
theorem d_L_law_1766 : decode cL_law 1766 = .ok (.iadd, 1) := by decide +kernel
theorem d_L_law_1767 : decode cL_law 1767 = .ok (.iaload, 1) := by decide +kernel
theorem d_L_law_1768 : decode cL_law 1768 = .ok (.invokevirtual 194, 3) := by decide +kernel
theorem d_L_law_1771 : decode cL_law 1771 = .ok (.istore 6, 2) := by decide +kernel
theorem d_L_law_1773 : decode cL_law 1773 = .ok (.aload_n 2, 1) := by decide +kernel
theorem d_L_law_1774 : decode cL_law 1774 = .ok (.invokevirtual 106, 3) := by decide +kernel
theorem d_L_law_1777 : decode cL_law 1777 = .ok (.iload 5, 2) := by decide +kernel
theorem d_L_law_1779 : decode cL_law 1779 = .ok (.if_icmp .eq 5, 3) := by decide +kernel
theorem d_L_law_1782 : decode cL_law 1782 = .ok (.iconst 0, 1) := by decide +kernel
theorem d_L_law_1783 : decode cL_law 1783 = .ok (.ireturn, 1) := by decide +kernel
theorem d_L_law_1784 : decode cL_law 1784 = .ok (.iload 5, 2) := by decide +kernel
theorem d_L_law_1786 : decode cL_law 1786 = .ok (.ifCond .ne 15, 3) := by decide +kernel
theorem d_L_law_1789 : decode cL_law 1789 = .ok (.aload_n 3, 1) := by decide +kernel
theorem d_L_law_1790 : decode cL_law 1790 = .ok (.iconst 0, 1) := by decide +kernel
theorem d_L_law_1791 : decode cL_law 1791 = .ok (.laload, 1) := by decide +kernel
theorem d_L_law_1792 : decode cL_law 1792 = .ok (.iload 6, 2) := by decide +kernel
theorem d_L_law_1794 : decode cL_law 1794 = .ok (.i2l, 1) := by decide +kernel
theorem d_L_law_1795 : decode cL_law 1795 = .ok (.lcmp, 1) := by decide +kernel
theorem d_L_law_1796 : decode cL_law 1796 = .ok (.ifCond .eq 5, 3) := by decide +kernel
theorem d_L_law_1799 : decode cL_law 1799 = .ok (.iconst 0, 1) := by decide +kernel
theorem d_L_law_1800 : decode cL_law 1800 = .ok (.ireturn, 1) := by decide +kernel
theorem d_L_law_1801 : decode cL_law 1801 = .ok (.goto 97, 3) := by decide +kernel
theorem d_L_law_1804 : decode cL_law 1804 = .ok (.aload_n 1, 1) := by decide +kernel
theorem d_L_law_1805 : decode cL_law 1805 = .ok (.aload_n 0, 1) := by decide +kernel
theorem d_L_law_1806 : decode cL_law 1806 = .ok (.iload 4, 2) := by decide +kernel
theorem d_L_law_1808 : decode cL_law 1808 = .ok (.iconst 1, 1) := by decide +kernel
theorem d_L_law_1809 : decode cL_law 1809 = .ok (.iadd, 1) := by decide +kernel
theorem d_L_law_1810 : decode cL_law 1810 = .ok (.iaload, 1) := by decide +kernel
theorem d_L_law_1811 : decode cL_law 1811 = .ok (.aload_n 0, 1) := by decide +kernel
theorem d_L_law_1812 : decode cL_law 1812 = .ok (.iload 4, 2) := by decide +kernel
theorem d_L_law_1814 : decode cL_law 1814 = .ok (.iconst 2, 1) := by decide +kernel
theorem d_L_law_1815 : decode cL_law 1815 = .ok (.iadd, 1) := by decide +kernel
theorem d_L_law_1816 : decode cL_law 1816 = .ok (.iaload, 1) := by decide +kernel
theorem d_L_law_1817 : decode cL_law 1817 = .ok (.aload_n 3, 1) := by decide +kernel
theorem d_L_law_1818 : decode cL_law 1818 = .ok (.invokestatic 195, 3) := by decide +kernel
theorem d_L_law_1821 : decode cL_law 1821 = .ok (.istore 5, 2) := by decide +kernel
theorem d_L_law_1823 : decode cL_law 1823 = .ok (.aload_n 2, 1) := by decide +kernel
theorem d_L_law_1824 : decode cL_law 1824 = .ok (.aload_n 0, 1) := by decide +kernel
theorem d_L_law_1825 : decode cL_law 1825 = .ok (.iload 4, 2) := by decide +kernel
theorem d_L_law_1827 : decode cL_law 1827 = .ok (.iconst 1, 1) := by decide +kernel
theorem d_L_law_1828 : decode cL_law 1828 = .ok (.iadd, 1) := by decide +kernel
theorem d_L_law_1829 : decode cL_law 1829 = .ok (.iaload, 1) := by decide +kernel
theorem d_L_law_1830 : decode cL_law 1830 = .ok (.aload_n 0, 1) := by decide +kernel
theorem d_L_law_1831 : decode cL_law 1831 = .ok (.iload 4, 2) := by decide +kernel
theorem d_L_law_1833 : decode cL_law 1833 = .ok (.iconst 2, 1) := by decide +kernel
theorem d_L_law_1834 : decode cL_law 1834 = .ok (.iadd, 1) := by decide +kernel
theorem d_L_law_1835 : decode cL_law 1835 = .ok (.iaload, 1) := by decide +kernel
theorem d_L_law_1836 : decode cL_law 1836 = .ok (.invokevirtual 197, 3) := by decide +kernel
theorem d_L_law_1839 : decode cL_law 1839 = .ok (.istore 6, 2) := by decide +kernel
theorem d_L_law_1841 : decode cL_law 1841 = .ok (.aload_n 2, 1) := by decide +kernel
theorem d_L_law_1842 : decode cL_law 1842 = .ok (.invokevirtual 106, 3) := by decide +kernel
theorem d_L_law_1845 : decode cL_law 1845 = .ok (.iload 5, 2) := by decide +kernel
theorem d_L_law_1847 : decode cL_law 1847 = .ok (.if_icmp .eq 5, 3) := by decide +kernel
theorem d_L_law_1850 : decode cL_law 1850 = .ok (.iconst 0, 1) := by decide +kernel
theorem d_L_law_1851 : decode cL_law 1851 = .ok (.ireturn, 1) := by decide +kernel
theorem d_L_law_1852 : decode cL_law 1852 = .ok (.iload 5, 2) := by decide +kernel
theorem d_L_law_1854 : decode cL_law 1854 = .ok (.ifCond .ne 15, 3) := by decide +kernel
theorem d_L_law_1857 : decode cL_law 1857 = .ok (.aload_n 3, 1) := by decide +kernel
theorem d_L_law_1858 : decode cL_law 1858 = .ok (.iconst 0, 1) := by decide +kernel
theorem d_L_law_1859 : decode cL_law 1859 = .ok (.laload, 1) := by decide +kernel
theorem d_L_law_1860 : decode cL_law 1860 = .ok (.iload 6, 2) := by decide +kernel
theorem d_L_law_1862 : decode cL_law 1862 = .ok (.i2l, 1) := by decide +kernel
theorem d_L_law_1863 : decode cL_law 1863 = .ok (.lcmp, 1) := by decide +kernel
theorem d_L_law_1864 : decode cL_law 1864 = .ok (.ifCond .eq 5, 3) := by decide +kernel
theorem d_L_law_1867 : decode cL_law 1867 = .ok (.iconst 0, 1) := by decide +kernel
theorem d_L_law_1868 : decode cL_law 1868 = .ok (.ireturn, 1) := by decide +kernel
theorem d_L_law_1869 : decode cL_law 1869 = .ok (.goto 29, 3) := by decide +kernel
theorem d_L_law_1872 : decode cL_law 1872 = .ok (.aload_n 1, 1) := by decide +kernel
theorem d_L_law_1873 : decode cL_law 1873 = .ok (.invokevirtual 198, 3) := by decide +kernel
theorem d_L_law_1876 : decode cL_law 1876 = .ok (.aload_n 2, 1) := by decide +kernel
theorem d_L_law_1877 : decode cL_law 1877 = .ok (.invokevirtual 202, 3) := by decide +kernel
theorem d_L_law_1880 : decode cL_law 1880 = .ok (.if_icmp .eq 18, 3) := by decide +kernel
theorem d_L_law_1883 : decode cL_law 1883 = .ok (.iconst 0, 1) := by decide +kernel
theorem d_L_law_1884 : decode cL_law 1884 = .ok (.ireturn, 1) := by decide +kernel
theorem d_L_law_1885 : decode cL_law 1885 = .ok (.aload_n 1, 1) := by decide +kernel
theorem d_L_law_1886 : decode cL_law 1886 = .ok (.invokevirtual 203, 3) := by decide +kernel
theorem d_L_law_1889 : decode cL_law 1889 = .ok (.aload_n 2, 1) := by decide +kernel
theorem d_L_law_1890 : decode cL_law 1890 = .ok (.invokevirtual 206, 3) := by decide +kernel
theorem d_L_law_1893 : decode cL_law 1893 = .ok (.if_icmp .eq 5, 3) := by decide +kernel
theorem d_L_law_1896 : decode cL_law 1896 = .ok (.iconst 0, 1) := by decide +kernel
theorem d_L_law_1897 : decode cL_law 1897 = .ok (.ireturn, 1) := by decide +kernel
theorem d_L_law_1898 : decode cL_law 1898 = .ok (.iinc 4 6, 3) := by decide +kernel
theorem d_L_law_1901 : decode cL_law 1901 = .ok (.goto (-1878), 3) := by decide +kernel
theorem d_L_law_1904 : decode cL_law 1904 = .ok (.iconst 1, 1) := by decide +kernel
theorem d_L_law_1905 : decode cL_law 1905 = .ok (.ireturn, 1) := by decide +kernel
def j_L_law_1898_23 (L : Nat) (xs : Nat → Int32) (v4 : Int32) (h : AH) : Option ((Int32 ⊕ Unit) × AH) := some (.inl (v4 + 6), h)
theorem tj_L_law_1898_23 {g : GP} {X : MX} {L : Nat} {xs : Nat → Int32} (hF : gF g = true) (hX : Cx g RL cL_law 12 601024 7293034 (some .boolean) [] X) (hx : SX g X L xs) {nc ns : Nat} {Q : State → Prop} {nK sK : Nat} {v4 : Int32} {d5 : Value} {d6 : Value} {d7 : Value} {h hz : AH} {z : (Int32 ⊕ Unit)} (e : j_L_law_1898_23 L xs v4 h = some (z, hz)) (hn1 : nc ≤ nK) (hn2 : ns ≤ sK) (hR1 : nK ≤ 601024) (hR2 : sK ≤ 7293034) (kI : ∀ (s2 : Int32) (xd5 : Value) (xd6 : Value) (xd7 : Value), z = .inl s2 → AR g X nK sK Q hz 23 [.ref 100099, .ref 0, .ref 240, .ref 277, .int s2, xd5, xd6, xd7] []) (kE0 : ∀ (yy : Unit) (y0 : Value) (y1 : Value) (y2 : Value) (y3 : Value) (y4 : Value) (y5 : Value) (y6 : Value) (y7 : Value), z = .inr yy → AR g X nK sK Q hz 1904 [y0, y1, y2, y3, y4, y5, y6, y7] []) : AR g X nc ns Q h 1898 [.ref 100099, .ref 0, .ref 240, .ref 277, .int v4, d5, d6, d7] [] := by
  unfold j_L_law_1898_23 at e
  refine aw_iinc (i := 4) (lv2 := [.ref 100099, .ref 0, .ref 240, .ref 277, .int (v4 + 6), d5, d6, d7]) hX rfl rfl rfl rfl d_L_law_1898 ?_
  refine aw_goto (t := 23) hX (by decide) d_L_law_1901 ?_
  cases e
  exact aw_widen (nc' := nK) (ns' := sK) (by omega) (by omega) (kI (v4 + 6) _ _ _ rfl)
def j_L_law_1869_23 (L : Nat) (xs : Nat → Int32) (v4 : Int32) (h : AH) : Option ((Int32 ⊕ Unit) × AH) := j_L_law_1898_23 L xs v4 h
theorem tj_L_law_1869_23 {g : GP} {X : MX} {L : Nat} {xs : Nat → Int32} (hF : gF g = true) (hX : Cx g RL cL_law 12 601024 7293034 (some .boolean) [] X) (hx : SX g X L xs) {nc ns : Nat} {Q : State → Prop} {nK sK : Nat} {v4 : Int32} {d5 : Value} {d6 : Value} {d7 : Value} {h hz : AH} {z : (Int32 ⊕ Unit)} (e : j_L_law_1869_23 L xs v4 h = some (z, hz)) (hn1 : nc ≤ nK) (hn2 : ns ≤ sK) (hR1 : nK ≤ 601024) (hR2 : sK ≤ 7293034) (kI : ∀ (s2 : Int32) (xd5 : Value) (xd6 : Value) (xd7 : Value), z = .inl s2 → AR g X nK sK Q hz 23 [.ref 100099, .ref 0, .ref 240, .ref 277, .int s2, xd5, xd6, xd7] []) (kE0 : ∀ (yy : Unit) (y0 : Value) (y1 : Value) (y2 : Value) (y3 : Value) (y4 : Value) (y5 : Value) (y6 : Value) (y7 : Value), z = .inr yy → AR g X nK sK Q hz 1904 [y0, y1, y2, y3, y4, y5, y6, y7] []) : AR g X nc ns Q h 1869 [.ref 100099, .ref 0, .ref 240, .ref 277, .int v4, d5, d6, d7] [] := by
  unfold j_L_law_1869_23 at e
  refine aw_goto (t := 1898) hX (by decide) d_L_law_1869 ?_
  exact tj_L_law_1898_23 hF hX hx e (by omega) (by omega) hR1 hR2 kI kE0
def j_L_law_1801_23 (L : Nat) (xs : Nat → Int32) (v4 : Int32) (h : AH) : Option ((Int32 ⊕ Unit) × AH) := j_L_law_1898_23 L xs v4 h
theorem tj_L_law_1801_23 {g : GP} {X : MX} {L : Nat} {xs : Nat → Int32} (hF : gF g = true) (hX : Cx g RL cL_law 12 601024 7293034 (some .boolean) [] X) (hx : SX g X L xs) {nc ns : Nat} {Q : State → Prop} {nK sK : Nat} {v4 : Int32} {d5 : Value} {d6 : Value} {d7 : Value} {h hz : AH} {z : (Int32 ⊕ Unit)} (e : j_L_law_1801_23 L xs v4 h = some (z, hz)) (hn1 : nc ≤ nK) (hn2 : ns ≤ sK) (hR1 : nK ≤ 601024) (hR2 : sK ≤ 7293034) (kI : ∀ (s2 : Int32) (xd5 : Value) (xd6 : Value) (xd7 : Value), z = .inl s2 → AR g X nK sK Q hz 23 [.ref 100099, .ref 0, .ref 240, .ref 277, .int s2, xd5, xd6, xd7] []) (kE0 : ∀ (yy : Unit) (y0 : Value) (y1 : Value) (y2 : Value) (y3 : Value) (y4 : Value) (y5 : Value) (y6 : Value) (y7 : Value), z = .inr yy → AR g X nK sK Q hz 1904 [y0, y1, y2, y3, y4, y5, y6, y7] []) : AR g X nc ns Q h 1801 [.ref 100099, .ref 0, .ref 240, .ref 277, .int v4, d5, d6, d7] [] := by
  unfold j_L_law_1801_23 at e
  refine aw_goto (t := 1898) hX (by decide) d_L_law_1801 ?_
  exact tj_L_law_1898_23 hF hX hx e (by omega) (by omega) hR1 hR2 kI kE0
def j_L_law_1722_23 (L : Nat) (xs : Nat → Int32) (v4 : Int32) (h : AH) : Option ((Int32 ⊕ Unit) × AH) := j_L_law_1898_23 L xs v4 h
theorem tj_L_law_1722_23 {g : GP} {X : MX} {L : Nat} {xs : Nat → Int32} (hF : gF g = true) (hX : Cx g RL cL_law 12 601024 7293034 (some .boolean) [] X) (hx : SX g X L xs) {nc ns : Nat} {Q : State → Prop} {nK sK : Nat} {v4 : Int32} {d5 : Value} {d6 : Value} {d7 : Value} {h hz : AH} {z : (Int32 ⊕ Unit)} (e : j_L_law_1722_23 L xs v4 h = some (z, hz)) (hn1 : nc ≤ nK) (hn2 : ns ≤ sK) (hR1 : nK ≤ 601024) (hR2 : sK ≤ 7293034) (kI : ∀ (s2 : Int32) (xd5 : Value) (xd6 : Value) (xd7 : Value), z = .inl s2 → AR g X nK sK Q hz 23 [.ref 100099, .ref 0, .ref 240, .ref 277, .int s2, xd5, xd6, xd7] []) (kE0 : ∀ (yy : Unit) (y0 : Value) (y1 : Value) (y2 : Value) (y3 : Value) (y4 : Value) (y5 : Value) (y6 : Value) (y7 : Value), z = .inr yy → AR g X nK sK Q hz 1904 [y0, y1, y2, y3, y4, y5, y6, y7] []) : AR g X nc ns Q h 1722 [.ref 100099, .ref 0, .ref 240, .ref 277, .int v4, d5, d6, d7] [] := by
  unfold j_L_law_1722_23 at e
  refine aw_goto (t := 1898) hX (by decide) d_L_law_1722 ?_
  exact tj_L_law_1898_23 hF hX hx e (by omega) (by omega) hR1 hR2 kI kE0
def j_L_law_1654_23 (L : Nat) (xs : Nat → Int32) (v4 : Int32) (h : AH) : Option ((Int32 ⊕ Unit) × AH) := j_L_law_1898_23 L xs v4 h
theorem tj_L_law_1654_23 {g : GP} {X : MX} {L : Nat} {xs : Nat → Int32} (hF : gF g = true) (hX : Cx g RL cL_law 12 601024 7293034 (some .boolean) [] X) (hx : SX g X L xs) {nc ns : Nat} {Q : State → Prop} {nK sK : Nat} {v4 : Int32} {d5 : Value} {d6 : Value} {d7 : Value} {h hz : AH} {z : (Int32 ⊕ Unit)} (e : j_L_law_1654_23 L xs v4 h = some (z, hz)) (hn1 : nc ≤ nK) (hn2 : ns ≤ sK) (hR1 : nK ≤ 601024) (hR2 : sK ≤ 7293034) (kI : ∀ (s2 : Int32) (xd5 : Value) (xd6 : Value) (xd7 : Value), z = .inl s2 → AR g X nK sK Q hz 23 [.ref 100099, .ref 0, .ref 240, .ref 277, .int s2, xd5, xd6, xd7] []) (kE0 : ∀ (yy : Unit) (y0 : Value) (y1 : Value) (y2 : Value) (y3 : Value) (y4 : Value) (y5 : Value) (y6 : Value) (y7 : Value), z = .inr yy → AR g X nK sK Q hz 1904 [y0, y1, y2, y3, y4, y5, y6, y7] []) : AR g X nc ns Q h 1654 [.ref 100099, .ref 0, .ref 240, .ref 277, .int v4, d5, d6, d7] [] := by
  unfold j_L_law_1654_23 at e
  refine aw_goto (t := 1898) hX (by decide) d_L_law_1654 ?_
  exact tj_L_law_1898_23 hF hX hx e (by omega) (by omega) hR1 hR2 kI kE0
def j_L_law_1584_23 (L : Nat) (xs : Nat → Int32) (v4 : Int32) (h : AH) : Option ((Int32 ⊕ Unit) × AH) := j_L_law_1898_23 L xs v4 h
theorem tj_L_law_1584_23 {g : GP} {X : MX} {L : Nat} {xs : Nat → Int32} (hF : gF g = true) (hX : Cx g RL cL_law 12 601024 7293034 (some .boolean) [] X) (hx : SX g X L xs) {nc ns : Nat} {Q : State → Prop} {nK sK : Nat} {v4 : Int32} {d5 : Value} {d6 : Value} {d7 : Value} {h hz : AH} {z : (Int32 ⊕ Unit)} (e : j_L_law_1584_23 L xs v4 h = some (z, hz)) (hn1 : nc ≤ nK) (hn2 : ns ≤ sK) (hR1 : nK ≤ 601024) (hR2 : sK ≤ 7293034) (kI : ∀ (s2 : Int32) (xd5 : Value) (xd6 : Value) (xd7 : Value), z = .inl s2 → AR g X nK sK Q hz 23 [.ref 100099, .ref 0, .ref 240, .ref 277, .int s2, xd5, xd6, xd7] []) (kE0 : ∀ (yy : Unit) (y0 : Value) (y1 : Value) (y2 : Value) (y3 : Value) (y4 : Value) (y5 : Value) (y6 : Value) (y7 : Value), z = .inr yy → AR g X nK sK Q hz 1904 [y0, y1, y2, y3, y4, y5, y6, y7] []) : AR g X nc ns Q h 1584 [.ref 100099, .ref 0, .ref 240, .ref 277, .int v4, d5, d6, d7] [] := by
  unfold j_L_law_1584_23 at e
  refine aw_goto (t := 1898) hX (by decide) d_L_law_1584 ?_
  exact tj_L_law_1898_23 hF hX hx e (by omega) (by omega) hR1 hR2 kI kE0
def j_L_law_1505_23 (L : Nat) (xs : Nat → Int32) (v4 : Int32) (h : AH) : Option ((Int32 ⊕ Unit) × AH) := j_L_law_1898_23 L xs v4 h
theorem tj_L_law_1505_23 {g : GP} {X : MX} {L : Nat} {xs : Nat → Int32} (hF : gF g = true) (hX : Cx g RL cL_law 12 601024 7293034 (some .boolean) [] X) (hx : SX g X L xs) {nc ns : Nat} {Q : State → Prop} {nK sK : Nat} {v4 : Int32} {d5 : Value} {d6 : Value} {d7 : Value} {h hz : AH} {z : (Int32 ⊕ Unit)} (e : j_L_law_1505_23 L xs v4 h = some (z, hz)) (hn1 : nc ≤ nK) (hn2 : ns ≤ sK) (hR1 : nK ≤ 601024) (hR2 : sK ≤ 7293034) (kI : ∀ (s2 : Int32) (xd5 : Value) (xd6 : Value) (xd7 : Value), z = .inl s2 → AR g X nK sK Q hz 23 [.ref 100099, .ref 0, .ref 240, .ref 277, .int s2, xd5, xd6, xd7] []) (kE0 : ∀ (yy : Unit) (y0 : Value) (y1 : Value) (y2 : Value) (y3 : Value) (y4 : Value) (y5 : Value) (y6 : Value) (y7 : Value), z = .inr yy → AR g X nK sK Q hz 1904 [y0, y1, y2, y3, y4, y5, y6, y7] []) : AR g X nc ns Q h 1505 [.ref 100099, .ref 0, .ref 240, .ref 277, .int v4, d5, d6, d7] [] := by
  unfold j_L_law_1505_23 at e
  refine aw_goto (t := 1898) hX (by decide) d_L_law_1505 ?_
  exact tj_L_law_1898_23 hF hX hx e (by omega) (by omega) hR1 hR2 kI kE0
def j_L_law_1449_23 (L : Nat) (xs : Nat → Int32) (v4 : Int32) (h : AH) : Option ((Int32 ⊕ Unit) × AH) := j_L_law_1898_23 L xs v4 h
theorem tj_L_law_1449_23 {g : GP} {X : MX} {L : Nat} {xs : Nat → Int32} (hF : gF g = true) (hX : Cx g RL cL_law 12 601024 7293034 (some .boolean) [] X) (hx : SX g X L xs) {nc ns : Nat} {Q : State → Prop} {nK sK : Nat} {v4 : Int32} {d5 : Value} {d6 : Value} {d7 : Value} {h hz : AH} {z : (Int32 ⊕ Unit)} (e : j_L_law_1449_23 L xs v4 h = some (z, hz)) (hn1 : nc ≤ nK) (hn2 : ns ≤ sK) (hR1 : nK ≤ 601024) (hR2 : sK ≤ 7293034) (kI : ∀ (s2 : Int32) (xd5 : Value) (xd6 : Value) (xd7 : Value), z = .inl s2 → AR g X nK sK Q hz 23 [.ref 100099, .ref 0, .ref 240, .ref 277, .int s2, xd5, xd6, xd7] []) (kE0 : ∀ (yy : Unit) (y0 : Value) (y1 : Value) (y2 : Value) (y3 : Value) (y4 : Value) (y5 : Value) (y6 : Value) (y7 : Value), z = .inr yy → AR g X nK sK Q hz 1904 [y0, y1, y2, y3, y4, y5, y6, y7] []) : AR g X nc ns Q h 1449 [.ref 100099, .ref 0, .ref 240, .ref 277, .int v4, d5, d6, d7] [] := by
  unfold j_L_law_1449_23 at e
  refine aw_goto (t := 1898) hX (by decide) d_L_law_1449 ?_
  exact tj_L_law_1898_23 hF hX hx e (by omega) (by omega) hR1 hR2 kI kE0
def j_L_law_1394_23 (L : Nat) (xs : Nat → Int32) (v4 : Int32) (h : AH) : Option ((Int32 ⊕ Unit) × AH) := j_L_law_1898_23 L xs v4 h
theorem tj_L_law_1394_23 {g : GP} {X : MX} {L : Nat} {xs : Nat → Int32} (hF : gF g = true) (hX : Cx g RL cL_law 12 601024 7293034 (some .boolean) [] X) (hx : SX g X L xs) {nc ns : Nat} {Q : State → Prop} {nK sK : Nat} {v4 : Int32} {d5 : Value} {d6 : Value} {d7 : Value} {h hz : AH} {z : (Int32 ⊕ Unit)} (e : j_L_law_1394_23 L xs v4 h = some (z, hz)) (hn1 : nc ≤ nK) (hn2 : ns ≤ sK) (hR1 : nK ≤ 601024) (hR2 : sK ≤ 7293034) (kI : ∀ (s2 : Int32) (xd5 : Value) (xd6 : Value) (xd7 : Value), z = .inl s2 → AR g X nK sK Q hz 23 [.ref 100099, .ref 0, .ref 240, .ref 277, .int s2, xd5, xd6, xd7] []) (kE0 : ∀ (yy : Unit) (y0 : Value) (y1 : Value) (y2 : Value) (y3 : Value) (y4 : Value) (y5 : Value) (y6 : Value) (y7 : Value), z = .inr yy → AR g X nK sK Q hz 1904 [y0, y1, y2, y3, y4, y5, y6, y7] []) : AR g X nc ns Q h 1394 [.ref 100099, .ref 0, .ref 240, .ref 277, .int v4, d5, d6, d7] [] := by
  unfold j_L_law_1394_23 at e
  refine aw_goto (t := 1898) hX (by decide) d_L_law_1394 ?_
  exact tj_L_law_1898_23 hF hX hx e (by omega) (by omega) hR1 hR2 kI kE0
def j_L_law_1314_23 (L : Nat) (xs : Nat → Int32) (v4 : Int32) (h : AH) : Option ((Int32 ⊕ Unit) × AH) := j_L_law_1898_23 L xs v4 h
theorem tj_L_law_1314_23 {g : GP} {X : MX} {L : Nat} {xs : Nat → Int32} (hF : gF g = true) (hX : Cx g RL cL_law 12 601024 7293034 (some .boolean) [] X) (hx : SX g X L xs) {nc ns : Nat} {Q : State → Prop} {nK sK : Nat} {v4 : Int32} {d5 : Value} {d6 : Value} {d7 : Value} {h hz : AH} {z : (Int32 ⊕ Unit)} (e : j_L_law_1314_23 L xs v4 h = some (z, hz)) (hn1 : nc ≤ nK) (hn2 : ns ≤ sK) (hR1 : nK ≤ 601024) (hR2 : sK ≤ 7293034) (kI : ∀ (s2 : Int32) (xd5 : Value) (xd6 : Value) (xd7 : Value), z = .inl s2 → AR g X nK sK Q hz 23 [.ref 100099, .ref 0, .ref 240, .ref 277, .int s2, xd5, xd6, xd7] []) (kE0 : ∀ (yy : Unit) (y0 : Value) (y1 : Value) (y2 : Value) (y3 : Value) (y4 : Value) (y5 : Value) (y6 : Value) (y7 : Value), z = .inr yy → AR g X nK sK Q hz 1904 [y0, y1, y2, y3, y4, y5, y6, y7] []) : AR g X nc ns Q h 1314 [.ref 100099, .ref 0, .ref 240, .ref 277, .int v4, d5, d6, d7] [] := by
  unfold j_L_law_1314_23 at e
  refine aw_goto (t := 1898) hX (by decide) d_L_law_1314 ?_
  exact tj_L_law_1898_23 hF hX hx e (by omega) (by omega) hR1 hR2 kI kE0
def j_L_law_1246_23 (L : Nat) (xs : Nat → Int32) (v4 : Int32) (h : AH) : Option ((Int32 ⊕ Unit) × AH) := j_L_law_1898_23 L xs v4 h
theorem tj_L_law_1246_23 {g : GP} {X : MX} {L : Nat} {xs : Nat → Int32} (hF : gF g = true) (hX : Cx g RL cL_law 12 601024 7293034 (some .boolean) [] X) (hx : SX g X L xs) {nc ns : Nat} {Q : State → Prop} {nK sK : Nat} {v4 : Int32} {d5 : Value} {d6 : Value} {d7 : Value} {h hz : AH} {z : (Int32 ⊕ Unit)} (e : j_L_law_1246_23 L xs v4 h = some (z, hz)) (hn1 : nc ≤ nK) (hn2 : ns ≤ sK) (hR1 : nK ≤ 601024) (hR2 : sK ≤ 7293034) (kI : ∀ (s2 : Int32) (xd5 : Value) (xd6 : Value) (xd7 : Value), z = .inl s2 → AR g X nK sK Q hz 23 [.ref 100099, .ref 0, .ref 240, .ref 277, .int s2, xd5, xd6, xd7] []) (kE0 : ∀ (yy : Unit) (y0 : Value) (y1 : Value) (y2 : Value) (y3 : Value) (y4 : Value) (y5 : Value) (y6 : Value) (y7 : Value), z = .inr yy → AR g X nK sK Q hz 1904 [y0, y1, y2, y3, y4, y5, y6, y7] []) : AR g X nc ns Q h 1246 [.ref 100099, .ref 0, .ref 240, .ref 277, .int v4, d5, d6, d7] [] := by
  unfold j_L_law_1246_23 at e
  refine aw_goto (t := 1898) hX (by decide) d_L_law_1246 ?_
  exact tj_L_law_1898_23 hF hX hx e (by omega) (by omega) hR1 hR2 kI kE0
def j_L_law_1191_23 (L : Nat) (xs : Nat → Int32) (v4 : Int32) (h : AH) : Option ((Int32 ⊕ Unit) × AH) := j_L_law_1898_23 L xs v4 h
theorem tj_L_law_1191_23 {g : GP} {X : MX} {L : Nat} {xs : Nat → Int32} (hF : gF g = true) (hX : Cx g RL cL_law 12 601024 7293034 (some .boolean) [] X) (hx : SX g X L xs) {nc ns : Nat} {Q : State → Prop} {nK sK : Nat} {v4 : Int32} {d5 : Value} {d6 : Value} {d7 : Value} {h hz : AH} {z : (Int32 ⊕ Unit)} (e : j_L_law_1191_23 L xs v4 h = some (z, hz)) (hn1 : nc ≤ nK) (hn2 : ns ≤ sK) (hR1 : nK ≤ 601024) (hR2 : sK ≤ 7293034) (kI : ∀ (s2 : Int32) (xd5 : Value) (xd6 : Value) (xd7 : Value), z = .inl s2 → AR g X nK sK Q hz 23 [.ref 100099, .ref 0, .ref 240, .ref 277, .int s2, xd5, xd6, xd7] []) (kE0 : ∀ (yy : Unit) (y0 : Value) (y1 : Value) (y2 : Value) (y3 : Value) (y4 : Value) (y5 : Value) (y6 : Value) (y7 : Value), z = .inr yy → AR g X nK sK Q hz 1904 [y0, y1, y2, y3, y4, y5, y6, y7] []) : AR g X nc ns Q h 1191 [.ref 100099, .ref 0, .ref 240, .ref 277, .int v4, d5, d6, d7] [] := by
  unfold j_L_law_1191_23 at e
  refine aw_goto (t := 1898) hX (by decide) d_L_law_1191 ?_
  exact tj_L_law_1898_23 hF hX hx e (by omega) (by omega) hR1 hR2 kI kE0
def j_L_law_1085_23 (L : Nat) (xs : Nat → Int32) (v4 : Int32) (h : AH) : Option ((Int32 ⊕ Unit) × AH) := j_L_law_1898_23 L xs v4 h
theorem tj_L_law_1085_23 {g : GP} {X : MX} {L : Nat} {xs : Nat → Int32} (hF : gF g = true) (hX : Cx g RL cL_law 12 601024 7293034 (some .boolean) [] X) (hx : SX g X L xs) {nc ns : Nat} {Q : State → Prop} {nK sK : Nat} {v4 : Int32} {d5 : Value} {d6 : Value} {d7 : Value} {h hz : AH} {z : (Int32 ⊕ Unit)} (e : j_L_law_1085_23 L xs v4 h = some (z, hz)) (hn1 : nc ≤ nK) (hn2 : ns ≤ sK) (hR1 : nK ≤ 601024) (hR2 : sK ≤ 7293034) (kI : ∀ (s2 : Int32) (xd5 : Value) (xd6 : Value) (xd7 : Value), z = .inl s2 → AR g X nK sK Q hz 23 [.ref 100099, .ref 0, .ref 240, .ref 277, .int s2, xd5, xd6, xd7] []) (kE0 : ∀ (yy : Unit) (y0 : Value) (y1 : Value) (y2 : Value) (y3 : Value) (y4 : Value) (y5 : Value) (y6 : Value) (y7 : Value), z = .inr yy → AR g X nK sK Q hz 1904 [y0, y1, y2, y3, y4, y5, y6, y7] []) : AR g X nc ns Q h 1085 [.ref 100099, .ref 0, .ref 240, .ref 277, .int v4, d5, d6, d7] [] := by
  unfold j_L_law_1085_23 at e
  refine aw_goto (t := 1898) hX (by decide) d_L_law_1085 ?_
  exact tj_L_law_1898_23 hF hX hx e (by omega) (by omega) hR1 hR2 kI kE0
def j_L_law_1017_23 (L : Nat) (xs : Nat → Int32) (v4 : Int32) (h : AH) : Option ((Int32 ⊕ Unit) × AH) := j_L_law_1898_23 L xs v4 h
theorem tj_L_law_1017_23 {g : GP} {X : MX} {L : Nat} {xs : Nat → Int32} (hF : gF g = true) (hX : Cx g RL cL_law 12 601024 7293034 (some .boolean) [] X) (hx : SX g X L xs) {nc ns : Nat} {Q : State → Prop} {nK sK : Nat} {v4 : Int32} {d5 : Value} {d6 : Value} {d7 : Value} {h hz : AH} {z : (Int32 ⊕ Unit)} (e : j_L_law_1017_23 L xs v4 h = some (z, hz)) (hn1 : nc ≤ nK) (hn2 : ns ≤ sK) (hR1 : nK ≤ 601024) (hR2 : sK ≤ 7293034) (kI : ∀ (s2 : Int32) (xd5 : Value) (xd6 : Value) (xd7 : Value), z = .inl s2 → AR g X nK sK Q hz 23 [.ref 100099, .ref 0, .ref 240, .ref 277, .int s2, xd5, xd6, xd7] []) (kE0 : ∀ (yy : Unit) (y0 : Value) (y1 : Value) (y2 : Value) (y3 : Value) (y4 : Value) (y5 : Value) (y6 : Value) (y7 : Value), z = .inr yy → AR g X nK sK Q hz 1904 [y0, y1, y2, y3, y4, y5, y6, y7] []) : AR g X nc ns Q h 1017 [.ref 100099, .ref 0, .ref 240, .ref 277, .int v4, d5, d6, d7] [] := by
  unfold j_L_law_1017_23 at e
  refine aw_goto (t := 1898) hX (by decide) d_L_law_1017 ?_
  exact tj_L_law_1898_23 hF hX hx e (by omega) (by omega) hR1 hR2 kI kE0
def j_L_law_950_23 (L : Nat) (xs : Nat → Int32) (v4 : Int32) (h : AH) : Option ((Int32 ⊕ Unit) × AH) := j_L_law_1898_23 L xs v4 h
theorem tj_L_law_950_23 {g : GP} {X : MX} {L : Nat} {xs : Nat → Int32} (hF : gF g = true) (hX : Cx g RL cL_law 12 601024 7293034 (some .boolean) [] X) (hx : SX g X L xs) {nc ns : Nat} {Q : State → Prop} {nK sK : Nat} {v4 : Int32} {d5 : Value} {d6 : Value} {d7 : Value} {h hz : AH} {z : (Int32 ⊕ Unit)} (e : j_L_law_950_23 L xs v4 h = some (z, hz)) (hn1 : nc ≤ nK) (hn2 : ns ≤ sK) (hR1 : nK ≤ 601024) (hR2 : sK ≤ 7293034) (kI : ∀ (s2 : Int32) (xd5 : Value) (xd6 : Value) (xd7 : Value), z = .inl s2 → AR g X nK sK Q hz 23 [.ref 100099, .ref 0, .ref 240, .ref 277, .int s2, xd5, xd6, xd7] []) (kE0 : ∀ (yy : Unit) (y0 : Value) (y1 : Value) (y2 : Value) (y3 : Value) (y4 : Value) (y5 : Value) (y6 : Value) (y7 : Value), z = .inr yy → AR g X nK sK Q hz 1904 [y0, y1, y2, y3, y4, y5, y6, y7] []) : AR g X nc ns Q h 950 [.ref 100099, .ref 0, .ref 240, .ref 277, .int v4, d5, d6, d7] [] := by
  unfold j_L_law_950_23 at e
  refine aw_goto (t := 1898) hX (by decide) d_L_law_950 ?_
  exact tj_L_law_1898_23 hF hX hx e (by omega) (by omega) hR1 hR2 kI kE0
def j_L_law_882_23 (L : Nat) (xs : Nat → Int32) (v4 : Int32) (h : AH) : Option ((Int32 ⊕ Unit) × AH) := j_L_law_1898_23 L xs v4 h
theorem tj_L_law_882_23 {g : GP} {X : MX} {L : Nat} {xs : Nat → Int32} (hF : gF g = true) (hX : Cx g RL cL_law 12 601024 7293034 (some .boolean) [] X) (hx : SX g X L xs) {nc ns : Nat} {Q : State → Prop} {nK sK : Nat} {v4 : Int32} {d5 : Value} {d6 : Value} {d7 : Value} {h hz : AH} {z : (Int32 ⊕ Unit)} (e : j_L_law_882_23 L xs v4 h = some (z, hz)) (hn1 : nc ≤ nK) (hn2 : ns ≤ sK) (hR1 : nK ≤ 601024) (hR2 : sK ≤ 7293034) (kI : ∀ (s2 : Int32) (xd5 : Value) (xd6 : Value) (xd7 : Value), z = .inl s2 → AR g X nK sK Q hz 23 [.ref 100099, .ref 0, .ref 240, .ref 277, .int s2, xd5, xd6, xd7] []) (kE0 : ∀ (yy : Unit) (y0 : Value) (y1 : Value) (y2 : Value) (y3 : Value) (y4 : Value) (y5 : Value) (y6 : Value) (y7 : Value), z = .inr yy → AR g X nK sK Q hz 1904 [y0, y1, y2, y3, y4, y5, y6, y7] []) : AR g X nc ns Q h 882 [.ref 100099, .ref 0, .ref 240, .ref 277, .int v4, d5, d6, d7] [] := by
  unfold j_L_law_882_23 at e
  refine aw_goto (t := 1898) hX (by decide) d_L_law_882 ?_
  exact tj_L_law_1898_23 hF hX hx e (by omega) (by omega) hR1 hR2 kI kE0
def j_L_law_876_23 (L : Nat) (xs : Nat → Int32) (v4 : Int32) (k0 : Int64) (k1 : Int64) (h : AH) : Option ((Int32 ⊕ Unit) × AH) := if k1 = k0 then j_L_law_882_23 L xs v4 h else none
theorem tj_L_law_876_23 {g : GP} {X : MX} {L : Nat} {xs : Nat → Int32} (hF : gF g = true) (hX : Cx g RL cL_law 12 601024 7293034 (some .boolean) [] X) (hx : SX g X L xs) {nc ns : Nat} {Q : State → Prop} {nK sK : Nat} {v4 : Int32} {k0 : Int64} {k1 : Int64} {d5 : Value} {d6 : Value} {d7 : Value} {h hz : AH} {z : (Int32 ⊕ Unit)} (e : j_L_law_876_23 L xs v4 k0 k1 h = some (z, hz)) (hn1 : nc ≤ nK) (hn2 : ns ≤ sK) (hR1 : nK ≤ 601024) (hR2 : sK ≤ 7293034) (kI : ∀ (s2 : Int32) (xd5 : Value) (xd6 : Value) (xd7 : Value), z = .inl s2 → AR g X nK sK Q hz 23 [.ref 100099, .ref 0, .ref 240, .ref 277, .int s2, xd5, xd6, xd7] []) (kE0 : ∀ (yy : Unit) (y0 : Value) (y1 : Value) (y2 : Value) (y3 : Value) (y4 : Value) (y5 : Value) (y6 : Value) (y7 : Value), z = .inr yy → AR g X nK sK Q hz 1904 [y0, y1, y2, y3, y4, y5, y6, y7] []) : AR g X nc ns Q h 876 [.ref 100099, .ref 0, .ref 240, .ref 277, .int v4, d5, d6, d7] [.long k0, .long k1] := by
  unfold j_L_law_876_23 at e
  refine aw_lcmp hX d_L_law_876 ?_
  refine aw_if_eq (t := 882) hX (by decide) d_L_law_877 (fun c => ?_) (fun c => ?_)
  · replace c := lc_eq.mp c
    rw [if_pos c] at e
    exact tj_L_law_882_23 hF hX hx e (by omega) (by omega) hR1 hR2 kI kE0
  · replace c := fun q => c (lc_eq.mpr q)
    rw [if_neg c] at e
    cases e
def j_L_law_783_23 (L : Nat) (xs : Nat → Int32) (v4 : Int32) (h : AH) : Option ((Int32 ⊕ Unit) × AH) := j_L_law_1898_23 L xs v4 h
theorem tj_L_law_783_23 {g : GP} {X : MX} {L : Nat} {xs : Nat → Int32} (hF : gF g = true) (hX : Cx g RL cL_law 12 601024 7293034 (some .boolean) [] X) (hx : SX g X L xs) {nc ns : Nat} {Q : State → Prop} {nK sK : Nat} {v4 : Int32} {d5 : Value} {d6 : Value} {d7 : Value} {h hz : AH} {z : (Int32 ⊕ Unit)} (e : j_L_law_783_23 L xs v4 h = some (z, hz)) (hn1 : nc ≤ nK) (hn2 : ns ≤ sK) (hR1 : nK ≤ 601024) (hR2 : sK ≤ 7293034) (kI : ∀ (s2 : Int32) (xd5 : Value) (xd6 : Value) (xd7 : Value), z = .inl s2 → AR g X nK sK Q hz 23 [.ref 100099, .ref 0, .ref 240, .ref 277, .int s2, xd5, xd6, xd7] []) (kE0 : ∀ (yy : Unit) (y0 : Value) (y1 : Value) (y2 : Value) (y3 : Value) (y4 : Value) (y5 : Value) (y6 : Value) (y7 : Value), z = .inr yy → AR g X nK sK Q hz 1904 [y0, y1, y2, y3, y4, y5, y6, y7] []) : AR g X nc ns Q h 783 [.ref 100099, .ref 0, .ref 240, .ref 277, .int v4, d5, d6, d7] [] := by
  unfold j_L_law_783_23 at e
  refine aw_goto (t := 1898) hX (by decide) d_L_law_783 ?_
  exact tj_L_law_1898_23 hF hX hx e (by omega) (by omega) hR1 hR2 kI kE0
def j_L_law_727_23 (L : Nat) (xs : Nat → Int32) (v4 : Int32) (h : AH) : Option ((Int32 ⊕ Unit) × AH) := j_L_law_1898_23 L xs v4 h
theorem tj_L_law_727_23 {g : GP} {X : MX} {L : Nat} {xs : Nat → Int32} (hF : gF g = true) (hX : Cx g RL cL_law 12 601024 7293034 (some .boolean) [] X) (hx : SX g X L xs) {nc ns : Nat} {Q : State → Prop} {nK sK : Nat} {v4 : Int32} {d5 : Value} {d6 : Value} {d7 : Value} {h hz : AH} {z : (Int32 ⊕ Unit)} (e : j_L_law_727_23 L xs v4 h = some (z, hz)) (hn1 : nc ≤ nK) (hn2 : ns ≤ sK) (hR1 : nK ≤ 601024) (hR2 : sK ≤ 7293034) (kI : ∀ (s2 : Int32) (xd5 : Value) (xd6 : Value) (xd7 : Value), z = .inl s2 → AR g X nK sK Q hz 23 [.ref 100099, .ref 0, .ref 240, .ref 277, .int s2, xd5, xd6, xd7] []) (kE0 : ∀ (yy : Unit) (y0 : Value) (y1 : Value) (y2 : Value) (y3 : Value) (y4 : Value) (y5 : Value) (y6 : Value) (y7 : Value), z = .inr yy → AR g X nK sK Q hz 1904 [y0, y1, y2, y3, y4, y5, y6, y7] []) : AR g X nc ns Q h 727 [.ref 100099, .ref 0, .ref 240, .ref 277, .int v4, d5, d6, d7] [] := by
  unfold j_L_law_727_23 at e
  refine aw_goto (t := 1898) hX (by decide) d_L_law_727 ?_
  exact tj_L_law_1898_23 hF hX hx e (by omega) (by omega) hR1 hR2 kI kE0
def j_L_law_659_23 (L : Nat) (xs : Nat → Int32) (v4 : Int32) (h : AH) : Option ((Int32 ⊕ Unit) × AH) := j_L_law_1898_23 L xs v4 h
theorem tj_L_law_659_23 {g : GP} {X : MX} {L : Nat} {xs : Nat → Int32} (hF : gF g = true) (hX : Cx g RL cL_law 12 601024 7293034 (some .boolean) [] X) (hx : SX g X L xs) {nc ns : Nat} {Q : State → Prop} {nK sK : Nat} {v4 : Int32} {d5 : Value} {d6 : Value} {d7 : Value} {h hz : AH} {z : (Int32 ⊕ Unit)} (e : j_L_law_659_23 L xs v4 h = some (z, hz)) (hn1 : nc ≤ nK) (hn2 : ns ≤ sK) (hR1 : nK ≤ 601024) (hR2 : sK ≤ 7293034) (kI : ∀ (s2 : Int32) (xd5 : Value) (xd6 : Value) (xd7 : Value), z = .inl s2 → AR g X nK sK Q hz 23 [.ref 100099, .ref 0, .ref 240, .ref 277, .int s2, xd5, xd6, xd7] []) (kE0 : ∀ (yy : Unit) (y0 : Value) (y1 : Value) (y2 : Value) (y3 : Value) (y4 : Value) (y5 : Value) (y6 : Value) (y7 : Value), z = .inr yy → AR g X nK sK Q hz 1904 [y0, y1, y2, y3, y4, y5, y6, y7] []) : AR g X nc ns Q h 659 [.ref 100099, .ref 0, .ref 240, .ref 277, .int v4, d5, d6, d7] [] := by
  unfold j_L_law_659_23 at e
  refine aw_goto (t := 1898) hX (by decide) d_L_law_659 ?_
  exact tj_L_law_1898_23 hF hX hx e (by omega) (by omega) hR1 hR2 kI kE0
def j_L_law_626_23 (L : Nat) (xs : Nat → Int32) (v4 : Int32) (v5 : Int32) (k0 : Int32) (k1 : Int32) (k2 : Int32) (h : AH) : Option ((Int32 ⊕ Unit) × AH) := bd (s_X10_chance k2 k1 k0 h) fun q157 => bd (s_X10_thrown q157.2) fun x158 => if x158 = v5 then if v5 = 0 then bd (ldL q157.2 277 0) fun x159 => if x159 = q157.1.toInt64 then j_L_law_659_23 L xs v4 q157.2 else none else j_L_law_659_23 L xs v4 q157.2 else none
theorem tj_L_law_626_23 {g : GP} {X : MX} {L : Nat} {xs : Nat → Int32} (hF : gF g = true) (hX : Cx g RL cL_law 12 601024 7293034 (some .boolean) [] X) (hx : SX g X L xs) {nc ns : Nat} {Q : State → Prop} {nK sK : Nat} {v4 : Int32} {v5 : Int32} {k0 : Int32} {k1 : Int32} {k2 : Int32} {d6 : Value} {d7 : Value} {h hz : AH} {z : (Int32 ⊕ Unit)} (e : j_L_law_626_23 L xs v4 v5 k0 k1 k2 h = some (z, hz)) (hn1 : nc ≤ nK) (hn2 : ns ≤ sK) (hR1 : nK ≤ 601024) (hR2 : sK ≤ 7293034) (kI : ∀ (s2 : Int32) (xd5 : Value) (xd6 : Value) (xd7 : Value), z = .inl s2 → AR g X nK sK Q hz 23 [.ref 100099, .ref 0, .ref 240, .ref 277, .int s2, xd5, xd6, xd7] []) (kE0 : ∀ (yy : Unit) (y0 : Value) (y1 : Value) (y2 : Value) (y3 : Value) (y4 : Value) (y5 : Value) (y6 : Value) (y7 : Value), z = .inr yy → AR g X nK sK Q hz 1904 [y0, y1, y2, y3, y4, y5, y6, y7] []) : AR g X nc ns Q h 626 [.ref 100099, .ref 0, .ref 240, .ref 277, .int v4, .int v5, d6, d7] [.int k0, .int k1, .int k2, .ref 240] := by
  unfold j_L_law_626_23 at e
  obtain ⟨q157, f_1734, e_1734⟩ := bd_some e
  clear e
  refine aw_callV (b := 240) (av := [.int k2, .int k1, .int k0]) (avr := [.int k0, .int k1, .int k2]) hX (k_X10_chance (cx_g hX) hF f_1734) mi_X10_chance rfl rfl w_1166 w_1167 w_1168 (by decide) rfl (LAY_lt rfl (by decide)) rfl rfl (Nat.le_of_ble_eq_true rfl) (by omega) (by omega) d_L_law_626 ?_
  refine aw_istore (i := 6) (lv2 := [.ref 100099, .ref 0, .ref 240, .ref 277, .int v4, .int v5, .int q157.1, d7]) hX rfl rfl d_L_law_629 ?_
  refine aw_aload_n (i := 2) hX rfl rfl d_L_law_631 ?_
  obtain ⟨x158, f_1735, e_1735⟩ := bd_some e_1734
  clear e_1734
  refine aw_callV (b := 240) (av := []) (avr := []) hX (k_X10_thrown (cx_g hX) hF f_1735) mi_X10_thrown rfl rfl w_1023 w_1024 w_1025 (by decide) rfl (LAY_lt rfl (by decide)) rfl rfl (Nat.le_of_ble_eq_true rfl) (by omega) (by omega) d_L_law_632 ?_
  refine aw_iload (i := 5) hX rfl d_L_law_635 ?_
  refine aw_icmp_eq (t := 642) hX (by decide) d_L_law_637 (fun c => ?_) (fun c => ?_)
  · rw [if_pos c] at e_1735
    refine aw_iload (i := 5) hX rfl d_L_law_642 ?_
    refine aw_if_ne (t := 659) hX (by decide) d_L_law_644 (fun c => ?_) (fun c => ?_)
    · rw [if_neg c] at e_1735
      exact tj_L_law_659_23 hF hX hx e_1735 (by omega) (by omega) hR1 hR2 kI kE0
    · rw [if_pos c] at e_1735
      refine aw_aload_n (i := 3) hX rfl rfl d_L_law_647 ?_
      refine aw_iconst (v := 0) hX (by decide) d_L_law_648 ?_
      obtain ⟨x159, f_1736, e_1736⟩ := bd_some e_1735
      clear e_1735
      refine ar_laload hX f_1736 d_L_law_649 ?_
      refine aw_iload (i := 6) hX rfl d_L_law_650 ?_
      refine aw_i2l hX d_L_law_652 ?_
      refine aw_lcmp hX d_L_law_653 ?_
      refine aw_if_eq (t := 659) hX (by decide) d_L_law_654 (fun c => ?_) (fun c => ?_)
      · replace c := lc_eq.mp c
        rw [if_pos c] at e_1736
        exact tj_L_law_659_23 hF hX hx e_1736 (by omega) (by omega) hR1 hR2 kI kE0
      · replace c := fun q => c (lc_eq.mpr q)
        rw [if_neg c] at e_1736
        cases e_1736
  · rw [if_neg c] at e_1735
    cases e_1735
def j_L_law_593_23 (L : Nat) (xs : Nat → Int32) (v4 : Int32) (k0 : Int32) (k1 : Int32) (k2 : Int32) (h : AH) : Option ((Int32 ⊕ Unit) × AH) := bd (s_L_chance (some 0) k2 k1 k0 (some 277) h) fun q153 => bd (ldS L xs (v4 + 1)) fun x154 => bd (ldS L xs (v4 + 2)) fun x155 => bd (ldS L xs (v4 + 3)) fun x156 => if x156 = 0 then j_L_law_626_23 L xs v4 q153.1 0 x155 x154 q153.2 else j_L_law_626_23 L xs v4 q153.1 1 x155 x154 q153.2
theorem tj_L_law_593_23 {g : GP} {X : MX} {L : Nat} {xs : Nat → Int32} (hF : gF g = true) (hX : Cx g RL cL_law 12 601024 7293034 (some .boolean) [] X) (hx : SX g X L xs) {nc ns : Nat} {Q : State → Prop} {nK sK : Nat} {v4 : Int32} {k0 : Int32} {k1 : Int32} {k2 : Int32} {d5 : Value} {d6 : Value} {d7 : Value} {h hz : AH} {z : (Int32 ⊕ Unit)} (e : j_L_law_593_23 L xs v4 k0 k1 k2 h = some (z, hz)) (hn1 : nc + 1 ≤ nK) (hn2 : ns + 6 ≤ sK) (hR1 : nK ≤ 601024) (hR2 : sK ≤ 7293034) (kI : ∀ (s2 : Int32) (xd5 : Value) (xd6 : Value) (xd7 : Value), z = .inl s2 → AR g X nK sK Q hz 23 [.ref 100099, .ref 0, .ref 240, .ref 277, .int s2, xd5, xd6, xd7] []) (kE0 : ∀ (yy : Unit) (y0 : Value) (y1 : Value) (y2 : Value) (y3 : Value) (y4 : Value) (y5 : Value) (y6 : Value) (y7 : Value), z = .inr yy → AR g X nK sK Q hz 1904 [y0, y1, y2, y3, y4, y5, y6, y7] []) : AR g X nc ns Q h 593 [.ref 100099, .ref 0, .ref 240, .ref 277, .int v4, d5, d6, d7] [.int k0, .int k1, .int k2, .ref 0] := by
  unfold j_L_law_593_23 at e
  refine aw_aload_n (i := 3) hX rfl rfl d_L_law_593 ?_
  obtain ⟨q153, f_1737, e_1737⟩ := bd_some e
  clear e
  refine aw_callSW (av := [.ref 0, .int k2, .int k1, .int k0, .ref 277]) (avr := [.ref 277, .int k0, .int k1, .int k2, .ref 0]) hX (k_L_chance (cx_g hX) hF f_1737) miw_L_chance rfl rfl w_1163 w_1164 (by decide) (Nat.le_of_ble_eq_true rfl) (by omega) (by omega) d_L_law_594 ?_
  refine aw_istore (i := 5) (lv2 := [.ref 100099, .ref 0, .ref 240, .ref 277, .int v4, .int q153.1, d6, d7]) hX rfl rfl d_L_law_597 ?_
  refine aw_aload_n (i := 2) hX rfl rfl d_L_law_599 ?_
  refine aw_aload_n (i := 0) hX rfl rfl d_L_law_600 ?_
  refine aw_iload (i := 4) hX rfl d_L_law_601 ?_
  refine aw_iconst (v := 1) hX (by decide) d_L_law_603 ?_
  refine aw_iadd hX d_L_law_604 ?_
  obtain ⟨x154, f_1738, e_1738⟩ := bd_some e_1737
  clear e_1737
  refine ar_sld hX hx f_1738 d_L_law_605 ?_
  refine aw_aload_n (i := 0) hX rfl rfl d_L_law_606 ?_
  refine aw_iload (i := 4) hX rfl d_L_law_607 ?_
  refine aw_iconst (v := 2) hX (by decide) d_L_law_609 ?_
  refine aw_iadd hX d_L_law_610 ?_
  obtain ⟨x155, f_1739, e_1739⟩ := bd_some e_1738
  clear e_1738
  refine ar_sld hX hx f_1739 d_L_law_611 ?_
  refine aw_aload_n (i := 0) hX rfl rfl d_L_law_612 ?_
  refine aw_iload (i := 4) hX rfl d_L_law_613 ?_
  refine aw_iconst (v := 3) hX (by decide) d_L_law_615 ?_
  refine aw_iadd hX d_L_law_616 ?_
  obtain ⟨x156, f_1740, e_1740⟩ := bd_some e_1739
  clear e_1739
  refine ar_sld hX hx f_1740 d_L_law_617 ?_
  refine aw_if_eq (t := 625) hX (by decide) d_L_law_618 (fun c => ?_) (fun c => ?_)
  · rw [if_pos c] at e_1740
    refine aw_iconst (v := 0) hX (by decide) d_L_law_625 ?_
    exact tj_L_law_626_23 hF hX hx e_1740 (by omega) (by omega) hR1 hR2 kI kE0
  · rw [if_neg c] at e_1740
    refine aw_iconst (v := 1) hX (by decide) d_L_law_621 ?_
    refine aw_goto (t := 626) hX (by decide) d_L_law_622 ?_
    exact tj_L_law_626_23 hF hX hx e_1740 (by omega) (by omega) hR1 hR2 kI kE0
def j_L_law_563_23 (L : Nat) (xs : Nat → Int32) (v4 : Int32) (h : AH) : Option ((Int32 ⊕ Unit) × AH) := j_L_law_1898_23 L xs v4 h
theorem tj_L_law_563_23 {g : GP} {X : MX} {L : Nat} {xs : Nat → Int32} (hF : gF g = true) (hX : Cx g RL cL_law 12 601024 7293034 (some .boolean) [] X) (hx : SX g X L xs) {nc ns : Nat} {Q : State → Prop} {nK sK : Nat} {v4 : Int32} {d5 : Value} {d6 : Value} {d7 : Value} {h hz : AH} {z : (Int32 ⊕ Unit)} (e : j_L_law_563_23 L xs v4 h = some (z, hz)) (hn1 : nc ≤ nK) (hn2 : ns ≤ sK) (hR1 : nK ≤ 601024) (hR2 : sK ≤ 7293034) (kI : ∀ (s2 : Int32) (xd5 : Value) (xd6 : Value) (xd7 : Value), z = .inl s2 → AR g X nK sK Q hz 23 [.ref 100099, .ref 0, .ref 240, .ref 277, .int s2, xd5, xd6, xd7] []) (kE0 : ∀ (yy : Unit) (y0 : Value) (y1 : Value) (y2 : Value) (y3 : Value) (y4 : Value) (y5 : Value) (y6 : Value) (y7 : Value), z = .inr yy → AR g X nK sK Q hz 1904 [y0, y1, y2, y3, y4, y5, y6, y7] []) : AR g X nc ns Q h 563 [.ref 100099, .ref 0, .ref 240, .ref 277, .int v4, d5, d6, d7] [] := by
  unfold j_L_law_563_23 at e
  refine aw_goto (t := 1898) hX (by decide) d_L_law_563 ?_
  exact tj_L_law_1898_23 hF hX hx e (by omega) (by omega) hR1 hR2 kI kE0
def j_L_law_507_23 (L : Nat) (xs : Nat → Int32) (v4 : Int32) (h : AH) : Option ((Int32 ⊕ Unit) × AH) := j_L_law_1898_23 L xs v4 h
theorem tj_L_law_507_23 {g : GP} {X : MX} {L : Nat} {xs : Nat → Int32} (hF : gF g = true) (hX : Cx g RL cL_law 12 601024 7293034 (some .boolean) [] X) (hx : SX g X L xs) {nc ns : Nat} {Q : State → Prop} {nK sK : Nat} {v4 : Int32} {d5 : Value} {d6 : Value} {d7 : Value} {h hz : AH} {z : (Int32 ⊕ Unit)} (e : j_L_law_507_23 L xs v4 h = some (z, hz)) (hn1 : nc ≤ nK) (hn2 : ns ≤ sK) (hR1 : nK ≤ 601024) (hR2 : sK ≤ 7293034) (kI : ∀ (s2 : Int32) (xd5 : Value) (xd6 : Value) (xd7 : Value), z = .inl s2 → AR g X nK sK Q hz 23 [.ref 100099, .ref 0, .ref 240, .ref 277, .int s2, xd5, xd6, xd7] []) (kE0 : ∀ (yy : Unit) (y0 : Value) (y1 : Value) (y2 : Value) (y3 : Value) (y4 : Value) (y5 : Value) (y6 : Value) (y7 : Value), z = .inr yy → AR g X nK sK Q hz 1904 [y0, y1, y2, y3, y4, y5, y6, y7] []) : AR g X nc ns Q h 507 [.ref 100099, .ref 0, .ref 240, .ref 277, .int v4, d5, d6, d7] [] := by
  unfold j_L_law_507_23 at e
  refine aw_goto (t := 1898) hX (by decide) d_L_law_507 ?_
  exact tj_L_law_1898_23 hF hX hx e (by omega) (by omega) hR1 hR2 kI kE0
def j_L_law_439_23 (L : Nat) (xs : Nat → Int32) (v4 : Int32) (h : AH) : Option ((Int32 ⊕ Unit) × AH) := j_L_law_1898_23 L xs v4 h
theorem tj_L_law_439_23 {g : GP} {X : MX} {L : Nat} {xs : Nat → Int32} (hF : gF g = true) (hX : Cx g RL cL_law 12 601024 7293034 (some .boolean) [] X) (hx : SX g X L xs) {nc ns : Nat} {Q : State → Prop} {nK sK : Nat} {v4 : Int32} {d5 : Value} {d6 : Value} {d7 : Value} {h hz : AH} {z : (Int32 ⊕ Unit)} (e : j_L_law_439_23 L xs v4 h = some (z, hz)) (hn1 : nc ≤ nK) (hn2 : ns ≤ sK) (hR1 : nK ≤ 601024) (hR2 : sK ≤ 7293034) (kI : ∀ (s2 : Int32) (xd5 : Value) (xd6 : Value) (xd7 : Value), z = .inl s2 → AR g X nK sK Q hz 23 [.ref 100099, .ref 0, .ref 240, .ref 277, .int s2, xd5, xd6, xd7] []) (kE0 : ∀ (yy : Unit) (y0 : Value) (y1 : Value) (y2 : Value) (y3 : Value) (y4 : Value) (y5 : Value) (y6 : Value) (y7 : Value), z = .inr yy → AR g X nK sK Q hz 1904 [y0, y1, y2, y3, y4, y5, y6, y7] []) : AR g X nc ns Q h 439 [.ref 100099, .ref 0, .ref 240, .ref 277, .int v4, d5, d6, d7] [] := by
  unfold j_L_law_439_23 at e
  refine aw_goto (t := 1898) hX (by decide) d_L_law_439 ?_
  exact tj_L_law_1898_23 hF hX hx e (by omega) (by omega) hR1 hR2 kI kE0
def j_L_law_371_23 (L : Nat) (xs : Nat → Int32) (v4 : Int32) (h : AH) : Option ((Int32 ⊕ Unit) × AH) := j_L_law_1898_23 L xs v4 h
theorem tj_L_law_371_23 {g : GP} {X : MX} {L : Nat} {xs : Nat → Int32} (hF : gF g = true) (hX : Cx g RL cL_law 12 601024 7293034 (some .boolean) [] X) (hx : SX g X L xs) {nc ns : Nat} {Q : State → Prop} {nK sK : Nat} {v4 : Int32} {d5 : Value} {d6 : Value} {d7 : Value} {h hz : AH} {z : (Int32 ⊕ Unit)} (e : j_L_law_371_23 L xs v4 h = some (z, hz)) (hn1 : nc ≤ nK) (hn2 : ns ≤ sK) (hR1 : nK ≤ 601024) (hR2 : sK ≤ 7293034) (kI : ∀ (s2 : Int32) (xd5 : Value) (xd6 : Value) (xd7 : Value), z = .inl s2 → AR g X nK sK Q hz 23 [.ref 100099, .ref 0, .ref 240, .ref 277, .int s2, xd5, xd6, xd7] []) (kE0 : ∀ (yy : Unit) (y0 : Value) (y1 : Value) (y2 : Value) (y3 : Value) (y4 : Value) (y5 : Value) (y6 : Value) (y7 : Value), z = .inr yy → AR g X nK sK Q hz 1904 [y0, y1, y2, y3, y4, y5, y6, y7] []) : AR g X nc ns Q h 371 [.ref 100099, .ref 0, .ref 240, .ref 277, .int v4, d5, d6, d7] [] := by
  unfold j_L_law_371_23 at e
  refine aw_goto (t := 1898) hX (by decide) d_L_law_371 ?_
  exact tj_L_law_1898_23 hF hX hx e (by omega) (by omega) hR1 hR2 kI kE0
def j_L_law_302_23 (L : Nat) (xs : Nat → Int32) (v4 : Int32) (h : AH) : Option ((Int32 ⊕ Unit) × AH) := j_L_law_1898_23 L xs v4 h
theorem tj_L_law_302_23 {g : GP} {X : MX} {L : Nat} {xs : Nat → Int32} (hF : gF g = true) (hX : Cx g RL cL_law 12 601024 7293034 (some .boolean) [] X) (hx : SX g X L xs) {nc ns : Nat} {Q : State → Prop} {nK sK : Nat} {v4 : Int32} {d5 : Value} {d6 : Value} {d7 : Value} {h hz : AH} {z : (Int32 ⊕ Unit)} (e : j_L_law_302_23 L xs v4 h = some (z, hz)) (hn1 : nc ≤ nK) (hn2 : ns ≤ sK) (hR1 : nK ≤ 601024) (hR2 : sK ≤ 7293034) (kI : ∀ (s2 : Int32) (xd5 : Value) (xd6 : Value) (xd7 : Value), z = .inl s2 → AR g X nK sK Q hz 23 [.ref 100099, .ref 0, .ref 240, .ref 277, .int s2, xd5, xd6, xd7] []) (kE0 : ∀ (yy : Unit) (y0 : Value) (y1 : Value) (y2 : Value) (y3 : Value) (y4 : Value) (y5 : Value) (y6 : Value) (y7 : Value), z = .inr yy → AR g X nK sK Q hz 1904 [y0, y1, y2, y3, y4, y5, y6, y7] []) : AR g X nc ns Q h 302 [.ref 100099, .ref 0, .ref 240, .ref 277, .int v4, d5, d6, d7] [] := by
  unfold j_L_law_302_23 at e
  refine aw_goto (t := 1898) hX (by decide) d_L_law_302 ?_
  exact tj_L_law_1898_23 hF hX hx e (by omega) (by omega) hR1 hR2 kI kE0
def l_L_law_23 (L : Nat) (xs : Nat → Int32) (s : Int32) (h : AH) : Option ((Int32 ⊕ Unit) × AH) := if ((Int32.ofNat L) - 6) < s then some (.inr (), h) else bd (ldS L xs s) fun x1 => if (x1 &&& 31) = 0 then bd (ldS L xs (s + 1)) fun x196 => bd (ldS L xs (s + 2)) fun x197 => bd (ldS L xs (s + 3)) fun x198 => bd (ldS L xs (s + 4)) fun x199 => bd (ldS L xs (s + 5)) fun x200 => bd (s_X9_feed x196 x197 x198 x199 x200 h) fun q201 => bd (ldS L xs (s + 1)) fun x202 => bd (ldS L xs (s + 2)) fun x203 => bd (ldS L xs (s + 3)) fun x204 => bd (ldS L xs (s + 4)) fun x205 => bd (ldS L xs (s + 5)) fun x206 => bd (s_X10_feed x202 x203 x204 x205 x206 q201.2) fun q207 => if q201.1 = q207.1 then j_L_law_1898_23 L xs s q207.2 else none else if (x1 &&& 31) = 1 then bd (ldS L xs (s + 1)) fun x190 => bd (s_L_hall (some 0) x190 (some 277) h) fun q191 => bd (ldS L xs (s + 1)) fun x192 => bd (s_X10_hall x192 q191.2) fun q193 => bd (s_X10_thrown q193.2) fun x194 => if x194 = q191.1 then if q191.1 = 0 then bd (ldL q193.2 277 0) fun x195 => if x195 = q193.1.toInt64 then j_L_law_302_23 L xs s q193.2 else none else j_L_law_302_23 L xs s q193.2 else none else if (x1 &&& 31) = 2 then bd (s_X9_fault h) fun x188 => bd (s_X10_fault h) fun q189 => if x188 = q189.1 then j_L_law_1898_23 L xs s q189.2 else none else if (x1 &&& 31) = 3 then bd (ldS L xs (s + 1)) fun x182 => bd (s_L_count (some 0) x182 (some 277) h) fun q183 => bd (ldS L xs (s + 1)) fun x184 => bd (s_X10_count x184 q183.2) fun q185 => bd (s_X10_thrown q185.2) fun x186 => if x186 = q183.1 then if q183.1 = 0 then bd (ldL q185.2 277 0) fun x187 => if x187 = q185.1.toInt64 then j_L_law_371_23 L xs s q185.2 else none else j_L_law_371_23 L xs s q185.2 else none else if (x1 &&& 31) = 4 then bd (ldS L xs (s + 1)) fun x174 => bd (ldS L xs (s + 2)) fun x175 => bd (s_L_evening (some 0) x174 x175 (some 277) h) fun q176 => bd (ldS L xs (s + 1)) fun x177 => bd (ldS L xs (s + 2)) fun x178 => bd (s_X10_evening x177 x178 q176.2) fun q179 => bd (s_X10_thrown q179.2) fun x180 => if x180 = q176.1 then if q176.1 = 0 then bd (ldL q179.2 277 0) fun x181 => if x181 = q179.1.toInt64 then j_L_law_439_23 L xs s q179.2 else none else j_L_law_439_23 L xs s q179.2 else none else if (x1 &&& 31) = 5 then bd (ldS L xs (s + 1)) fun x166 => bd (ldS L xs (s + 2)) fun x167 => bd (s_L_kind (some 0) x166 x167 (some 277) h) fun q168 => bd (ldS L xs (s + 1)) fun x169 => bd (ldS L xs (s + 2)) fun x170 => bd (s_X10_kind x169 x170 q168.2) fun q171 => bd (s_X10_thrown q171.2) fun x172 => if x172 = q168.1 then if q168.1 = 0 then bd (ldL q171.2 277 0) fun x173 => if x173 = q171.1.toInt64 then j_L_law_507_23 L xs s q171.2 else none else j_L_law_507_23 L xs s q171.2 else none else if (x1 &&& 31) = 6 then bd (ldS L xs (s + 1)) fun x160 => bd (s_L_price (some 0) x160 (some 277) h) fun q161 => bd (ldS L xs (s + 1)) fun x162 => bd (s_X10_price x162 q161.2) fun q163 => bd (s_X10_thrown q163.2) fun x164 => if x164 = q161.1 then if q161.1 = 0 then bd (ldL q163.2 277 0) fun x165 => if x165 = q163.1.toInt64 then j_L_law_563_23 L xs s q163.2 else none else j_L_law_563_23 L xs s q163.2 else none else if (x1 &&& 31) = 7 then bd (ldS L xs (s + 1)) fun x150 => bd (ldS L xs (s + 2)) fun x151 => bd (ldS L xs (s + 3)) fun x152 => if x152 = 0 then j_L_law_593_23 L xs s 0 x151 x150 h else j_L_law_593_23 L xs s 1 x151 x150 h else if (x1 &&& 31) = 8 then bd (ldS L xs (s + 1)) fun x142 => bd (ldS L xs (s + 2)) fun x143 => bd (s_L_good (some 0) x142 x143 (some 277) h) fun q144 => bd (ldS L xs (s + 1)) fun x145 => bd (ldS L xs (s + 2)) fun x146 => bd (s_X10_good x145 x146 q144.2) fun q147 => bd (s_X10_thrown q147.2) fun x148 => if x148 = q144.1 then if q144.1 = 0 then bd (ldL q147.2 277 0) fun x149 => if x149 = q147.1.toInt64 then j_L_law_727_23 L xs s q147.2 else none else j_L_law_727_23 L xs s q147.2 else none else if (x1 &&& 31) = 9 then bd (ldS L xs (s + 1)) fun x136 => bd (s_L_buys (some 0) x136 (some 277) h) fun q137 => bd (ldS L xs (s + 1)) fun x138 => bd (s_X10_buys x138 q137.2) fun q139 => bd (s_X10_thrown q139.2) fun x140 => if x140 = q137.1 then if q137.1 = 0 then bd (ldL q139.2 277 0) fun x141 => if x141 = q139.1.toInt64 then j_L_law_783_23 L xs s q139.2 else none else j_L_law_783_23 L xs s q139.2 else none else if (x1 &&& 31) = 10 then bd (ldS L xs (s + 1)) fun x124 => bd (ldS L xs (s + 2)) fun x125 => bd (ldS L xs (s + 3)) fun x126 => bd (ldS L xs (s + 4)) fun x127 => bd (s_L_goes (some 0) x124 x125 x126 x127 (some 277) h) fun q128 => bd (ldS L xs (s + 1)) fun x129 => bd (ldS L xs (s + 2)) fun x130 => bd (ldS L xs (s + 3)) fun x131 => bd (ldS L xs (s + 4)) fun x132 => bd (s_X10_goes x129 x130 x131 x132 q128.2) fun q133 => bd (s_X10_thrown q133.2) fun x134 => if x134 = q128.1 then if q128.1 = 0 then bd (ldL q133.2 277 0) fun x135 => if q133.1 = 0 then j_L_law_876_23 L xs s 0 x135 q133.2 else j_L_law_876_23 L xs s 1 x135 q133.2 else j_L_law_882_23 L xs s q133.2 else none else if (x1 &&& 31) = 11 then bd (ldS L xs (s + 1)) fun x116 => bd (ldS L xs (s + 2)) fun x117 => bd (s_L_coming (some 0) x116 x117 (some 277) h) fun q118 => bd (ldS L xs (s + 1)) fun x119 => bd (ldS L xs (s + 2)) fun x120 => bd (s_X10_coming x119 x120 q118.2) fun q121 => bd (s_X10_thrown q121.2) fun x122 => if x122 = q118.1 then if q118.1 = 0 then bd (ldL q121.2 277 0) fun x123 => if x123 = q121.1.toInt64 then j_L_law_950_23 L xs s q121.2 else none else j_L_law_950_23 L xs s q121.2 else none else if (x1 &&& 31) = 12 then bd (ldS L xs (s + 1)) fun x108 => bd (ldS L xs (s + 2)) fun x109 => bd (s_L_often (some 0) x108 x109 (some 277) h) fun q110 => bd (ldS L xs (s + 1)) fun x111 => bd (ldS L xs (s + 2)) fun x112 => bd (s_X10_often x111 x112 q110.2) fun q113 => bd (s_X10_thrown q113.2) fun x114 => if x114 = q110.1 then if q110.1 = 0 then bd (ldL q113.2 277 0) fun x115 => if x115 = q113.1 then j_L_law_1017_23 L xs s q113.2 else none else j_L_law_1017_23 L xs s q113.2 else none else if (x1 &&& 31) = 13 then bd (ldS L xs (s + 1)) fun x100 => bd (ldS L xs (s + 2)) fun x101 => bd (s_L_full (some 0) x100 x101 (some 277) h) fun q102 => bd (ldS L xs (s + 1)) fun x103 => bd (ldS L xs (s + 2)) fun x104 => bd (s_X10_full x103 x104 q102.2) fun q105 => bd (s_X10_thrown q105.2) fun x106 => if x106 = q102.1 then if q102.1 = 0 then bd (ldL q105.2 277 0) fun x107 => if x107 = q105.1.toInt64 then j_L_law_1085_23 L xs s q105.2 else none else j_L_law_1085_23 L xs s q105.2 else none else if (x1 &&& 31) = 14 then bd (s_X9_earns h) fun x98 => bd (s_X10_earns h) fun q99 => if x98 = q99.1 then j_L_law_1898_23 L xs s q99.2 else none else if (x1 &&& 31) = 15 then bd (ldS L xs (s + 1)) fun x86 => bd (ldS L xs (s + 2)) fun x87 => bd (ldS L xs (s + 3)) fun x88 => bd (ldS L xs (s + 4)) fun x89 => bd (s_L_prices (some 0) x86 x87 x88 x89 (some 277) h) fun q90 => bd (ldS L xs (s + 1)) fun x91 => bd (ldS L xs (s + 2)) fun x92 => bd (ldS L xs (s + 3)) fun x93 => bd (ldS L xs (s + 4)) fun x94 => bd (s_X10_prices x91 x92 x93 x94 q90.2) fun q95 => bd (s_X10_thrown q95.2) fun x96 => if x96 = q90.1 then if q90.1 = 0 then bd (ldL q95.2 277 0) fun x97 => if x97 = q95.1.toInt64 then j_L_law_1191_23 L xs s q95.2 else none else j_L_law_1191_23 L xs s q95.2 else none else if (x1 &&& 31) = 16 then bd (ldS L xs (s + 1)) fun x80 => bd (s_L_found (some 0) x80 (some 277) h) fun q81 => bd (ldS L xs (s + 1)) fun x82 => bd (s_X10_found x82 q81.2) fun q83 => bd (s_X10_thrown q83.2) fun x84 => if x84 = q81.1 then if q81.1 = 0 then bd (ldL q83.2 277 0) fun x85 => if x85 = q83.1 then j_L_law_1246_23 L xs s q83.2 else none else j_L_law_1246_23 L xs s q83.2 else none else if (x1 &&& 31) = 17 then bd (ldS L xs (s + 1)) fun x72 => bd (ldS L xs (s + 2)) fun x73 => bd (s_L_over (some 0) x72 x73 (some 277) h) fun q74 => bd (ldS L xs (s + 1)) fun x75 => bd (ldS L xs (s + 2)) fun x76 => bd (s_X10_over x75 x76 q74.2) fun q77 => bd (s_X10_thrown q77.2) fun x78 => if x78 = q74.1 then if q74.1 = 0 then bd (ldL q77.2 277 0) fun x79 => if x79 = q77.1.toInt64 then j_L_law_1314_23 L xs s q77.2 else none else j_L_law_1314_23 L xs s q77.2 else none else if (x1 &&& 31) = 18 then bd (ldS L xs (s + 1)) fun x62 => bd (ldS L xs (s + 2)) fun x63 => bd (ldS L xs (s + 3)) fun x64 => bd (s_L_again (some 0) x62 x63 x64 (some 277) h) fun q65 => bd (ldS L xs (s + 1)) fun x66 => bd (ldS L xs (s + 2)) fun x67 => bd (ldS L xs (s + 3)) fun x68 => bd (s_X10_again x66 x67 x68 q65.2) fun q69 => bd (s_X10_thrown q69.2) fun x70 => if x70 = q65.1 then if q65.1 = 0 then bd (ldL q69.2 277 0) fun x71 => if x71 = q69.1.toInt64 then j_L_law_1394_23 L xs s q69.2 else none else j_L_law_1394_23 L xs s q69.2 else none else if (x1 &&& 31) = 19 then bd (ldS L xs (s + 1)) fun x56 => bd (s_L_pair (some 0) x56 (some 277) h) fun q57 => bd (ldS L xs (s + 1)) fun x58 => bd (s_X10_pair x58 q57.2) fun q59 => bd (s_X10_thrown q59.2) fun x60 => if x60 = q57.1 then if q57.1 = 0 then bd (ldL q59.2 277 0) fun x61 => if x61 = q59.1 then j_L_law_1449_23 L xs s q59.2 else none else j_L_law_1449_23 L xs s q59.2 else none else if (x1 &&& 31) = 20 then bd (ldS L xs (s + 1)) fun x50 => bd (s_L_paired (some 0) x50 (some 277) h) fun q51 => bd (ldS L xs (s + 1)) fun x52 => bd (s_X10_paired x52 q51.2) fun q53 => bd (s_X10_thrown q53.2) fun x54 => if x54 = q51.1 then if q51.1 = 0 then bd (ldL q53.2 277 0) fun x55 => if x55 = q53.1.toInt64 then j_L_law_1505_23 L xs s q53.2 else none else j_L_law_1505_23 L xs s q53.2 else none else if (x1 &&& 31) = 21 then bd (ldS L xs (s + 1)) fun x40 => bd (ldS L xs (s + 2)) fun x41 => bd (ldS L xs (s + 3)) fun x42 => bd (s_L_years (some 0) x40 x41 x42 (some 277) h) fun q43 => bd (ldS L xs (s + 1)) fun x44 => bd (ldS L xs (s + 2)) fun x45 => bd (ldS L xs (s + 3)) fun x46 => bd (s_X10_years x44 x45 x46 q43.2) fun q47 => bd (s_X10_thrown q47.2) fun x48 => if x48 = q43.1 then if q43.1 = 0 then bd (ldL q47.2 277 0) fun x49 => if x49 = q47.1 then j_L_law_1584_23 L xs s q47.2 else none else j_L_law_1584_23 L xs s q47.2 else none else if (x1 &&& 31) = 22 then bd (s_X9_order h) fun q38 => bd (s_X10_order q38.2) fun q39 => if q38.1 = q39.1 then j_L_law_1898_23 L xs s q39.2 else none else if (x1 &&& 31) = 23 then bd (ldS L xs (s + 1)) fun x32 => bd (s_L_ordered (some 0) x32 (some 277) h) fun q33 => bd (ldS L xs (s + 1)) fun x34 => bd (s_X10_ordered x34 q33.2) fun q35 => bd (s_X10_thrown q35.2) fun x36 => if x36 = q33.1 then if q33.1 = 0 then bd (ldL q35.2 277 0) fun x37 => if x37 = q35.1.toInt64 then j_L_law_1654_23 L xs s q35.2 else none else j_L_law_1654_23 L xs s q35.2 else none else if (x1 &&& 31) = 24 then bd (ldS L xs (s + 1)) fun x24 => bd (ldS L xs (s + 2)) fun x25 => bd (s_L_owed (some 0) x24 x25 (some 277) h) fun q26 => bd (ldS L xs (s + 1)) fun x27 => bd (ldS L xs (s + 2)) fun x28 => bd (s_X10_owed x27 x28 q26.2) fun q29 => bd (s_X10_thrown q29.2) fun x30 => if x30 = q26.1 then if q26.1 = 0 then bd (ldL q29.2 277 0) fun x31 => if x31 = q29.1.toInt64 then j_L_law_1722_23 L xs s q29.2 else none else j_L_law_1722_23 L xs s q29.2 else none else if (x1 &&& 31) = 25 then bd (ldS L xs (s + 1)) fun x20 => bd (s_X9_begin x20 h) fun q21 => bd (ldS L xs (s + 1)) fun x22 => bd (s_X10_begin x22 q21.2) fun q23 => j_L_law_1898_23 L xs s q23.2 else if (x1 &&& 31) = 26 then bd (ldS L xs (s + 1)) fun x14 => bd (s_L_on (some 0) x14 (some 277) h) fun q15 => bd (ldS L xs (s + 1)) fun x16 => bd (s_X10_on x16 q15.2) fun q17 => bd (s_X10_thrown q17.2) fun x18 => if x18 = q15.1 then if q15.1 = 0 then bd (ldL q17.2 277 0) fun x19 => if x19 = q17.1.toInt64 then j_L_law_1801_23 L xs s q17.2 else none else j_L_law_1801_23 L xs s q17.2 else none else if (x1 &&& 31) = 27 then bd (ldS L xs (s + 1)) fun x6 => bd (ldS L xs (s + 2)) fun x7 => bd (s_L_seen (some 0) x6 x7 (some 277) h) fun q8 => bd (ldS L xs (s + 1)) fun x9 => bd (ldS L xs (s + 2)) fun x10 => bd (s_X10_seen x9 x10 q8.2) fun q11 => bd (s_X10_thrown q11.2) fun x12 => if x12 = q8.1 then if q8.1 = 0 then bd (ldL q11.2 277 0) fun x13 => if x13 = q11.1.toInt64 then j_L_law_1869_23 L xs s q11.2 else none else j_L_law_1869_23 L xs s q11.2 else none else if (x1 &&& 31) = 28 then bd (s_X9_image h) fun q4 => bd (s_X10_image q4.2) fun q5 => if q4.1 = q5.1 then j_L_law_1898_23 L xs s q5.2 else none else if (x1 &&& 31) = 29 then bd (s_X9_restore h) fun q2 => bd (s_X10_restore q2.2) fun q3 => if q2.1 = q3.1 then j_L_law_1898_23 L xs s q3.2 else none else j_L_law_1898_23 L xs s h
theorem tb_L_law_23 {g : GP} {X : MX} {L : Nat} {xs : Nat → Int32} (hF : gF g = true) (hX : Cx g RL cL_law 12 601024 7293034 (some .boolean) [] X) (hx : SX g X L xs) {nc ns : Nat} {Q : State → Prop} {nK sK : Nat} {s : Int32} {d5 : Value} {d6 : Value} {d7 : Value} {h hz : AH} {z : (Int32 ⊕ Unit)} (e : l_L_law_23 L xs s h = some (z, hz)) (hn1 : nc + 1 ≤ nK) (hn2 : ns + 6 ≤ sK) (hR1 : nK ≤ 601024) (hR2 : sK ≤ 7293034) (kI : ∀ (s2 : Int32) (xd5 : Value) (xd6 : Value) (xd7 : Value), z = .inl s2 → AR g X nK sK Q hz 23 [.ref 100099, .ref 0, .ref 240, .ref 277, .int s2, xd5, xd6, xd7] []) (kE0 : ∀ (yy : Unit) (y0 : Value) (y1 : Value) (y2 : Value) (y3 : Value) (y4 : Value) (y5 : Value) (y6 : Value) (y7 : Value), z = .inr yy → AR g X nK sK Q hz 1904 [y0, y1, y2, y3, y4, y5, y6, y7] []) : AR g X nc ns Q h 23 [.ref 100099, .ref 0, .ref 240, .ref 277, .int s, d5, d6, d7] [] := by
  unfold l_L_law_23 at e
  refine aw_iload (i := 4) hX rfl d_L_law_23 ?_
  refine aw_aload_n (i := 0) hX rfl rfl d_L_law_25 ?_
  refine ar_slen hX hx d_L_law_26 ?_
  refine aw_bipush (v := 6) hX (by decide) d_L_law_27 ?_
  refine aw_isub hX d_L_law_29 ?_
  refine aw_icmp_gt (t := 1904) hX (by decide) d_L_law_30 (fun c => ?_) (fun c => ?_)
  · rw [if_pos c] at e
    cases e
    exact aw_widen (nc' := nK) (ns' := sK) (by omega) (by omega) (kE0 () _ _ _ _ _ _ _ _ rfl)
  · rw [if_neg c] at e
    refine aw_aload_n (i := 0) hX rfl rfl d_L_law_33 ?_
    refine aw_iload (i := 4) hX rfl d_L_law_34 ?_
    obtain ⟨x1, f_1741, e_1741⟩ := bd_some e
    clear e
    refine ar_sld hX hx f_1741 d_L_law_36 ?_
    refine aw_bipush (v := 31) hX (by decide) d_L_law_37 ?_
    refine aw_iand hX d_L_law_39 ?_
    by_cases c0 : (x1 &&& 31) = 0
    · rw [if_pos c0] at e_1741
      refine aw_tableIn (off := 136) (t := 176) hX (by rw [c0]; decide) (by rw [c0]; decide) (by rw [c0]; rfl) (by decide) d_L_law_40 ?_
      refine aw_aload_n (i := 1) hX rfl rfl d_L_law_176 ?_
      refine aw_aload_n (i := 0) hX rfl rfl d_L_law_177 ?_
      refine aw_iload (i := 4) hX rfl d_L_law_178 ?_
      refine aw_iconst (v := 1) hX (by decide) d_L_law_180 ?_
      refine aw_iadd hX d_L_law_181 ?_
      obtain ⟨x196, f_1742, e_1742⟩ := bd_some e_1741
      clear e_1741
      refine ar_sld hX hx f_1742 d_L_law_182 ?_
      refine aw_aload_n (i := 0) hX rfl rfl d_L_law_183 ?_
      refine aw_iload (i := 4) hX rfl d_L_law_184 ?_
      refine aw_iconst (v := 2) hX (by decide) d_L_law_186 ?_
      refine aw_iadd hX d_L_law_187 ?_
      obtain ⟨x197, f_1743, e_1743⟩ := bd_some e_1742
      clear e_1742
      refine ar_sld hX hx f_1743 d_L_law_188 ?_
      refine aw_aload_n (i := 0) hX rfl rfl d_L_law_189 ?_
      refine aw_iload (i := 4) hX rfl d_L_law_190 ?_
      refine aw_iconst (v := 3) hX (by decide) d_L_law_192 ?_
      refine aw_iadd hX d_L_law_193 ?_
      obtain ⟨x198, f_1744, e_1744⟩ := bd_some e_1743
      clear e_1743
      refine ar_sld hX hx f_1744 d_L_law_194 ?_
      refine aw_aload_n (i := 0) hX rfl rfl d_L_law_195 ?_
      refine aw_iload (i := 4) hX rfl d_L_law_196 ?_
      refine aw_iconst (v := 4) hX (by decide) d_L_law_198 ?_
      refine aw_iadd hX d_L_law_199 ?_
      obtain ⟨x199, f_1745, e_1745⟩ := bd_some e_1744
      clear e_1744
      refine ar_sld hX hx f_1745 d_L_law_200 ?_
      refine aw_aload_n (i := 0) hX rfl rfl d_L_law_201 ?_
      refine aw_iload (i := 4) hX rfl d_L_law_202 ?_
      refine aw_iconst (v := 5) hX (by decide) d_L_law_204 ?_
      refine aw_iadd hX d_L_law_205 ?_
      obtain ⟨x200, f_1746, e_1746⟩ := bd_some e_1745
      clear e_1745
      refine ar_sld hX hx f_1746 d_L_law_206 ?_
      obtain ⟨q201, f_1747, e_1747⟩ := bd_some e_1746
      clear e_1746
      refine aw_callV (b := 0) (av := [.int x196, .int x197, .int x198, .int x199, .int x200]) (avr := [.int x200, .int x199, .int x198, .int x197, .int x196]) hX (k_X9_feed (cx_g hX) hF f_1747) mi_X9_feed rfl rfl w_1213 w_1214 w_1215 (by decide) rfl (LAY_lt rfl (by decide)) rfl rfl (Nat.le_of_ble_eq_true rfl) (by omega) (by omega) d_L_law_207 ?_
      refine aw_aload_n (i := 2) hX rfl rfl d_L_law_210 ?_
      refine aw_aload_n (i := 0) hX rfl rfl d_L_law_211 ?_
      refine aw_iload (i := 4) hX rfl d_L_law_212 ?_
      refine aw_iconst (v := 1) hX (by decide) d_L_law_214 ?_
      refine aw_iadd hX d_L_law_215 ?_
      obtain ⟨x202, f_1748, e_1748⟩ := bd_some e_1747
      clear e_1747
      refine ar_sld hX hx f_1748 d_L_law_216 ?_
      refine aw_aload_n (i := 0) hX rfl rfl d_L_law_217 ?_
      refine aw_iload (i := 4) hX rfl d_L_law_218 ?_
      refine aw_iconst (v := 2) hX (by decide) d_L_law_220 ?_
      refine aw_iadd hX d_L_law_221 ?_
      obtain ⟨x203, f_1749, e_1749⟩ := bd_some e_1748
      clear e_1748
      refine ar_sld hX hx f_1749 d_L_law_222 ?_
      refine aw_aload_n (i := 0) hX rfl rfl d_L_law_223 ?_
      refine aw_iload (i := 4) hX rfl d_L_law_224 ?_
      refine aw_iconst (v := 3) hX (by decide) d_L_law_226 ?_
      refine aw_iadd hX d_L_law_227 ?_
      obtain ⟨x204, f_1750, e_1750⟩ := bd_some e_1749
      clear e_1749
      refine ar_sld hX hx f_1750 d_L_law_228 ?_
      refine aw_aload_n (i := 0) hX rfl rfl d_L_law_229 ?_
      refine aw_iload (i := 4) hX rfl d_L_law_230 ?_
      refine aw_iconst (v := 4) hX (by decide) d_L_law_232 ?_
      refine aw_iadd hX d_L_law_233 ?_
      obtain ⟨x205, f_1751, e_1751⟩ := bd_some e_1750
      clear e_1750
      refine ar_sld hX hx f_1751 d_L_law_234 ?_
      refine aw_aload_n (i := 0) hX rfl rfl d_L_law_235 ?_
      refine aw_iload (i := 4) hX rfl d_L_law_236 ?_
      refine aw_iconst (v := 5) hX (by decide) d_L_law_238 ?_
      refine aw_iadd hX d_L_law_239 ?_
      obtain ⟨x206, f_1752, e_1752⟩ := bd_some e_1751
      clear e_1751
      refine ar_sld hX hx f_1752 d_L_law_240 ?_
      obtain ⟨q207, f_1753, e_1753⟩ := bd_some e_1752
      clear e_1752
      refine aw_callV (b := 240) (av := [.int x202, .int x203, .int x204, .int x205, .int x206]) (avr := [.int x206, .int x205, .int x204, .int x203, .int x202]) hX (k_X10_feed (cx_g hX) hF f_1753) mi_X10_feed rfl rfl w_1217 w_1218 w_1219 (by decide) rfl (LAY_lt rfl (by decide)) rfl rfl (Nat.le_of_ble_eq_true rfl) (by omega) (by omega) d_L_law_241 ?_
      refine aw_icmp_eq (t := 1898) hX (by decide) d_L_law_244 (fun c => ?_) (fun c => ?_)
      · rw [if_pos c] at e_1753
        exact tj_L_law_1898_23 hF hX hx e_1753 (by omega) (by omega) hR1 hR2 kI kE0
      · rw [if_neg c] at e_1753
        cases e_1753
    rw [if_neg c0] at e_1741
    by_cases c1 : (x1 &&& 31) = 1
    · rw [if_pos c1] at e_1741
      refine aw_tableIn (off := 209) (t := 249) hX (by rw [c1]; decide) (by rw [c1]; decide) (by rw [c1]; rfl) (by decide) d_L_law_40 ?_
      refine aw_aload_n (i := 1) hX rfl rfl d_L_law_249 ?_
      refine aw_aload_n (i := 0) hX rfl rfl d_L_law_250 ?_
      refine aw_iload (i := 4) hX rfl d_L_law_251 ?_
      refine aw_iconst (v := 1) hX (by decide) d_L_law_253 ?_
      refine aw_iadd hX d_L_law_254 ?_
      obtain ⟨x190, f_1754, e_1754⟩ := bd_some e_1741
      clear e_1741
      refine ar_sld hX hx f_1754 d_L_law_255 ?_
      refine aw_aload_n (i := 3) hX rfl rfl d_L_law_256 ?_
      obtain ⟨q191, f_1755, e_1755⟩ := bd_some e_1754
      clear e_1754
      refine aw_callSW (av := [.ref 0, .int x190, .ref 277]) (avr := [.ref 277, .int x190, .ref 0]) hX (k_L_hall (cx_g hX) hF f_1755) miw_L_hall rfl rfl w_1206 w_1207 (by decide) (Nat.le_of_ble_eq_true rfl) (by omega) (by omega) d_L_law_257 ?_
      refine aw_istore (i := 5) (lv2 := [.ref 100099, .ref 0, .ref 240, .ref 277, .int s, .int q191.1, d6, d7]) hX rfl rfl d_L_law_260 ?_
      refine aw_aload_n (i := 2) hX rfl rfl d_L_law_262 ?_
      refine aw_aload_n (i := 0) hX rfl rfl d_L_law_263 ?_
      refine aw_iload (i := 4) hX rfl d_L_law_264 ?_
      refine aw_iconst (v := 1) hX (by decide) d_L_law_266 ?_
      refine aw_iadd hX d_L_law_267 ?_
      obtain ⟨x192, f_1756, e_1756⟩ := bd_some e_1755
      clear e_1755
      refine ar_sld hX hx f_1756 d_L_law_268 ?_
      obtain ⟨q193, f_1757, e_1757⟩ := bd_some e_1756
      clear e_1756
      refine aw_callV (b := 240) (av := [.int x192]) (avr := [.int x192]) hX (k_X10_hall (cx_g hX) hF f_1757) mi_X10_hall rfl rfl w_1209 w_1210 w_1211 (by decide) rfl (LAY_lt rfl (by decide)) rfl rfl (Nat.le_of_ble_eq_true rfl) (by omega) (by omega) d_L_law_269 ?_
      refine aw_istore (i := 6) (lv2 := [.ref 100099, .ref 0, .ref 240, .ref 277, .int s, .int q191.1, .int q193.1, d7]) hX rfl rfl d_L_law_272 ?_
      refine aw_aload_n (i := 2) hX rfl rfl d_L_law_274 ?_
      obtain ⟨x194, f_1758, e_1758⟩ := bd_some e_1757
      clear e_1757
      refine aw_callV (b := 240) (av := []) (avr := []) hX (k_X10_thrown (cx_g hX) hF f_1758) mi_X10_thrown rfl rfl w_1023 w_1024 w_1025 (by decide) rfl (LAY_lt rfl (by decide)) rfl rfl (Nat.le_of_ble_eq_true rfl) (by omega) (by omega) d_L_law_275 ?_
      refine aw_iload (i := 5) hX rfl d_L_law_278 ?_
      refine aw_icmp_eq (t := 285) hX (by decide) d_L_law_280 (fun c => ?_) (fun c => ?_)
      · rw [if_pos c] at e_1758
        refine aw_iload (i := 5) hX rfl d_L_law_285 ?_
        refine aw_if_ne (t := 302) hX (by decide) d_L_law_287 (fun c => ?_) (fun c => ?_)
        · rw [if_neg c] at e_1758
          exact tj_L_law_302_23 hF hX hx e_1758 (by omega) (by omega) hR1 hR2 kI kE0
        · rw [if_pos c] at e_1758
          refine aw_aload_n (i := 3) hX rfl rfl d_L_law_290 ?_
          refine aw_iconst (v := 0) hX (by decide) d_L_law_291 ?_
          obtain ⟨x195, f_1759, e_1759⟩ := bd_some e_1758
          clear e_1758
          refine ar_laload hX f_1759 d_L_law_292 ?_
          refine aw_iload (i := 6) hX rfl d_L_law_293 ?_
          refine aw_i2l hX d_L_law_295 ?_
          refine aw_lcmp hX d_L_law_296 ?_
          refine aw_if_eq (t := 302) hX (by decide) d_L_law_297 (fun c => ?_) (fun c => ?_)
          · replace c := lc_eq.mp c
            rw [if_pos c] at e_1759
            exact tj_L_law_302_23 hF hX hx e_1759 (by omega) (by omega) hR1 hR2 kI kE0
          · replace c := fun q => c (lc_eq.mpr q)
            rw [if_neg c] at e_1759
            cases e_1759
      · rw [if_neg c] at e_1758
        cases e_1758
    rw [if_neg c1] at e_1741
    by_cases c2 : (x1 &&& 31) = 2
    · rw [if_pos c2] at e_1741
      refine aw_tableIn (off := 265) (t := 305) hX (by rw [c2]; decide) (by rw [c2]; decide) (by rw [c2]; rfl) (by decide) d_L_law_40 ?_
      refine aw_aload_n (i := 1) hX rfl rfl d_L_law_305 ?_
      obtain ⟨x188, f_1760, e_1760⟩ := bd_some e_1741
      clear e_1741
      refine aw_callV (b := 0) (av := []) (avr := []) hX (k_X9_fault (cx_g hX) hF f_1760) mi_X9_fault rfl rfl w_1198 w_1199 w_1200 (by decide) rfl (LAY_lt rfl (by decide)) rfl rfl (Nat.le_of_ble_eq_true rfl) (by omega) (by omega) d_L_law_306 ?_
      refine aw_aload_n (i := 2) hX rfl rfl d_L_law_309 ?_
      obtain ⟨q189, f_1761, e_1761⟩ := bd_some e_1760
      clear e_1760
      refine aw_callV (b := 240) (av := []) (avr := []) hX (k_X10_fault (cx_g hX) hF f_1761) mi_X10_fault rfl rfl w_1202 w_1203 w_1204 (by decide) rfl (LAY_lt rfl (by decide)) rfl rfl (Nat.le_of_ble_eq_true rfl) (by omega) (by omega) d_L_law_310 ?_
      refine aw_icmp_eq (t := 1898) hX (by decide) d_L_law_313 (fun c => ?_) (fun c => ?_)
      · rw [if_pos c] at e_1761
        exact tj_L_law_1898_23 hF hX hx e_1761 (by omega) (by omega) hR1 hR2 kI kE0
      · rw [if_neg c] at e_1761
        cases e_1761
    rw [if_neg c2] at e_1741
    by_cases c3 : (x1 &&& 31) = 3
    · rw [if_pos c3] at e_1741
      refine aw_tableIn (off := 278) (t := 318) hX (by rw [c3]; decide) (by rw [c3]; decide) (by rw [c3]; rfl) (by decide) d_L_law_40 ?_
      refine aw_aload_n (i := 1) hX rfl rfl d_L_law_318 ?_
      refine aw_aload_n (i := 0) hX rfl rfl d_L_law_319 ?_
      refine aw_iload (i := 4) hX rfl d_L_law_320 ?_
      refine aw_iconst (v := 1) hX (by decide) d_L_law_322 ?_
      refine aw_iadd hX d_L_law_323 ?_
      obtain ⟨x182, f_1762, e_1762⟩ := bd_some e_1741
      clear e_1741
      refine ar_sld hX hx f_1762 d_L_law_324 ?_
      refine aw_aload_n (i := 3) hX rfl rfl d_L_law_325 ?_
      obtain ⟨q183, f_1763, e_1763⟩ := bd_some e_1762
      clear e_1762
      refine aw_callSW (av := [.ref 0, .int x182, .ref 277]) (avr := [.ref 277, .int x182, .ref 0]) hX (k_L_count (cx_g hX) hF f_1763) miw_L_count rfl rfl w_1191 w_1192 (by decide) (Nat.le_of_ble_eq_true rfl) (by omega) (by omega) d_L_law_326 ?_
      refine aw_istore (i := 5) (lv2 := [.ref 100099, .ref 0, .ref 240, .ref 277, .int s, .int q183.1, d6, d7]) hX rfl rfl d_L_law_329 ?_
      refine aw_aload_n (i := 2) hX rfl rfl d_L_law_331 ?_
      refine aw_aload_n (i := 0) hX rfl rfl d_L_law_332 ?_
      refine aw_iload (i := 4) hX rfl d_L_law_333 ?_
      refine aw_iconst (v := 1) hX (by decide) d_L_law_335 ?_
      refine aw_iadd hX d_L_law_336 ?_
      obtain ⟨x184, f_1764, e_1764⟩ := bd_some e_1763
      clear e_1763
      refine ar_sld hX hx f_1764 d_L_law_337 ?_
      obtain ⟨q185, f_1765, e_1765⟩ := bd_some e_1764
      clear e_1764
      refine aw_callV (b := 240) (av := [.int x184]) (avr := [.int x184]) hX (k_X10_count (cx_g hX) hF f_1765) mi_X10_count rfl rfl w_1194 w_1195 w_1196 (by decide) rfl (LAY_lt rfl (by decide)) rfl rfl (Nat.le_of_ble_eq_true rfl) (by omega) (by omega) d_L_law_338 ?_
      refine aw_istore (i := 6) (lv2 := [.ref 100099, .ref 0, .ref 240, .ref 277, .int s, .int q183.1, .int q185.1, d7]) hX rfl rfl d_L_law_341 ?_
      refine aw_aload_n (i := 2) hX rfl rfl d_L_law_343 ?_
      obtain ⟨x186, f_1766, e_1766⟩ := bd_some e_1765
      clear e_1765
      refine aw_callV (b := 240) (av := []) (avr := []) hX (k_X10_thrown (cx_g hX) hF f_1766) mi_X10_thrown rfl rfl w_1023 w_1024 w_1025 (by decide) rfl (LAY_lt rfl (by decide)) rfl rfl (Nat.le_of_ble_eq_true rfl) (by omega) (by omega) d_L_law_344 ?_
      refine aw_iload (i := 5) hX rfl d_L_law_347 ?_
      refine aw_icmp_eq (t := 354) hX (by decide) d_L_law_349 (fun c => ?_) (fun c => ?_)
      · rw [if_pos c] at e_1766
        refine aw_iload (i := 5) hX rfl d_L_law_354 ?_
        refine aw_if_ne (t := 371) hX (by decide) d_L_law_356 (fun c => ?_) (fun c => ?_)
        · rw [if_neg c] at e_1766
          exact tj_L_law_371_23 hF hX hx e_1766 (by omega) (by omega) hR1 hR2 kI kE0
        · rw [if_pos c] at e_1766
          refine aw_aload_n (i := 3) hX rfl rfl d_L_law_359 ?_
          refine aw_iconst (v := 0) hX (by decide) d_L_law_360 ?_
          obtain ⟨x187, f_1767, e_1767⟩ := bd_some e_1766
          clear e_1766
          refine ar_laload hX f_1767 d_L_law_361 ?_
          refine aw_iload (i := 6) hX rfl d_L_law_362 ?_
          refine aw_i2l hX d_L_law_364 ?_
          refine aw_lcmp hX d_L_law_365 ?_
          refine aw_if_eq (t := 371) hX (by decide) d_L_law_366 (fun c => ?_) (fun c => ?_)
          · replace c := lc_eq.mp c
            rw [if_pos c] at e_1767
            exact tj_L_law_371_23 hF hX hx e_1767 (by omega) (by omega) hR1 hR2 kI kE0
          · replace c := fun q => c (lc_eq.mpr q)
            rw [if_neg c] at e_1767
            cases e_1767
      · rw [if_neg c] at e_1766
        cases e_1766
    rw [if_neg c3] at e_1741
    by_cases c4 : (x1 &&& 31) = 4
    · rw [if_pos c4] at e_1741
      refine aw_tableIn (off := 334) (t := 374) hX (by rw [c4]; decide) (by rw [c4]; decide) (by rw [c4]; rfl) (by decide) d_L_law_40 ?_
      refine aw_aload_n (i := 1) hX rfl rfl d_L_law_374 ?_
      refine aw_aload_n (i := 0) hX rfl rfl d_L_law_375 ?_
      refine aw_iload (i := 4) hX rfl d_L_law_376 ?_
      refine aw_iconst (v := 1) hX (by decide) d_L_law_378 ?_
      refine aw_iadd hX d_L_law_379 ?_
      obtain ⟨x174, f_1768, e_1768⟩ := bd_some e_1741
      clear e_1741
      refine ar_sld hX hx f_1768 d_L_law_380 ?_
      refine aw_aload_n (i := 0) hX rfl rfl d_L_law_381 ?_
      refine aw_iload (i := 4) hX rfl d_L_law_382 ?_
      refine aw_iconst (v := 2) hX (by decide) d_L_law_384 ?_
      refine aw_iadd hX d_L_law_385 ?_
      obtain ⟨x175, f_1769, e_1769⟩ := bd_some e_1768
      clear e_1768
      refine ar_sld hX hx f_1769 d_L_law_386 ?_
      refine aw_aload_n (i := 3) hX rfl rfl d_L_law_387 ?_
      obtain ⟨q176, f_1770, e_1770⟩ := bd_some e_1769
      clear e_1769
      refine aw_callSW (av := [.ref 0, .int x174, .int x175, .ref 277]) (avr := [.ref 277, .int x175, .int x174, .ref 0]) hX (k_L_evening (cx_g hX) hF f_1770) miw_L_evening rfl rfl w_1184 w_1185 (by decide) (Nat.le_of_ble_eq_true rfl) (by omega) (by omega) d_L_law_388 ?_
      refine aw_istore (i := 5) (lv2 := [.ref 100099, .ref 0, .ref 240, .ref 277, .int s, .int q176.1, d6, d7]) hX rfl rfl d_L_law_391 ?_
      refine aw_aload_n (i := 2) hX rfl rfl d_L_law_393 ?_
      refine aw_aload_n (i := 0) hX rfl rfl d_L_law_394 ?_
      refine aw_iload (i := 4) hX rfl d_L_law_395 ?_
      refine aw_iconst (v := 1) hX (by decide) d_L_law_397 ?_
      refine aw_iadd hX d_L_law_398 ?_
      obtain ⟨x177, f_1771, e_1771⟩ := bd_some e_1770
      clear e_1770
      refine ar_sld hX hx f_1771 d_L_law_399 ?_
      refine aw_aload_n (i := 0) hX rfl rfl d_L_law_400 ?_
      refine aw_iload (i := 4) hX rfl d_L_law_401 ?_
      refine aw_iconst (v := 2) hX (by decide) d_L_law_403 ?_
      refine aw_iadd hX d_L_law_404 ?_
      obtain ⟨x178, f_1772, e_1772⟩ := bd_some e_1771
      clear e_1771
      refine ar_sld hX hx f_1772 d_L_law_405 ?_
      obtain ⟨q179, f_1773, e_1773⟩ := bd_some e_1772
      clear e_1772
      refine aw_callV (b := 240) (av := [.int x177, .int x178]) (avr := [.int x178, .int x177]) hX (k_X10_evening (cx_g hX) hF f_1773) mi_X10_evening rfl rfl w_1187 w_1188 w_1189 (by decide) rfl (LAY_lt rfl (by decide)) rfl rfl (Nat.le_of_ble_eq_true rfl) (by omega) (by omega) d_L_law_406 ?_
      refine aw_istore (i := 6) (lv2 := [.ref 100099, .ref 0, .ref 240, .ref 277, .int s, .int q176.1, .int q179.1, d7]) hX rfl rfl d_L_law_409 ?_
      refine aw_aload_n (i := 2) hX rfl rfl d_L_law_411 ?_
      obtain ⟨x180, f_1774, e_1774⟩ := bd_some e_1773
      clear e_1773
      refine aw_callV (b := 240) (av := []) (avr := []) hX (k_X10_thrown (cx_g hX) hF f_1774) mi_X10_thrown rfl rfl w_1023 w_1024 w_1025 (by decide) rfl (LAY_lt rfl (by decide)) rfl rfl (Nat.le_of_ble_eq_true rfl) (by omega) (by omega) d_L_law_412 ?_
      refine aw_iload (i := 5) hX rfl d_L_law_415 ?_
      refine aw_icmp_eq (t := 422) hX (by decide) d_L_law_417 (fun c => ?_) (fun c => ?_)
      · rw [if_pos c] at e_1774
        refine aw_iload (i := 5) hX rfl d_L_law_422 ?_
        refine aw_if_ne (t := 439) hX (by decide) d_L_law_424 (fun c => ?_) (fun c => ?_)
        · rw [if_neg c] at e_1774
          exact tj_L_law_439_23 hF hX hx e_1774 (by omega) (by omega) hR1 hR2 kI kE0
        · rw [if_pos c] at e_1774
          refine aw_aload_n (i := 3) hX rfl rfl d_L_law_427 ?_
          refine aw_iconst (v := 0) hX (by decide) d_L_law_428 ?_
          obtain ⟨x181, f_1775, e_1775⟩ := bd_some e_1774
          clear e_1774
          refine ar_laload hX f_1775 d_L_law_429 ?_
          refine aw_iload (i := 6) hX rfl d_L_law_430 ?_
          refine aw_i2l hX d_L_law_432 ?_
          refine aw_lcmp hX d_L_law_433 ?_
          refine aw_if_eq (t := 439) hX (by decide) d_L_law_434 (fun c => ?_) (fun c => ?_)
          · replace c := lc_eq.mp c
            rw [if_pos c] at e_1775
            exact tj_L_law_439_23 hF hX hx e_1775 (by omega) (by omega) hR1 hR2 kI kE0
          · replace c := fun q => c (lc_eq.mpr q)
            rw [if_neg c] at e_1775
            cases e_1775
      · rw [if_neg c] at e_1774
        cases e_1774
    rw [if_neg c4] at e_1741
    by_cases c5 : (x1 &&& 31) = 5
    · rw [if_pos c5] at e_1741
      refine aw_tableIn (off := 402) (t := 442) hX (by rw [c5]; decide) (by rw [c5]; decide) (by rw [c5]; rfl) (by decide) d_L_law_40 ?_
      refine aw_aload_n (i := 1) hX rfl rfl d_L_law_442 ?_
      refine aw_aload_n (i := 0) hX rfl rfl d_L_law_443 ?_
      refine aw_iload (i := 4) hX rfl d_L_law_444 ?_
      refine aw_iconst (v := 1) hX (by decide) d_L_law_446 ?_
      refine aw_iadd hX d_L_law_447 ?_
      obtain ⟨x166, f_1776, e_1776⟩ := bd_some e_1741
      clear e_1741
      refine ar_sld hX hx f_1776 d_L_law_448 ?_
      refine aw_aload_n (i := 0) hX rfl rfl d_L_law_449 ?_
      refine aw_iload (i := 4) hX rfl d_L_law_450 ?_
      refine aw_iconst (v := 2) hX (by decide) d_L_law_452 ?_
      refine aw_iadd hX d_L_law_453 ?_
      obtain ⟨x167, f_1777, e_1777⟩ := bd_some e_1776
      clear e_1776
      refine ar_sld hX hx f_1777 d_L_law_454 ?_
      refine aw_aload_n (i := 3) hX rfl rfl d_L_law_455 ?_
      obtain ⟨q168, f_1778, e_1778⟩ := bd_some e_1777
      clear e_1777
      refine aw_callSW (av := [.ref 0, .int x166, .int x167, .ref 277]) (avr := [.ref 277, .int x167, .int x166, .ref 0]) hX (k_L_kind (cx_g hX) hF f_1778) miw_L_kind rfl rfl w_1177 w_1178 (by decide) (Nat.le_of_ble_eq_true rfl) (by omega) (by omega) d_L_law_456 ?_
      refine aw_istore (i := 5) (lv2 := [.ref 100099, .ref 0, .ref 240, .ref 277, .int s, .int q168.1, d6, d7]) hX rfl rfl d_L_law_459 ?_
      refine aw_aload_n (i := 2) hX rfl rfl d_L_law_461 ?_
      refine aw_aload_n (i := 0) hX rfl rfl d_L_law_462 ?_
      refine aw_iload (i := 4) hX rfl d_L_law_463 ?_
      refine aw_iconst (v := 1) hX (by decide) d_L_law_465 ?_
      refine aw_iadd hX d_L_law_466 ?_
      obtain ⟨x169, f_1779, e_1779⟩ := bd_some e_1778
      clear e_1778
      refine ar_sld hX hx f_1779 d_L_law_467 ?_
      refine aw_aload_n (i := 0) hX rfl rfl d_L_law_468 ?_
      refine aw_iload (i := 4) hX rfl d_L_law_469 ?_
      refine aw_iconst (v := 2) hX (by decide) d_L_law_471 ?_
      refine aw_iadd hX d_L_law_472 ?_
      obtain ⟨x170, f_1780, e_1780⟩ := bd_some e_1779
      clear e_1779
      refine ar_sld hX hx f_1780 d_L_law_473 ?_
      obtain ⟨q171, f_1781, e_1781⟩ := bd_some e_1780
      clear e_1780
      refine aw_callV (b := 240) (av := [.int x169, .int x170]) (avr := [.int x170, .int x169]) hX (k_X10_kind (cx_g hX) hF f_1781) mi_X10_kind rfl rfl w_1180 w_1181 w_1182 (by decide) rfl (LAY_lt rfl (by decide)) rfl rfl (Nat.le_of_ble_eq_true rfl) (by omega) (by omega) d_L_law_474 ?_
      refine aw_istore (i := 6) (lv2 := [.ref 100099, .ref 0, .ref 240, .ref 277, .int s, .int q168.1, .int q171.1, d7]) hX rfl rfl d_L_law_477 ?_
      refine aw_aload_n (i := 2) hX rfl rfl d_L_law_479 ?_
      obtain ⟨x172, f_1782, e_1782⟩ := bd_some e_1781
      clear e_1781
      refine aw_callV (b := 240) (av := []) (avr := []) hX (k_X10_thrown (cx_g hX) hF f_1782) mi_X10_thrown rfl rfl w_1023 w_1024 w_1025 (by decide) rfl (LAY_lt rfl (by decide)) rfl rfl (Nat.le_of_ble_eq_true rfl) (by omega) (by omega) d_L_law_480 ?_
      refine aw_iload (i := 5) hX rfl d_L_law_483 ?_
      refine aw_icmp_eq (t := 490) hX (by decide) d_L_law_485 (fun c => ?_) (fun c => ?_)
      · rw [if_pos c] at e_1782
        refine aw_iload (i := 5) hX rfl d_L_law_490 ?_
        refine aw_if_ne (t := 507) hX (by decide) d_L_law_492 (fun c => ?_) (fun c => ?_)
        · rw [if_neg c] at e_1782
          exact tj_L_law_507_23 hF hX hx e_1782 (by omega) (by omega) hR1 hR2 kI kE0
        · rw [if_pos c] at e_1782
          refine aw_aload_n (i := 3) hX rfl rfl d_L_law_495 ?_
          refine aw_iconst (v := 0) hX (by decide) d_L_law_496 ?_
          obtain ⟨x173, f_1783, e_1783⟩ := bd_some e_1782
          clear e_1782
          refine ar_laload hX f_1783 d_L_law_497 ?_
          refine aw_iload (i := 6) hX rfl d_L_law_498 ?_
          refine aw_i2l hX d_L_law_500 ?_
          refine aw_lcmp hX d_L_law_501 ?_
          refine aw_if_eq (t := 507) hX (by decide) d_L_law_502 (fun c => ?_) (fun c => ?_)
          · replace c := lc_eq.mp c
            rw [if_pos c] at e_1783
            exact tj_L_law_507_23 hF hX hx e_1783 (by omega) (by omega) hR1 hR2 kI kE0
          · replace c := fun q => c (lc_eq.mpr q)
            rw [if_neg c] at e_1783
            cases e_1783
      · rw [if_neg c] at e_1782
        cases e_1782
    rw [if_neg c5] at e_1741
    by_cases c6 : (x1 &&& 31) = 6
    · rw [if_pos c6] at e_1741
      refine aw_tableIn (off := 470) (t := 510) hX (by rw [c6]; decide) (by rw [c6]; decide) (by rw [c6]; rfl) (by decide) d_L_law_40 ?_
      refine aw_aload_n (i := 1) hX rfl rfl d_L_law_510 ?_
      refine aw_aload_n (i := 0) hX rfl rfl d_L_law_511 ?_
      refine aw_iload (i := 4) hX rfl d_L_law_512 ?_
      refine aw_iconst (v := 1) hX (by decide) d_L_law_514 ?_
      refine aw_iadd hX d_L_law_515 ?_
      obtain ⟨x160, f_1784, e_1784⟩ := bd_some e_1741
      clear e_1741
      refine ar_sld hX hx f_1784 d_L_law_516 ?_
      refine aw_aload_n (i := 3) hX rfl rfl d_L_law_517 ?_
      obtain ⟨q161, f_1785, e_1785⟩ := bd_some e_1784
      clear e_1784
      refine aw_callSW (av := [.ref 0, .int x160, .ref 277]) (avr := [.ref 277, .int x160, .ref 0]) hX (k_L_price (cx_g hX) hF f_1785) miw_L_price rfl rfl w_1170 w_1171 (by decide) (Nat.le_of_ble_eq_true rfl) (by omega) (by omega) d_L_law_518 ?_
      refine aw_istore (i := 5) (lv2 := [.ref 100099, .ref 0, .ref 240, .ref 277, .int s, .int q161.1, d6, d7]) hX rfl rfl d_L_law_521 ?_
      refine aw_aload_n (i := 2) hX rfl rfl d_L_law_523 ?_
      refine aw_aload_n (i := 0) hX rfl rfl d_L_law_524 ?_
      refine aw_iload (i := 4) hX rfl d_L_law_525 ?_
      refine aw_iconst (v := 1) hX (by decide) d_L_law_527 ?_
      refine aw_iadd hX d_L_law_528 ?_
      obtain ⟨x162, f_1786, e_1786⟩ := bd_some e_1785
      clear e_1785
      refine ar_sld hX hx f_1786 d_L_law_529 ?_
      obtain ⟨q163, f_1787, e_1787⟩ := bd_some e_1786
      clear e_1786
      refine aw_callV (b := 240) (av := [.int x162]) (avr := [.int x162]) hX (k_X10_price (cx_g hX) hF f_1787) mi_X10_price rfl rfl w_1173 w_1174 w_1175 (by decide) rfl (LAY_lt rfl (by decide)) rfl rfl (Nat.le_of_ble_eq_true rfl) (by omega) (by omega) d_L_law_530 ?_
      refine aw_istore (i := 6) (lv2 := [.ref 100099, .ref 0, .ref 240, .ref 277, .int s, .int q161.1, .int q163.1, d7]) hX rfl rfl d_L_law_533 ?_
      refine aw_aload_n (i := 2) hX rfl rfl d_L_law_535 ?_
      obtain ⟨x164, f_1788, e_1788⟩ := bd_some e_1787
      clear e_1787
      refine aw_callV (b := 240) (av := []) (avr := []) hX (k_X10_thrown (cx_g hX) hF f_1788) mi_X10_thrown rfl rfl w_1023 w_1024 w_1025 (by decide) rfl (LAY_lt rfl (by decide)) rfl rfl (Nat.le_of_ble_eq_true rfl) (by omega) (by omega) d_L_law_536 ?_
      refine aw_iload (i := 5) hX rfl d_L_law_539 ?_
      refine aw_icmp_eq (t := 546) hX (by decide) d_L_law_541 (fun c => ?_) (fun c => ?_)
      · rw [if_pos c] at e_1788
        refine aw_iload (i := 5) hX rfl d_L_law_546 ?_
        refine aw_if_ne (t := 563) hX (by decide) d_L_law_548 (fun c => ?_) (fun c => ?_)
        · rw [if_neg c] at e_1788
          exact tj_L_law_563_23 hF hX hx e_1788 (by omega) (by omega) hR1 hR2 kI kE0
        · rw [if_pos c] at e_1788
          refine aw_aload_n (i := 3) hX rfl rfl d_L_law_551 ?_
          refine aw_iconst (v := 0) hX (by decide) d_L_law_552 ?_
          obtain ⟨x165, f_1789, e_1789⟩ := bd_some e_1788
          clear e_1788
          refine ar_laload hX f_1789 d_L_law_553 ?_
          refine aw_iload (i := 6) hX rfl d_L_law_554 ?_
          refine aw_i2l hX d_L_law_556 ?_
          refine aw_lcmp hX d_L_law_557 ?_
          refine aw_if_eq (t := 563) hX (by decide) d_L_law_558 (fun c => ?_) (fun c => ?_)
          · replace c := lc_eq.mp c
            rw [if_pos c] at e_1789
            exact tj_L_law_563_23 hF hX hx e_1789 (by omega) (by omega) hR1 hR2 kI kE0
          · replace c := fun q => c (lc_eq.mpr q)
            rw [if_neg c] at e_1789
            cases e_1789
      · rw [if_neg c] at e_1788
        cases e_1788
    rw [if_neg c6] at e_1741
    by_cases c7 : (x1 &&& 31) = 7
    · rw [if_pos c7] at e_1741
      refine aw_tableIn (off := 526) (t := 566) hX (by rw [c7]; decide) (by rw [c7]; decide) (by rw [c7]; rfl) (by decide) d_L_law_40 ?_
      refine aw_aload_n (i := 1) hX rfl rfl d_L_law_566 ?_
      refine aw_aload_n (i := 0) hX rfl rfl d_L_law_567 ?_
      refine aw_iload (i := 4) hX rfl d_L_law_568 ?_
      refine aw_iconst (v := 1) hX (by decide) d_L_law_570 ?_
      refine aw_iadd hX d_L_law_571 ?_
      obtain ⟨x150, f_1790, e_1790⟩ := bd_some e_1741
      clear e_1741
      refine ar_sld hX hx f_1790 d_L_law_572 ?_
      refine aw_aload_n (i := 0) hX rfl rfl d_L_law_573 ?_
      refine aw_iload (i := 4) hX rfl d_L_law_574 ?_
      refine aw_iconst (v := 2) hX (by decide) d_L_law_576 ?_
      refine aw_iadd hX d_L_law_577 ?_
      obtain ⟨x151, f_1791, e_1791⟩ := bd_some e_1790
      clear e_1790
      refine ar_sld hX hx f_1791 d_L_law_578 ?_
      refine aw_aload_n (i := 0) hX rfl rfl d_L_law_579 ?_
      refine aw_iload (i := 4) hX rfl d_L_law_580 ?_
      refine aw_iconst (v := 3) hX (by decide) d_L_law_582 ?_
      refine aw_iadd hX d_L_law_583 ?_
      obtain ⟨x152, f_1792, e_1792⟩ := bd_some e_1791
      clear e_1791
      refine ar_sld hX hx f_1792 d_L_law_584 ?_
      refine aw_if_eq (t := 592) hX (by decide) d_L_law_585 (fun c => ?_) (fun c => ?_)
      · rw [if_pos c] at e_1792
        refine aw_iconst (v := 0) hX (by decide) d_L_law_592 ?_
        exact tj_L_law_593_23 hF hX hx e_1792 (by omega) (by omega) hR1 hR2 kI kE0
      · rw [if_neg c] at e_1792
        refine aw_iconst (v := 1) hX (by decide) d_L_law_588 ?_
        refine aw_goto (t := 593) hX (by decide) d_L_law_589 ?_
        exact tj_L_law_593_23 hF hX hx e_1792 (by omega) (by omega) hR1 hR2 kI kE0
    rw [if_neg c7] at e_1741
    by_cases c8 : (x1 &&& 31) = 8
    · rw [if_pos c8] at e_1741
      refine aw_tableIn (off := 622) (t := 662) hX (by rw [c8]; decide) (by rw [c8]; decide) (by rw [c8]; rfl) (by decide) d_L_law_40 ?_
      refine aw_aload_n (i := 1) hX rfl rfl d_L_law_662 ?_
      refine aw_aload_n (i := 0) hX rfl rfl d_L_law_663 ?_
      refine aw_iload (i := 4) hX rfl d_L_law_664 ?_
      refine aw_iconst (v := 1) hX (by decide) d_L_law_666 ?_
      refine aw_iadd hX d_L_law_667 ?_
      obtain ⟨x142, f_1793, e_1793⟩ := bd_some e_1741
      clear e_1741
      refine ar_sld hX hx f_1793 d_L_law_668 ?_
      refine aw_aload_n (i := 0) hX rfl rfl d_L_law_669 ?_
      refine aw_iload (i := 4) hX rfl d_L_law_670 ?_
      refine aw_iconst (v := 2) hX (by decide) d_L_law_672 ?_
      refine aw_iadd hX d_L_law_673 ?_
      obtain ⟨x143, f_1794, e_1794⟩ := bd_some e_1793
      clear e_1793
      refine ar_sld hX hx f_1794 d_L_law_674 ?_
      refine aw_aload_n (i := 3) hX rfl rfl d_L_law_675 ?_
      obtain ⟨q144, f_1795, e_1795⟩ := bd_some e_1794
      clear e_1794
      refine aw_callSW (av := [.ref 0, .int x142, .int x143, .ref 277]) (avr := [.ref 277, .int x143, .int x142, .ref 0]) hX (k_L_good (cx_g hX) hF f_1795) miw_L_good rfl rfl w_1156 w_1157 (by decide) (Nat.le_of_ble_eq_true rfl) (by omega) (by omega) d_L_law_676 ?_
      refine aw_istore (i := 5) (lv2 := [.ref 100099, .ref 0, .ref 240, .ref 277, .int s, .int q144.1, d6, d7]) hX rfl rfl d_L_law_679 ?_
      refine aw_aload_n (i := 2) hX rfl rfl d_L_law_681 ?_
      refine aw_aload_n (i := 0) hX rfl rfl d_L_law_682 ?_
      refine aw_iload (i := 4) hX rfl d_L_law_683 ?_
      refine aw_iconst (v := 1) hX (by decide) d_L_law_685 ?_
      refine aw_iadd hX d_L_law_686 ?_
      obtain ⟨x145, f_1796, e_1796⟩ := bd_some e_1795
      clear e_1795
      refine ar_sld hX hx f_1796 d_L_law_687 ?_
      refine aw_aload_n (i := 0) hX rfl rfl d_L_law_688 ?_
      refine aw_iload (i := 4) hX rfl d_L_law_689 ?_
      refine aw_iconst (v := 2) hX (by decide) d_L_law_691 ?_
      refine aw_iadd hX d_L_law_692 ?_
      obtain ⟨x146, f_1797, e_1797⟩ := bd_some e_1796
      clear e_1796
      refine ar_sld hX hx f_1797 d_L_law_693 ?_
      obtain ⟨q147, f_1798, e_1798⟩ := bd_some e_1797
      clear e_1797
      refine aw_callV (b := 240) (av := [.int x145, .int x146]) (avr := [.int x146, .int x145]) hX (k_X10_good (cx_g hX) hF f_1798) mi_X10_good rfl rfl w_1159 w_1160 w_1161 (by decide) rfl (LAY_lt rfl (by decide)) rfl rfl (Nat.le_of_ble_eq_true rfl) (by omega) (by omega) d_L_law_694 ?_
      refine aw_istore (i := 6) (lv2 := [.ref 100099, .ref 0, .ref 240, .ref 277, .int s, .int q144.1, .int q147.1, d7]) hX rfl rfl d_L_law_697 ?_
      refine aw_aload_n (i := 2) hX rfl rfl d_L_law_699 ?_
      obtain ⟨x148, f_1799, e_1799⟩ := bd_some e_1798
      clear e_1798
      refine aw_callV (b := 240) (av := []) (avr := []) hX (k_X10_thrown (cx_g hX) hF f_1799) mi_X10_thrown rfl rfl w_1023 w_1024 w_1025 (by decide) rfl (LAY_lt rfl (by decide)) rfl rfl (Nat.le_of_ble_eq_true rfl) (by omega) (by omega) d_L_law_700 ?_
      refine aw_iload (i := 5) hX rfl d_L_law_703 ?_
      refine aw_icmp_eq (t := 710) hX (by decide) d_L_law_705 (fun c => ?_) (fun c => ?_)
      · rw [if_pos c] at e_1799
        refine aw_iload (i := 5) hX rfl d_L_law_710 ?_
        refine aw_if_ne (t := 727) hX (by decide) d_L_law_712 (fun c => ?_) (fun c => ?_)
        · rw [if_neg c] at e_1799
          exact tj_L_law_727_23 hF hX hx e_1799 (by omega) (by omega) hR1 hR2 kI kE0
        · rw [if_pos c] at e_1799
          refine aw_aload_n (i := 3) hX rfl rfl d_L_law_715 ?_
          refine aw_iconst (v := 0) hX (by decide) d_L_law_716 ?_
          obtain ⟨x149, f_1800, e_1800⟩ := bd_some e_1799
          clear e_1799
          refine ar_laload hX f_1800 d_L_law_717 ?_
          refine aw_iload (i := 6) hX rfl d_L_law_718 ?_
          refine aw_i2l hX d_L_law_720 ?_
          refine aw_lcmp hX d_L_law_721 ?_
          refine aw_if_eq (t := 727) hX (by decide) d_L_law_722 (fun c => ?_) (fun c => ?_)
          · replace c := lc_eq.mp c
            rw [if_pos c] at e_1800
            exact tj_L_law_727_23 hF hX hx e_1800 (by omega) (by omega) hR1 hR2 kI kE0
          · replace c := fun q => c (lc_eq.mpr q)
            rw [if_neg c] at e_1800
            cases e_1800
      · rw [if_neg c] at e_1799
        cases e_1799
    rw [if_neg c8] at e_1741
    by_cases c9 : (x1 &&& 31) = 9
    · rw [if_pos c9] at e_1741
      refine aw_tableIn (off := 690) (t := 730) hX (by rw [c9]; decide) (by rw [c9]; decide) (by rw [c9]; rfl) (by decide) d_L_law_40 ?_
      refine aw_aload_n (i := 1) hX rfl rfl d_L_law_730 ?_
      refine aw_aload_n (i := 0) hX rfl rfl d_L_law_731 ?_
      refine aw_iload (i := 4) hX rfl d_L_law_732 ?_
      refine aw_iconst (v := 1) hX (by decide) d_L_law_734 ?_
      refine aw_iadd hX d_L_law_735 ?_
      obtain ⟨x136, f_1801, e_1801⟩ := bd_some e_1741
      clear e_1741
      refine ar_sld hX hx f_1801 d_L_law_736 ?_
      refine aw_aload_n (i := 3) hX rfl rfl d_L_law_737 ?_
      obtain ⟨q137, f_1802, e_1802⟩ := bd_some e_1801
      clear e_1801
      refine aw_callSW (av := [.ref 0, .int x136, .ref 277]) (avr := [.ref 277, .int x136, .ref 0]) hX (k_L_buys (cx_g hX) hF f_1802) miw_L_buys rfl rfl w_1149 w_1150 (by decide) (Nat.le_of_ble_eq_true rfl) (by omega) (by omega) d_L_law_738 ?_
      refine aw_istore (i := 5) (lv2 := [.ref 100099, .ref 0, .ref 240, .ref 277, .int s, .int q137.1, d6, d7]) hX rfl rfl d_L_law_741 ?_
      refine aw_aload_n (i := 2) hX rfl rfl d_L_law_743 ?_
      refine aw_aload_n (i := 0) hX rfl rfl d_L_law_744 ?_
      refine aw_iload (i := 4) hX rfl d_L_law_745 ?_
      refine aw_iconst (v := 1) hX (by decide) d_L_law_747 ?_
      refine aw_iadd hX d_L_law_748 ?_
      obtain ⟨x138, f_1803, e_1803⟩ := bd_some e_1802
      clear e_1802
      refine ar_sld hX hx f_1803 d_L_law_749 ?_
      obtain ⟨q139, f_1804, e_1804⟩ := bd_some e_1803
      clear e_1803
      refine aw_callV (b := 240) (av := [.int x138]) (avr := [.int x138]) hX (k_X10_buys (cx_g hX) hF f_1804) mi_X10_buys rfl rfl w_1152 w_1153 w_1154 (by decide) rfl (LAY_lt rfl (by decide)) rfl rfl (Nat.le_of_ble_eq_true rfl) (by omega) (by omega) d_L_law_750 ?_
      refine aw_istore (i := 6) (lv2 := [.ref 100099, .ref 0, .ref 240, .ref 277, .int s, .int q137.1, .int q139.1, d7]) hX rfl rfl d_L_law_753 ?_
      refine aw_aload_n (i := 2) hX rfl rfl d_L_law_755 ?_
      obtain ⟨x140, f_1805, e_1805⟩ := bd_some e_1804
      clear e_1804
      refine aw_callV (b := 240) (av := []) (avr := []) hX (k_X10_thrown (cx_g hX) hF f_1805) mi_X10_thrown rfl rfl w_1023 w_1024 w_1025 (by decide) rfl (LAY_lt rfl (by decide)) rfl rfl (Nat.le_of_ble_eq_true rfl) (by omega) (by omega) d_L_law_756 ?_
      refine aw_iload (i := 5) hX rfl d_L_law_759 ?_
      refine aw_icmp_eq (t := 766) hX (by decide) d_L_law_761 (fun c => ?_) (fun c => ?_)
      · rw [if_pos c] at e_1805
        refine aw_iload (i := 5) hX rfl d_L_law_766 ?_
        refine aw_if_ne (t := 783) hX (by decide) d_L_law_768 (fun c => ?_) (fun c => ?_)
        · rw [if_neg c] at e_1805
          exact tj_L_law_783_23 hF hX hx e_1805 (by omega) (by omega) hR1 hR2 kI kE0
        · rw [if_pos c] at e_1805
          refine aw_aload_n (i := 3) hX rfl rfl d_L_law_771 ?_
          refine aw_iconst (v := 0) hX (by decide) d_L_law_772 ?_
          obtain ⟨x141, f_1806, e_1806⟩ := bd_some e_1805
          clear e_1805
          refine ar_laload hX f_1806 d_L_law_773 ?_
          refine aw_iload (i := 6) hX rfl d_L_law_774 ?_
          refine aw_i2l hX d_L_law_776 ?_
          refine aw_lcmp hX d_L_law_777 ?_
          refine aw_if_eq (t := 783) hX (by decide) d_L_law_778 (fun c => ?_) (fun c => ?_)
          · replace c := lc_eq.mp c
            rw [if_pos c] at e_1806
            exact tj_L_law_783_23 hF hX hx e_1806 (by omega) (by omega) hR1 hR2 kI kE0
          · replace c := fun q => c (lc_eq.mpr q)
            rw [if_neg c] at e_1806
            cases e_1806
      · rw [if_neg c] at e_1805
        cases e_1805
    rw [if_neg c9] at e_1741
    by_cases c10 : (x1 &&& 31) = 10
    · rw [if_pos c10] at e_1741
      refine aw_tableIn (off := 746) (t := 786) hX (by rw [c10]; decide) (by rw [c10]; decide) (by rw [c10]; rfl) (by decide) d_L_law_40 ?_
      refine aw_aload_n (i := 1) hX rfl rfl d_L_law_786 ?_
      refine aw_aload_n (i := 0) hX rfl rfl d_L_law_787 ?_
      refine aw_iload (i := 4) hX rfl d_L_law_788 ?_
      refine aw_iconst (v := 1) hX (by decide) d_L_law_790 ?_
      refine aw_iadd hX d_L_law_791 ?_
      obtain ⟨x124, f_1807, e_1807⟩ := bd_some e_1741
      clear e_1741
      refine ar_sld hX hx f_1807 d_L_law_792 ?_
      refine aw_aload_n (i := 0) hX rfl rfl d_L_law_793 ?_
      refine aw_iload (i := 4) hX rfl d_L_law_794 ?_
      refine aw_iconst (v := 2) hX (by decide) d_L_law_796 ?_
      refine aw_iadd hX d_L_law_797 ?_
      obtain ⟨x125, f_1808, e_1808⟩ := bd_some e_1807
      clear e_1807
      refine ar_sld hX hx f_1808 d_L_law_798 ?_
      refine aw_aload_n (i := 0) hX rfl rfl d_L_law_799 ?_
      refine aw_iload (i := 4) hX rfl d_L_law_800 ?_
      refine aw_iconst (v := 3) hX (by decide) d_L_law_802 ?_
      refine aw_iadd hX d_L_law_803 ?_
      obtain ⟨x126, f_1809, e_1809⟩ := bd_some e_1808
      clear e_1808
      refine ar_sld hX hx f_1809 d_L_law_804 ?_
      refine aw_aload_n (i := 0) hX rfl rfl d_L_law_805 ?_
      refine aw_iload (i := 4) hX rfl d_L_law_806 ?_
      refine aw_iconst (v := 4) hX (by decide) d_L_law_808 ?_
      refine aw_iadd hX d_L_law_809 ?_
      obtain ⟨x127, f_1810, e_1810⟩ := bd_some e_1809
      clear e_1809
      refine ar_sld hX hx f_1810 d_L_law_810 ?_
      refine aw_aload_n (i := 3) hX rfl rfl d_L_law_811 ?_
      obtain ⟨q128, f_1811, e_1811⟩ := bd_some e_1810
      clear e_1810
      refine aw_callSW (av := [.ref 0, .int x124, .int x125, .int x126, .int x127, .ref 277]) (avr := [.ref 277, .int x127, .int x126, .int x125, .int x124, .ref 0]) hX (k_L_goes (cx_g hX) hF f_1811) miw_L_goes rfl rfl w_1142 w_1143 (by decide) (Nat.le_of_ble_eq_true rfl) (by omega) (by omega) d_L_law_812 ?_
      refine aw_istore (i := 5) (lv2 := [.ref 100099, .ref 0, .ref 240, .ref 277, .int s, .int q128.1, d6, d7]) hX rfl rfl d_L_law_815 ?_
      refine aw_aload_n (i := 2) hX rfl rfl d_L_law_817 ?_
      refine aw_aload_n (i := 0) hX rfl rfl d_L_law_818 ?_
      refine aw_iload (i := 4) hX rfl d_L_law_819 ?_
      refine aw_iconst (v := 1) hX (by decide) d_L_law_821 ?_
      refine aw_iadd hX d_L_law_822 ?_
      obtain ⟨x129, f_1812, e_1812⟩ := bd_some e_1811
      clear e_1811
      refine ar_sld hX hx f_1812 d_L_law_823 ?_
      refine aw_aload_n (i := 0) hX rfl rfl d_L_law_824 ?_
      refine aw_iload (i := 4) hX rfl d_L_law_825 ?_
      refine aw_iconst (v := 2) hX (by decide) d_L_law_827 ?_
      refine aw_iadd hX d_L_law_828 ?_
      obtain ⟨x130, f_1813, e_1813⟩ := bd_some e_1812
      clear e_1812
      refine ar_sld hX hx f_1813 d_L_law_829 ?_
      refine aw_aload_n (i := 0) hX rfl rfl d_L_law_830 ?_
      refine aw_iload (i := 4) hX rfl d_L_law_831 ?_
      refine aw_iconst (v := 3) hX (by decide) d_L_law_833 ?_
      refine aw_iadd hX d_L_law_834 ?_
      obtain ⟨x131, f_1814, e_1814⟩ := bd_some e_1813
      clear e_1813
      refine ar_sld hX hx f_1814 d_L_law_835 ?_
      refine aw_aload_n (i := 0) hX rfl rfl d_L_law_836 ?_
      refine aw_iload (i := 4) hX rfl d_L_law_837 ?_
      refine aw_iconst (v := 4) hX (by decide) d_L_law_839 ?_
      refine aw_iadd hX d_L_law_840 ?_
      obtain ⟨x132, f_1815, e_1815⟩ := bd_some e_1814
      clear e_1814
      refine ar_sld hX hx f_1815 d_L_law_841 ?_
      obtain ⟨q133, f_1816, e_1816⟩ := bd_some e_1815
      clear e_1815
      refine aw_callV (b := 240) (av := [.int x129, .int x130, .int x131, .int x132]) (avr := [.int x132, .int x131, .int x130, .int x129]) hX (k_X10_goes (cx_g hX) hF f_1816) mi_X10_goes rfl rfl w_1145 w_1146 w_1147 (by decide) rfl (LAY_lt rfl (by decide)) rfl rfl (Nat.le_of_ble_eq_true rfl) (by omega) (by omega) d_L_law_842 ?_
      refine aw_istore (i := 6) (lv2 := [.ref 100099, .ref 0, .ref 240, .ref 277, .int s, .int q128.1, .int q133.1, d7]) hX rfl rfl d_L_law_845 ?_
      refine aw_aload_n (i := 2) hX rfl rfl d_L_law_847 ?_
      obtain ⟨x134, f_1817, e_1817⟩ := bd_some e_1816
      clear e_1816
      refine aw_callV (b := 240) (av := []) (avr := []) hX (k_X10_thrown (cx_g hX) hF f_1817) mi_X10_thrown rfl rfl w_1023 w_1024 w_1025 (by decide) rfl (LAY_lt rfl (by decide)) rfl rfl (Nat.le_of_ble_eq_true rfl) (by omega) (by omega) d_L_law_848 ?_
      refine aw_iload (i := 5) hX rfl d_L_law_851 ?_
      refine aw_icmp_eq (t := 858) hX (by decide) d_L_law_853 (fun c => ?_) (fun c => ?_)
      · rw [if_pos c] at e_1817
        refine aw_iload (i := 5) hX rfl d_L_law_858 ?_
        refine aw_if_ne (t := 882) hX (by decide) d_L_law_860 (fun c => ?_) (fun c => ?_)
        · rw [if_neg c] at e_1817
          exact tj_L_law_882_23 hF hX hx e_1817 (by omega) (by omega) hR1 hR2 kI kE0
        · rw [if_pos c] at e_1817
          refine aw_aload_n (i := 3) hX rfl rfl d_L_law_863 ?_
          refine aw_iconst (v := 0) hX (by decide) d_L_law_864 ?_
          obtain ⟨x135, f_1818, e_1818⟩ := bd_some e_1817
          clear e_1817
          refine ar_laload hX f_1818 d_L_law_865 ?_
          refine aw_iload (i := 6) hX rfl d_L_law_866 ?_
          refine aw_if_eq (t := 875) hX (by decide) d_L_law_868 (fun c => ?_) (fun c => ?_)
          · rw [if_pos c] at e_1818
            refine aw_lconst (v := 0) hX (by decide) d_L_law_875 ?_
            exact tj_L_law_876_23 hF hX hx e_1818 (by omega) (by omega) hR1 hR2 kI kE0
          · rw [if_neg c] at e_1818
            refine aw_lconst (v := 1) hX (by decide) d_L_law_871 ?_
            refine aw_goto (t := 876) hX (by decide) d_L_law_872 ?_
            exact tj_L_law_876_23 hF hX hx e_1818 (by omega) (by omega) hR1 hR2 kI kE0
      · rw [if_neg c] at e_1817
        cases e_1817
    rw [if_neg c10] at e_1741
    by_cases c11 : (x1 &&& 31) = 11
    · rw [if_pos c11] at e_1741
      refine aw_tableIn (off := 845) (t := 885) hX (by rw [c11]; decide) (by rw [c11]; decide) (by rw [c11]; rfl) (by decide) d_L_law_40 ?_
      refine aw_aload_n (i := 1) hX rfl rfl d_L_law_885 ?_
      refine aw_aload_n (i := 0) hX rfl rfl d_L_law_886 ?_
      refine aw_iload (i := 4) hX rfl d_L_law_887 ?_
      refine aw_iconst (v := 1) hX (by decide) d_L_law_889 ?_
      refine aw_iadd hX d_L_law_890 ?_
      obtain ⟨x116, f_1819, e_1819⟩ := bd_some e_1741
      clear e_1741
      refine ar_sld hX hx f_1819 d_L_law_891 ?_
      refine aw_aload_n (i := 0) hX rfl rfl d_L_law_892 ?_
      refine aw_iload (i := 4) hX rfl d_L_law_893 ?_
      refine aw_iconst (v := 2) hX (by decide) d_L_law_895 ?_
      refine aw_iadd hX d_L_law_896 ?_
      obtain ⟨x117, f_1820, e_1820⟩ := bd_some e_1819
      clear e_1819
      refine ar_sld hX hx f_1820 d_L_law_897 ?_
      refine aw_aload_n (i := 3) hX rfl rfl d_L_law_898 ?_
      obtain ⟨q118, f_1821, e_1821⟩ := bd_some e_1820
      clear e_1820
      refine aw_callSW (av := [.ref 0, .int x116, .int x117, .ref 277]) (avr := [.ref 277, .int x117, .int x116, .ref 0]) hX (k_L_coming (cx_g hX) hF f_1821) miw_L_coming rfl rfl w_1135 w_1136 (by decide) (Nat.le_of_ble_eq_true rfl) (by omega) (by omega) d_L_law_899 ?_
      refine aw_istore (i := 5) (lv2 := [.ref 100099, .ref 0, .ref 240, .ref 277, .int s, .int q118.1, d6, d7]) hX rfl rfl d_L_law_902 ?_
      refine aw_aload_n (i := 2) hX rfl rfl d_L_law_904 ?_
      refine aw_aload_n (i := 0) hX rfl rfl d_L_law_905 ?_
      refine aw_iload (i := 4) hX rfl d_L_law_906 ?_
      refine aw_iconst (v := 1) hX (by decide) d_L_law_908 ?_
      refine aw_iadd hX d_L_law_909 ?_
      obtain ⟨x119, f_1822, e_1822⟩ := bd_some e_1821
      clear e_1821
      refine ar_sld hX hx f_1822 d_L_law_910 ?_
      refine aw_aload_n (i := 0) hX rfl rfl d_L_law_911 ?_
      refine aw_iload (i := 4) hX rfl d_L_law_912 ?_
      refine aw_iconst (v := 2) hX (by decide) d_L_law_914 ?_
      refine aw_iadd hX d_L_law_915 ?_
      obtain ⟨x120, f_1823, e_1823⟩ := bd_some e_1822
      clear e_1822
      refine ar_sld hX hx f_1823 d_L_law_916 ?_
      obtain ⟨q121, f_1824, e_1824⟩ := bd_some e_1823
      clear e_1823
      refine aw_callV (b := 240) (av := [.int x119, .int x120]) (avr := [.int x120, .int x119]) hX (k_X10_coming (cx_g hX) hF f_1824) mi_X10_coming rfl rfl w_1138 w_1139 w_1140 (by decide) rfl (LAY_lt rfl (by decide)) rfl rfl (Nat.le_of_ble_eq_true rfl) (by omega) (by omega) d_L_law_917 ?_
      refine aw_istore (i := 6) (lv2 := [.ref 100099, .ref 0, .ref 240, .ref 277, .int s, .int q118.1, .int q121.1, d7]) hX rfl rfl d_L_law_920 ?_
      refine aw_aload_n (i := 2) hX rfl rfl d_L_law_922 ?_
      obtain ⟨x122, f_1825, e_1825⟩ := bd_some e_1824
      clear e_1824
      refine aw_callV (b := 240) (av := []) (avr := []) hX (k_X10_thrown (cx_g hX) hF f_1825) mi_X10_thrown rfl rfl w_1023 w_1024 w_1025 (by decide) rfl (LAY_lt rfl (by decide)) rfl rfl (Nat.le_of_ble_eq_true rfl) (by omega) (by omega) d_L_law_923 ?_
      refine aw_iload (i := 5) hX rfl d_L_law_926 ?_
      refine aw_icmp_eq (t := 933) hX (by decide) d_L_law_928 (fun c => ?_) (fun c => ?_)
      · rw [if_pos c] at e_1825
        refine aw_iload (i := 5) hX rfl d_L_law_933 ?_
        refine aw_if_ne (t := 950) hX (by decide) d_L_law_935 (fun c => ?_) (fun c => ?_)
        · rw [if_neg c] at e_1825
          exact tj_L_law_950_23 hF hX hx e_1825 (by omega) (by omega) hR1 hR2 kI kE0
        · rw [if_pos c] at e_1825
          refine aw_aload_n (i := 3) hX rfl rfl d_L_law_938 ?_
          refine aw_iconst (v := 0) hX (by decide) d_L_law_939 ?_
          obtain ⟨x123, f_1826, e_1826⟩ := bd_some e_1825
          clear e_1825
          refine ar_laload hX f_1826 d_L_law_940 ?_
          refine aw_iload (i := 6) hX rfl d_L_law_941 ?_
          refine aw_i2l hX d_L_law_943 ?_
          refine aw_lcmp hX d_L_law_944 ?_
          refine aw_if_eq (t := 950) hX (by decide) d_L_law_945 (fun c => ?_) (fun c => ?_)
          · replace c := lc_eq.mp c
            rw [if_pos c] at e_1826
            exact tj_L_law_950_23 hF hX hx e_1826 (by omega) (by omega) hR1 hR2 kI kE0
          · replace c := fun q => c (lc_eq.mpr q)
            rw [if_neg c] at e_1826
            cases e_1826
      · rw [if_neg c] at e_1825
        cases e_1825
    rw [if_neg c11] at e_1741
    by_cases c12 : (x1 &&& 31) = 12
    · rw [if_pos c12] at e_1741
      refine aw_tableIn (off := 913) (t := 953) hX (by rw [c12]; decide) (by rw [c12]; decide) (by rw [c12]; rfl) (by decide) d_L_law_40 ?_
      refine aw_aload_n (i := 1) hX rfl rfl d_L_law_953 ?_
      refine aw_aload_n (i := 0) hX rfl rfl d_L_law_954 ?_
      refine aw_iload (i := 4) hX rfl d_L_law_955 ?_
      refine aw_iconst (v := 1) hX (by decide) d_L_law_957 ?_
      refine aw_iadd hX d_L_law_958 ?_
      obtain ⟨x108, f_1827, e_1827⟩ := bd_some e_1741
      clear e_1741
      refine ar_sld hX hx f_1827 d_L_law_959 ?_
      refine aw_aload_n (i := 0) hX rfl rfl d_L_law_960 ?_
      refine aw_iload (i := 4) hX rfl d_L_law_961 ?_
      refine aw_iconst (v := 2) hX (by decide) d_L_law_963 ?_
      refine aw_iadd hX d_L_law_964 ?_
      obtain ⟨x109, f_1828, e_1828⟩ := bd_some e_1827
      clear e_1827
      refine ar_sld hX hx f_1828 d_L_law_965 ?_
      refine aw_aload_n (i := 3) hX rfl rfl d_L_law_966 ?_
      obtain ⟨q110, f_1829, e_1829⟩ := bd_some e_1828
      clear e_1828
      refine aw_callSW (av := [.ref 0, .int x108, .int x109, .ref 277]) (avr := [.ref 277, .int x109, .int x108, .ref 0]) hX (k_L_often (cx_g hX) hF f_1829) miw_L_often rfl rfl w_1128 w_1129 (by decide) (Nat.le_of_ble_eq_true rfl) (by omega) (by omega) d_L_law_967 ?_
      refine aw_istore (i := 5) (lv2 := [.ref 100099, .ref 0, .ref 240, .ref 277, .int s, .int q110.1, d6, d7]) hX rfl rfl d_L_law_970 ?_
      refine aw_aload_n (i := 2) hX rfl rfl d_L_law_972 ?_
      refine aw_aload_n (i := 0) hX rfl rfl d_L_law_973 ?_
      refine aw_iload (i := 4) hX rfl d_L_law_974 ?_
      refine aw_iconst (v := 1) hX (by decide) d_L_law_976 ?_
      refine aw_iadd hX d_L_law_977 ?_
      obtain ⟨x111, f_1830, e_1830⟩ := bd_some e_1829
      clear e_1829
      refine ar_sld hX hx f_1830 d_L_law_978 ?_
      refine aw_aload_n (i := 0) hX rfl rfl d_L_law_979 ?_
      refine aw_iload (i := 4) hX rfl d_L_law_980 ?_
      refine aw_iconst (v := 2) hX (by decide) d_L_law_982 ?_
      refine aw_iadd hX d_L_law_983 ?_
      obtain ⟨x112, f_1831, e_1831⟩ := bd_some e_1830
      clear e_1830
      refine ar_sld hX hx f_1831 d_L_law_984 ?_
      obtain ⟨q113, f_1832, e_1832⟩ := bd_some e_1831
      clear e_1831
      refine aw_callV (b := 240) (av := [.int x111, .int x112]) (avr := [.int x112, .int x111]) hX (k_X10_often (cx_g hX) hF f_1832) mi_X10_often rfl rfl w_1131 w_1132 w_1133 (by decide) rfl (LAY_lt rfl (by decide)) rfl rfl (Nat.le_of_ble_eq_true rfl) (by omega) (by omega) d_L_law_985 ?_
      refine aw_lstore (i := 6) (lv2 := [.ref 100099, .ref 0, .ref 240, .ref 277, .int s, .int q110.1, .long q113.1, jk]) hX rfl rfl d_L_law_988 ?_
      refine aw_aload_n (i := 2) hX rfl rfl d_L_law_990 ?_
      obtain ⟨x114, f_1833, e_1833⟩ := bd_some e_1832
      clear e_1832
      refine aw_callV (b := 240) (av := []) (avr := []) hX (k_X10_thrown (cx_g hX) hF f_1833) mi_X10_thrown rfl rfl w_1023 w_1024 w_1025 (by decide) rfl (LAY_lt rfl (by decide)) rfl rfl (Nat.le_of_ble_eq_true rfl) (by omega) (by omega) d_L_law_991 ?_
      refine aw_iload (i := 5) hX rfl d_L_law_994 ?_
      refine aw_icmp_eq (t := 1001) hX (by decide) d_L_law_996 (fun c => ?_) (fun c => ?_)
      · rw [if_pos c] at e_1833
        refine aw_iload (i := 5) hX rfl d_L_law_1001 ?_
        refine aw_if_ne (t := 1017) hX (by decide) d_L_law_1003 (fun c => ?_) (fun c => ?_)
        · rw [if_neg c] at e_1833
          exact tj_L_law_1017_23 hF hX hx e_1833 (by omega) (by omega) hR1 hR2 kI kE0
        · rw [if_pos c] at e_1833
          refine aw_aload_n (i := 3) hX rfl rfl d_L_law_1006 ?_
          refine aw_iconst (v := 0) hX (by decide) d_L_law_1007 ?_
          obtain ⟨x115, f_1834, e_1834⟩ := bd_some e_1833
          clear e_1833
          refine ar_laload hX f_1834 d_L_law_1008 ?_
          refine aw_lload (i := 6) hX rfl d_L_law_1009 ?_
          refine aw_lcmp hX d_L_law_1011 ?_
          refine aw_if_eq (t := 1017) hX (by decide) d_L_law_1012 (fun c => ?_) (fun c => ?_)
          · replace c := lc_eq.mp c
            rw [if_pos c] at e_1834
            exact tj_L_law_1017_23 hF hX hx e_1834 (by omega) (by omega) hR1 hR2 kI kE0
          · replace c := fun q => c (lc_eq.mpr q)
            rw [if_neg c] at e_1834
            cases e_1834
      · rw [if_neg c] at e_1833
        cases e_1833
    rw [if_neg c12] at e_1741
    by_cases c13 : (x1 &&& 31) = 13
    · rw [if_pos c13] at e_1741
      refine aw_tableIn (off := 980) (t := 1020) hX (by rw [c13]; decide) (by rw [c13]; decide) (by rw [c13]; rfl) (by decide) d_L_law_40 ?_
      refine aw_aload_n (i := 1) hX rfl rfl d_L_law_1020 ?_
      refine aw_aload_n (i := 0) hX rfl rfl d_L_law_1021 ?_
      refine aw_iload (i := 4) hX rfl d_L_law_1022 ?_
      refine aw_iconst (v := 1) hX (by decide) d_L_law_1024 ?_
      refine aw_iadd hX d_L_law_1025 ?_
      obtain ⟨x100, f_1835, e_1835⟩ := bd_some e_1741
      clear e_1741
      refine ar_sld hX hx f_1835 d_L_law_1026 ?_
      refine aw_aload_n (i := 0) hX rfl rfl d_L_law_1027 ?_
      refine aw_iload (i := 4) hX rfl d_L_law_1028 ?_
      refine aw_iconst (v := 2) hX (by decide) d_L_law_1030 ?_
      refine aw_iadd hX d_L_law_1031 ?_
      obtain ⟨x101, f_1836, e_1836⟩ := bd_some e_1835
      clear e_1835
      refine ar_sld hX hx f_1836 d_L_law_1032 ?_
      refine aw_aload_n (i := 3) hX rfl rfl d_L_law_1033 ?_
      obtain ⟨q102, f_1837, e_1837⟩ := bd_some e_1836
      clear e_1836
      refine aw_callSW (av := [.ref 0, .int x100, .int x101, .ref 277]) (avr := [.ref 277, .int x101, .int x100, .ref 0]) hX (k_L_full (cx_g hX) hF f_1837) miw_L_full rfl rfl w_1121 w_1122 (by decide) (Nat.le_of_ble_eq_true rfl) (by omega) (by omega) d_L_law_1034 ?_
      refine aw_istore (i := 5) (lv2 := [.ref 100099, .ref 0, .ref 240, .ref 277, .int s, .int q102.1, d6, d7]) hX rfl rfl d_L_law_1037 ?_
      refine aw_aload_n (i := 2) hX rfl rfl d_L_law_1039 ?_
      refine aw_aload_n (i := 0) hX rfl rfl d_L_law_1040 ?_
      refine aw_iload (i := 4) hX rfl d_L_law_1041 ?_
      refine aw_iconst (v := 1) hX (by decide) d_L_law_1043 ?_
      refine aw_iadd hX d_L_law_1044 ?_
      obtain ⟨x103, f_1838, e_1838⟩ := bd_some e_1837
      clear e_1837
      refine ar_sld hX hx f_1838 d_L_law_1045 ?_
      refine aw_aload_n (i := 0) hX rfl rfl d_L_law_1046 ?_
      refine aw_iload (i := 4) hX rfl d_L_law_1047 ?_
      refine aw_iconst (v := 2) hX (by decide) d_L_law_1049 ?_
      refine aw_iadd hX d_L_law_1050 ?_
      obtain ⟨x104, f_1839, e_1839⟩ := bd_some e_1838
      clear e_1838
      refine ar_sld hX hx f_1839 d_L_law_1051 ?_
      obtain ⟨q105, f_1840, e_1840⟩ := bd_some e_1839
      clear e_1839
      refine aw_callV (b := 240) (av := [.int x103, .int x104]) (avr := [.int x104, .int x103]) hX (k_X10_full (cx_g hX) hF f_1840) mi_X10_full rfl rfl w_1124 w_1125 w_1126 (by decide) rfl (LAY_lt rfl (by decide)) rfl rfl (Nat.le_of_ble_eq_true rfl) (by omega) (by omega) d_L_law_1052 ?_
      refine aw_istore (i := 6) (lv2 := [.ref 100099, .ref 0, .ref 240, .ref 277, .int s, .int q102.1, .int q105.1, d7]) hX rfl rfl d_L_law_1055 ?_
      refine aw_aload_n (i := 2) hX rfl rfl d_L_law_1057 ?_
      obtain ⟨x106, f_1841, e_1841⟩ := bd_some e_1840
      clear e_1840
      refine aw_callV (b := 240) (av := []) (avr := []) hX (k_X10_thrown (cx_g hX) hF f_1841) mi_X10_thrown rfl rfl w_1023 w_1024 w_1025 (by decide) rfl (LAY_lt rfl (by decide)) rfl rfl (Nat.le_of_ble_eq_true rfl) (by omega) (by omega) d_L_law_1058 ?_
      refine aw_iload (i := 5) hX rfl d_L_law_1061 ?_
      refine aw_icmp_eq (t := 1068) hX (by decide) d_L_law_1063 (fun c => ?_) (fun c => ?_)
      · rw [if_pos c] at e_1841
        refine aw_iload (i := 5) hX rfl d_L_law_1068 ?_
        refine aw_if_ne (t := 1085) hX (by decide) d_L_law_1070 (fun c => ?_) (fun c => ?_)
        · rw [if_neg c] at e_1841
          exact tj_L_law_1085_23 hF hX hx e_1841 (by omega) (by omega) hR1 hR2 kI kE0
        · rw [if_pos c] at e_1841
          refine aw_aload_n (i := 3) hX rfl rfl d_L_law_1073 ?_
          refine aw_iconst (v := 0) hX (by decide) d_L_law_1074 ?_
          obtain ⟨x107, f_1842, e_1842⟩ := bd_some e_1841
          clear e_1841
          refine ar_laload hX f_1842 d_L_law_1075 ?_
          refine aw_iload (i := 6) hX rfl d_L_law_1076 ?_
          refine aw_i2l hX d_L_law_1078 ?_
          refine aw_lcmp hX d_L_law_1079 ?_
          refine aw_if_eq (t := 1085) hX (by decide) d_L_law_1080 (fun c => ?_) (fun c => ?_)
          · replace c := lc_eq.mp c
            rw [if_pos c] at e_1842
            exact tj_L_law_1085_23 hF hX hx e_1842 (by omega) (by omega) hR1 hR2 kI kE0
          · replace c := fun q => c (lc_eq.mpr q)
            rw [if_neg c] at e_1842
            cases e_1842
      · rw [if_neg c] at e_1841
        cases e_1841
    rw [if_neg c13] at e_1741
    by_cases c14 : (x1 &&& 31) = 14
    · rw [if_pos c14] at e_1741
      refine aw_tableIn (off := 1048) (t := 1088) hX (by rw [c14]; decide) (by rw [c14]; decide) (by rw [c14]; rfl) (by decide) d_L_law_40 ?_
      refine aw_aload_n (i := 1) hX rfl rfl d_L_law_1088 ?_
      obtain ⟨x98, f_1843, e_1843⟩ := bd_some e_1741
      clear e_1741
      refine aw_callV (b := 0) (av := []) (avr := []) hX (k_X9_earns (cx_g hX) hF f_1843) mi_X9_earns rfl rfl w_1113 w_1114 w_1115 (by decide) rfl (LAY_lt rfl (by decide)) rfl rfl (Nat.le_of_ble_eq_true rfl) (by omega) (by omega) d_L_law_1089 ?_
      refine aw_aload_n (i := 2) hX rfl rfl d_L_law_1092 ?_
      obtain ⟨q99, f_1844, e_1844⟩ := bd_some e_1843
      clear e_1843
      refine aw_callV (b := 240) (av := []) (avr := []) hX (k_X10_earns (cx_g hX) hF f_1844) mi_X10_earns rfl rfl w_1117 w_1118 w_1119 (by decide) rfl (LAY_lt rfl (by decide)) rfl rfl (Nat.le_of_ble_eq_true rfl) (by omega) (by omega) d_L_law_1093 ?_
      refine aw_lcmp hX d_L_law_1096 ?_
      refine aw_if_eq (t := 1898) hX (by decide) d_L_law_1097 (fun c => ?_) (fun c => ?_)
      · replace c := lc_eq.mp c
        rw [if_pos c] at e_1844
        exact tj_L_law_1898_23 hF hX hx e_1844 (by omega) (by omega) hR1 hR2 kI kE0
      · replace c := fun q => c (lc_eq.mpr q)
        rw [if_neg c] at e_1844
        cases e_1844
    rw [if_neg c14] at e_1741
    by_cases c15 : (x1 &&& 31) = 15
    · rw [if_pos c15] at e_1741
      refine aw_tableIn (off := 1062) (t := 1102) hX (by rw [c15]; decide) (by rw [c15]; decide) (by rw [c15]; rfl) (by decide) d_L_law_40 ?_
      refine aw_aload_n (i := 1) hX rfl rfl d_L_law_1102 ?_
      refine aw_aload_n (i := 0) hX rfl rfl d_L_law_1103 ?_
      refine aw_iload (i := 4) hX rfl d_L_law_1104 ?_
      refine aw_iconst (v := 1) hX (by decide) d_L_law_1106 ?_
      refine aw_iadd hX d_L_law_1107 ?_
      obtain ⟨x86, f_1845, e_1845⟩ := bd_some e_1741
      clear e_1741
      refine ar_sld hX hx f_1845 d_L_law_1108 ?_
      refine aw_aload_n (i := 0) hX rfl rfl d_L_law_1109 ?_
      refine aw_iload (i := 4) hX rfl d_L_law_1110 ?_
      refine aw_iconst (v := 2) hX (by decide) d_L_law_1112 ?_
      refine aw_iadd hX d_L_law_1113 ?_
      obtain ⟨x87, f_1846, e_1846⟩ := bd_some e_1845
      clear e_1845
      refine ar_sld hX hx f_1846 d_L_law_1114 ?_
      refine aw_aload_n (i := 0) hX rfl rfl d_L_law_1115 ?_
      refine aw_iload (i := 4) hX rfl d_L_law_1116 ?_
      refine aw_iconst (v := 3) hX (by decide) d_L_law_1118 ?_
      refine aw_iadd hX d_L_law_1119 ?_
      obtain ⟨x88, f_1847, e_1847⟩ := bd_some e_1846
      clear e_1846
      refine ar_sld hX hx f_1847 d_L_law_1120 ?_
      refine aw_aload_n (i := 0) hX rfl rfl d_L_law_1121 ?_
      refine aw_iload (i := 4) hX rfl d_L_law_1122 ?_
      refine aw_iconst (v := 4) hX (by decide) d_L_law_1124 ?_
      refine aw_iadd hX d_L_law_1125 ?_
      obtain ⟨x89, f_1848, e_1848⟩ := bd_some e_1847
      clear e_1847
      refine ar_sld hX hx f_1848 d_L_law_1126 ?_
      refine aw_aload_n (i := 3) hX rfl rfl d_L_law_1127 ?_
      obtain ⟨q90, f_1849, e_1849⟩ := bd_some e_1848
      clear e_1848
      refine aw_callSW (av := [.ref 0, .int x86, .int x87, .int x88, .int x89, .ref 277]) (avr := [.ref 277, .int x89, .int x88, .int x87, .int x86, .ref 0]) hX (k_L_prices (cx_g hX) hF f_1849) miw_L_prices rfl rfl w_1106 w_1107 (by decide) (Nat.le_of_ble_eq_true rfl) (by omega) (by omega) d_L_law_1128 ?_
      refine aw_istore (i := 5) (lv2 := [.ref 100099, .ref 0, .ref 240, .ref 277, .int s, .int q90.1, d6, d7]) hX rfl rfl d_L_law_1131 ?_
      refine aw_aload_n (i := 2) hX rfl rfl d_L_law_1133 ?_
      refine aw_aload_n (i := 0) hX rfl rfl d_L_law_1134 ?_
      refine aw_iload (i := 4) hX rfl d_L_law_1135 ?_
      refine aw_iconst (v := 1) hX (by decide) d_L_law_1137 ?_
      refine aw_iadd hX d_L_law_1138 ?_
      obtain ⟨x91, f_1850, e_1850⟩ := bd_some e_1849
      clear e_1849
      refine ar_sld hX hx f_1850 d_L_law_1139 ?_
      refine aw_aload_n (i := 0) hX rfl rfl d_L_law_1140 ?_
      refine aw_iload (i := 4) hX rfl d_L_law_1141 ?_
      refine aw_iconst (v := 2) hX (by decide) d_L_law_1143 ?_
      refine aw_iadd hX d_L_law_1144 ?_
      obtain ⟨x92, f_1851, e_1851⟩ := bd_some e_1850
      clear e_1850
      refine ar_sld hX hx f_1851 d_L_law_1145 ?_
      refine aw_aload_n (i := 0) hX rfl rfl d_L_law_1146 ?_
      refine aw_iload (i := 4) hX rfl d_L_law_1147 ?_
      refine aw_iconst (v := 3) hX (by decide) d_L_law_1149 ?_
      refine aw_iadd hX d_L_law_1150 ?_
      obtain ⟨x93, f_1852, e_1852⟩ := bd_some e_1851
      clear e_1851
      refine ar_sld hX hx f_1852 d_L_law_1151 ?_
      refine aw_aload_n (i := 0) hX rfl rfl d_L_law_1152 ?_
      refine aw_iload (i := 4) hX rfl d_L_law_1153 ?_
      refine aw_iconst (v := 4) hX (by decide) d_L_law_1155 ?_
      refine aw_iadd hX d_L_law_1156 ?_
      obtain ⟨x94, f_1853, e_1853⟩ := bd_some e_1852
      clear e_1852
      refine ar_sld hX hx f_1853 d_L_law_1157 ?_
      obtain ⟨q95, f_1854, e_1854⟩ := bd_some e_1853
      clear e_1853
      refine aw_callV (b := 240) (av := [.int x91, .int x92, .int x93, .int x94]) (avr := [.int x94, .int x93, .int x92, .int x91]) hX (k_X10_prices (cx_g hX) hF f_1854) mi_X10_prices rfl rfl w_1109 w_1110 w_1111 (by decide) rfl (LAY_lt rfl (by decide)) rfl rfl (Nat.le_of_ble_eq_true rfl) (by omega) (by omega) d_L_law_1158 ?_
      refine aw_istore (i := 6) (lv2 := [.ref 100099, .ref 0, .ref 240, .ref 277, .int s, .int q90.1, .int q95.1, d7]) hX rfl rfl d_L_law_1161 ?_
      refine aw_aload_n (i := 2) hX rfl rfl d_L_law_1163 ?_
      obtain ⟨x96, f_1855, e_1855⟩ := bd_some e_1854
      clear e_1854
      refine aw_callV (b := 240) (av := []) (avr := []) hX (k_X10_thrown (cx_g hX) hF f_1855) mi_X10_thrown rfl rfl w_1023 w_1024 w_1025 (by decide) rfl (LAY_lt rfl (by decide)) rfl rfl (Nat.le_of_ble_eq_true rfl) (by omega) (by omega) d_L_law_1164 ?_
      refine aw_iload (i := 5) hX rfl d_L_law_1167 ?_
      refine aw_icmp_eq (t := 1174) hX (by decide) d_L_law_1169 (fun c => ?_) (fun c => ?_)
      · rw [if_pos c] at e_1855
        refine aw_iload (i := 5) hX rfl d_L_law_1174 ?_
        refine aw_if_ne (t := 1191) hX (by decide) d_L_law_1176 (fun c => ?_) (fun c => ?_)
        · rw [if_neg c] at e_1855
          exact tj_L_law_1191_23 hF hX hx e_1855 (by omega) (by omega) hR1 hR2 kI kE0
        · rw [if_pos c] at e_1855
          refine aw_aload_n (i := 3) hX rfl rfl d_L_law_1179 ?_
          refine aw_iconst (v := 0) hX (by decide) d_L_law_1180 ?_
          obtain ⟨x97, f_1856, e_1856⟩ := bd_some e_1855
          clear e_1855
          refine ar_laload hX f_1856 d_L_law_1181 ?_
          refine aw_iload (i := 6) hX rfl d_L_law_1182 ?_
          refine aw_i2l hX d_L_law_1184 ?_
          refine aw_lcmp hX d_L_law_1185 ?_
          refine aw_if_eq (t := 1191) hX (by decide) d_L_law_1186 (fun c => ?_) (fun c => ?_)
          · replace c := lc_eq.mp c
            rw [if_pos c] at e_1856
            exact tj_L_law_1191_23 hF hX hx e_1856 (by omega) (by omega) hR1 hR2 kI kE0
          · replace c := fun q => c (lc_eq.mpr q)
            rw [if_neg c] at e_1856
            cases e_1856
      · rw [if_neg c] at e_1855
        cases e_1855
    rw [if_neg c15] at e_1741
    by_cases c16 : (x1 &&& 31) = 16
    · rw [if_pos c16] at e_1741
      refine aw_tableIn (off := 1154) (t := 1194) hX (by rw [c16]; decide) (by rw [c16]; decide) (by rw [c16]; rfl) (by decide) d_L_law_40 ?_
      refine aw_aload_n (i := 1) hX rfl rfl d_L_law_1194 ?_
      refine aw_aload_n (i := 0) hX rfl rfl d_L_law_1195 ?_
      refine aw_iload (i := 4) hX rfl d_L_law_1196 ?_
      refine aw_iconst (v := 1) hX (by decide) d_L_law_1198 ?_
      refine aw_iadd hX d_L_law_1199 ?_
      obtain ⟨x80, f_1857, e_1857⟩ := bd_some e_1741
      clear e_1741
      refine ar_sld hX hx f_1857 d_L_law_1200 ?_
      refine aw_aload_n (i := 3) hX rfl rfl d_L_law_1201 ?_
      obtain ⟨q81, f_1858, e_1858⟩ := bd_some e_1857
      clear e_1857
      refine aw_callSW (av := [.ref 0, .int x80, .ref 277]) (avr := [.ref 277, .int x80, .ref 0]) hX (k_L_found (cx_g hX) hF f_1858) miw_L_found rfl rfl w_1099 w_1100 (by decide) (Nat.le_of_ble_eq_true rfl) (by omega) (by omega) d_L_law_1202 ?_
      refine aw_istore (i := 5) (lv2 := [.ref 100099, .ref 0, .ref 240, .ref 277, .int s, .int q81.1, d6, d7]) hX rfl rfl d_L_law_1205 ?_
      refine aw_aload_n (i := 2) hX rfl rfl d_L_law_1207 ?_
      refine aw_aload_n (i := 0) hX rfl rfl d_L_law_1208 ?_
      refine aw_iload (i := 4) hX rfl d_L_law_1209 ?_
      refine aw_iconst (v := 1) hX (by decide) d_L_law_1211 ?_
      refine aw_iadd hX d_L_law_1212 ?_
      obtain ⟨x82, f_1859, e_1859⟩ := bd_some e_1858
      clear e_1858
      refine ar_sld hX hx f_1859 d_L_law_1213 ?_
      obtain ⟨q83, f_1860, e_1860⟩ := bd_some e_1859
      clear e_1859
      refine aw_callV (b := 240) (av := [.int x82]) (avr := [.int x82]) hX (k_X10_found (cx_g hX) hF f_1860) mi_X10_found rfl rfl w_1102 w_1103 w_1104 (by decide) rfl (LAY_lt rfl (by decide)) rfl rfl (Nat.le_of_ble_eq_true rfl) (by omega) (by omega) d_L_law_1214 ?_
      refine aw_lstore (i := 6) (lv2 := [.ref 100099, .ref 0, .ref 240, .ref 277, .int s, .int q81.1, .long q83.1, jk]) hX rfl rfl d_L_law_1217 ?_
      refine aw_aload_n (i := 2) hX rfl rfl d_L_law_1219 ?_
      obtain ⟨x84, f_1861, e_1861⟩ := bd_some e_1860
      clear e_1860
      refine aw_callV (b := 240) (av := []) (avr := []) hX (k_X10_thrown (cx_g hX) hF f_1861) mi_X10_thrown rfl rfl w_1023 w_1024 w_1025 (by decide) rfl (LAY_lt rfl (by decide)) rfl rfl (Nat.le_of_ble_eq_true rfl) (by omega) (by omega) d_L_law_1220 ?_
      refine aw_iload (i := 5) hX rfl d_L_law_1223 ?_
      refine aw_icmp_eq (t := 1230) hX (by decide) d_L_law_1225 (fun c => ?_) (fun c => ?_)
      · rw [if_pos c] at e_1861
        refine aw_iload (i := 5) hX rfl d_L_law_1230 ?_
        refine aw_if_ne (t := 1246) hX (by decide) d_L_law_1232 (fun c => ?_) (fun c => ?_)
        · rw [if_neg c] at e_1861
          exact tj_L_law_1246_23 hF hX hx e_1861 (by omega) (by omega) hR1 hR2 kI kE0
        · rw [if_pos c] at e_1861
          refine aw_aload_n (i := 3) hX rfl rfl d_L_law_1235 ?_
          refine aw_iconst (v := 0) hX (by decide) d_L_law_1236 ?_
          obtain ⟨x85, f_1862, e_1862⟩ := bd_some e_1861
          clear e_1861
          refine ar_laload hX f_1862 d_L_law_1237 ?_
          refine aw_lload (i := 6) hX rfl d_L_law_1238 ?_
          refine aw_lcmp hX d_L_law_1240 ?_
          refine aw_if_eq (t := 1246) hX (by decide) d_L_law_1241 (fun c => ?_) (fun c => ?_)
          · replace c := lc_eq.mp c
            rw [if_pos c] at e_1862
            exact tj_L_law_1246_23 hF hX hx e_1862 (by omega) (by omega) hR1 hR2 kI kE0
          · replace c := fun q => c (lc_eq.mpr q)
            rw [if_neg c] at e_1862
            cases e_1862
      · rw [if_neg c] at e_1861
        cases e_1861
    rw [if_neg c16] at e_1741
    by_cases c17 : (x1 &&& 31) = 17
    · rw [if_pos c17] at e_1741
      refine aw_tableIn (off := 1209) (t := 1249) hX (by rw [c17]; decide) (by rw [c17]; decide) (by rw [c17]; rfl) (by decide) d_L_law_40 ?_
      refine aw_aload_n (i := 1) hX rfl rfl d_L_law_1249 ?_
      refine aw_aload_n (i := 0) hX rfl rfl d_L_law_1250 ?_
      refine aw_iload (i := 4) hX rfl d_L_law_1251 ?_
      refine aw_iconst (v := 1) hX (by decide) d_L_law_1253 ?_
      refine aw_iadd hX d_L_law_1254 ?_
      obtain ⟨x72, f_1863, e_1863⟩ := bd_some e_1741
      clear e_1741
      refine ar_sld hX hx f_1863 d_L_law_1255 ?_
      refine aw_aload_n (i := 0) hX rfl rfl d_L_law_1256 ?_
      refine aw_iload (i := 4) hX rfl d_L_law_1257 ?_
      refine aw_iconst (v := 2) hX (by decide) d_L_law_1259 ?_
      refine aw_iadd hX d_L_law_1260 ?_
      obtain ⟨x73, f_1864, e_1864⟩ := bd_some e_1863
      clear e_1863
      refine ar_sld hX hx f_1864 d_L_law_1261 ?_
      refine aw_aload_n (i := 3) hX rfl rfl d_L_law_1262 ?_
      obtain ⟨q74, f_1865, e_1865⟩ := bd_some e_1864
      clear e_1864
      refine aw_callSW (av := [.ref 0, .int x72, .int x73, .ref 277]) (avr := [.ref 277, .int x73, .int x72, .ref 0]) hX (k_L_over (cx_g hX) hF f_1865) miw_L_over rfl rfl w_1092 w_1093 (by decide) (Nat.le_of_ble_eq_true rfl) (by omega) (by omega) d_L_law_1263 ?_
      refine aw_istore (i := 5) (lv2 := [.ref 100099, .ref 0, .ref 240, .ref 277, .int s, .int q74.1, d6, d7]) hX rfl rfl d_L_law_1266 ?_
      refine aw_aload_n (i := 2) hX rfl rfl d_L_law_1268 ?_
      refine aw_aload_n (i := 0) hX rfl rfl d_L_law_1269 ?_
      refine aw_iload (i := 4) hX rfl d_L_law_1270 ?_
      refine aw_iconst (v := 1) hX (by decide) d_L_law_1272 ?_
      refine aw_iadd hX d_L_law_1273 ?_
      obtain ⟨x75, f_1866, e_1866⟩ := bd_some e_1865
      clear e_1865
      refine ar_sld hX hx f_1866 d_L_law_1274 ?_
      refine aw_aload_n (i := 0) hX rfl rfl d_L_law_1275 ?_
      refine aw_iload (i := 4) hX rfl d_L_law_1276 ?_
      refine aw_iconst (v := 2) hX (by decide) d_L_law_1278 ?_
      refine aw_iadd hX d_L_law_1279 ?_
      obtain ⟨x76, f_1867, e_1867⟩ := bd_some e_1866
      clear e_1866
      refine ar_sld hX hx f_1867 d_L_law_1280 ?_
      obtain ⟨q77, f_1868, e_1868⟩ := bd_some e_1867
      clear e_1867
      refine aw_callV (b := 240) (av := [.int x75, .int x76]) (avr := [.int x76, .int x75]) hX (k_X10_over (cx_g hX) hF f_1868) mi_X10_over rfl rfl w_1095 w_1096 w_1097 (by decide) rfl (LAY_lt rfl (by decide)) rfl rfl (Nat.le_of_ble_eq_true rfl) (by omega) (by omega) d_L_law_1281 ?_
      refine aw_istore (i := 6) (lv2 := [.ref 100099, .ref 0, .ref 240, .ref 277, .int s, .int q74.1, .int q77.1, d7]) hX rfl rfl d_L_law_1284 ?_
      refine aw_aload_n (i := 2) hX rfl rfl d_L_law_1286 ?_
      obtain ⟨x78, f_1869, e_1869⟩ := bd_some e_1868
      clear e_1868
      refine aw_callV (b := 240) (av := []) (avr := []) hX (k_X10_thrown (cx_g hX) hF f_1869) mi_X10_thrown rfl rfl w_1023 w_1024 w_1025 (by decide) rfl (LAY_lt rfl (by decide)) rfl rfl (Nat.le_of_ble_eq_true rfl) (by omega) (by omega) d_L_law_1287 ?_
      refine aw_iload (i := 5) hX rfl d_L_law_1290 ?_
      refine aw_icmp_eq (t := 1297) hX (by decide) d_L_law_1292 (fun c => ?_) (fun c => ?_)
      · rw [if_pos c] at e_1869
        refine aw_iload (i := 5) hX rfl d_L_law_1297 ?_
        refine aw_if_ne (t := 1314) hX (by decide) d_L_law_1299 (fun c => ?_) (fun c => ?_)
        · rw [if_neg c] at e_1869
          exact tj_L_law_1314_23 hF hX hx e_1869 (by omega) (by omega) hR1 hR2 kI kE0
        · rw [if_pos c] at e_1869
          refine aw_aload_n (i := 3) hX rfl rfl d_L_law_1302 ?_
          refine aw_iconst (v := 0) hX (by decide) d_L_law_1303 ?_
          obtain ⟨x79, f_1870, e_1870⟩ := bd_some e_1869
          clear e_1869
          refine ar_laload hX f_1870 d_L_law_1304 ?_
          refine aw_iload (i := 6) hX rfl d_L_law_1305 ?_
          refine aw_i2l hX d_L_law_1307 ?_
          refine aw_lcmp hX d_L_law_1308 ?_
          refine aw_if_eq (t := 1314) hX (by decide) d_L_law_1309 (fun c => ?_) (fun c => ?_)
          · replace c := lc_eq.mp c
            rw [if_pos c] at e_1870
            exact tj_L_law_1314_23 hF hX hx e_1870 (by omega) (by omega) hR1 hR2 kI kE0
          · replace c := fun q => c (lc_eq.mpr q)
            rw [if_neg c] at e_1870
            cases e_1870
      · rw [if_neg c] at e_1869
        cases e_1869
    rw [if_neg c17] at e_1741
    by_cases c18 : (x1 &&& 31) = 18
    · rw [if_pos c18] at e_1741
      refine aw_tableIn (off := 1277) (t := 1317) hX (by rw [c18]; decide) (by rw [c18]; decide) (by rw [c18]; rfl) (by decide) d_L_law_40 ?_
      refine aw_aload_n (i := 1) hX rfl rfl d_L_law_1317 ?_
      refine aw_aload_n (i := 0) hX rfl rfl d_L_law_1318 ?_
      refine aw_iload (i := 4) hX rfl d_L_law_1319 ?_
      refine aw_iconst (v := 1) hX (by decide) d_L_law_1321 ?_
      refine aw_iadd hX d_L_law_1322 ?_
      obtain ⟨x62, f_1871, e_1871⟩ := bd_some e_1741
      clear e_1741
      refine ar_sld hX hx f_1871 d_L_law_1323 ?_
      refine aw_aload_n (i := 0) hX rfl rfl d_L_law_1324 ?_
      refine aw_iload (i := 4) hX rfl d_L_law_1325 ?_
      refine aw_iconst (v := 2) hX (by decide) d_L_law_1327 ?_
      refine aw_iadd hX d_L_law_1328 ?_
      obtain ⟨x63, f_1872, e_1872⟩ := bd_some e_1871
      clear e_1871
      refine ar_sld hX hx f_1872 d_L_law_1329 ?_
      refine aw_aload_n (i := 0) hX rfl rfl d_L_law_1330 ?_
      refine aw_iload (i := 4) hX rfl d_L_law_1331 ?_
      refine aw_iconst (v := 3) hX (by decide) d_L_law_1333 ?_
      refine aw_iadd hX d_L_law_1334 ?_
      obtain ⟨x64, f_1873, e_1873⟩ := bd_some e_1872
      clear e_1872
      refine ar_sld hX hx f_1873 d_L_law_1335 ?_
      refine aw_aload_n (i := 3) hX rfl rfl d_L_law_1336 ?_
      obtain ⟨q65, f_1874, e_1874⟩ := bd_some e_1873
      clear e_1873
      refine aw_callSW (av := [.ref 0, .int x62, .int x63, .int x64, .ref 277]) (avr := [.ref 277, .int x64, .int x63, .int x62, .ref 0]) hX (k_L_again (cx_g hX) hF f_1874) miw_L_again rfl rfl w_1085 w_1086 (by decide) (Nat.le_of_ble_eq_true rfl) (by omega) (by omega) d_L_law_1337 ?_
      refine aw_istore (i := 5) (lv2 := [.ref 100099, .ref 0, .ref 240, .ref 277, .int s, .int q65.1, d6, d7]) hX rfl rfl d_L_law_1340 ?_
      refine aw_aload_n (i := 2) hX rfl rfl d_L_law_1342 ?_
      refine aw_aload_n (i := 0) hX rfl rfl d_L_law_1343 ?_
      refine aw_iload (i := 4) hX rfl d_L_law_1344 ?_
      refine aw_iconst (v := 1) hX (by decide) d_L_law_1346 ?_
      refine aw_iadd hX d_L_law_1347 ?_
      obtain ⟨x66, f_1875, e_1875⟩ := bd_some e_1874
      clear e_1874
      refine ar_sld hX hx f_1875 d_L_law_1348 ?_
      refine aw_aload_n (i := 0) hX rfl rfl d_L_law_1349 ?_
      refine aw_iload (i := 4) hX rfl d_L_law_1350 ?_
      refine aw_iconst (v := 2) hX (by decide) d_L_law_1352 ?_
      refine aw_iadd hX d_L_law_1353 ?_
      obtain ⟨x67, f_1876, e_1876⟩ := bd_some e_1875
      clear e_1875
      refine ar_sld hX hx f_1876 d_L_law_1354 ?_
      refine aw_aload_n (i := 0) hX rfl rfl d_L_law_1355 ?_
      refine aw_iload (i := 4) hX rfl d_L_law_1356 ?_
      refine aw_iconst (v := 3) hX (by decide) d_L_law_1358 ?_
      refine aw_iadd hX d_L_law_1359 ?_
      obtain ⟨x68, f_1877, e_1877⟩ := bd_some e_1876
      clear e_1876
      refine ar_sld hX hx f_1877 d_L_law_1360 ?_
      obtain ⟨q69, f_1878, e_1878⟩ := bd_some e_1877
      clear e_1877
      refine aw_callV (b := 240) (av := [.int x66, .int x67, .int x68]) (avr := [.int x68, .int x67, .int x66]) hX (k_X10_again (cx_g hX) hF f_1878) mi_X10_again rfl rfl w_1088 w_1089 w_1090 (by decide) rfl (LAY_lt rfl (by decide)) rfl rfl (Nat.le_of_ble_eq_true rfl) (by omega) (by omega) d_L_law_1361 ?_
      refine aw_istore (i := 6) (lv2 := [.ref 100099, .ref 0, .ref 240, .ref 277, .int s, .int q65.1, .int q69.1, d7]) hX rfl rfl d_L_law_1364 ?_
      refine aw_aload_n (i := 2) hX rfl rfl d_L_law_1366 ?_
      obtain ⟨x70, f_1879, e_1879⟩ := bd_some e_1878
      clear e_1878
      refine aw_callV (b := 240) (av := []) (avr := []) hX (k_X10_thrown (cx_g hX) hF f_1879) mi_X10_thrown rfl rfl w_1023 w_1024 w_1025 (by decide) rfl (LAY_lt rfl (by decide)) rfl rfl (Nat.le_of_ble_eq_true rfl) (by omega) (by omega) d_L_law_1367 ?_
      refine aw_iload (i := 5) hX rfl d_L_law_1370 ?_
      refine aw_icmp_eq (t := 1377) hX (by decide) d_L_law_1372 (fun c => ?_) (fun c => ?_)
      · rw [if_pos c] at e_1879
        refine aw_iload (i := 5) hX rfl d_L_law_1377 ?_
        refine aw_if_ne (t := 1394) hX (by decide) d_L_law_1379 (fun c => ?_) (fun c => ?_)
        · rw [if_neg c] at e_1879
          exact tj_L_law_1394_23 hF hX hx e_1879 (by omega) (by omega) hR1 hR2 kI kE0
        · rw [if_pos c] at e_1879
          refine aw_aload_n (i := 3) hX rfl rfl d_L_law_1382 ?_
          refine aw_iconst (v := 0) hX (by decide) d_L_law_1383 ?_
          obtain ⟨x71, f_1880, e_1880⟩ := bd_some e_1879
          clear e_1879
          refine ar_laload hX f_1880 d_L_law_1384 ?_
          refine aw_iload (i := 6) hX rfl d_L_law_1385 ?_
          refine aw_i2l hX d_L_law_1387 ?_
          refine aw_lcmp hX d_L_law_1388 ?_
          refine aw_if_eq (t := 1394) hX (by decide) d_L_law_1389 (fun c => ?_) (fun c => ?_)
          · replace c := lc_eq.mp c
            rw [if_pos c] at e_1880
            exact tj_L_law_1394_23 hF hX hx e_1880 (by omega) (by omega) hR1 hR2 kI kE0
          · replace c := fun q => c (lc_eq.mpr q)
            rw [if_neg c] at e_1880
            cases e_1880
      · rw [if_neg c] at e_1879
        cases e_1879
    rw [if_neg c18] at e_1741
    by_cases c19 : (x1 &&& 31) = 19
    · rw [if_pos c19] at e_1741
      refine aw_tableIn (off := 1357) (t := 1397) hX (by rw [c19]; decide) (by rw [c19]; decide) (by rw [c19]; rfl) (by decide) d_L_law_40 ?_
      refine aw_aload_n (i := 1) hX rfl rfl d_L_law_1397 ?_
      refine aw_aload_n (i := 0) hX rfl rfl d_L_law_1398 ?_
      refine aw_iload (i := 4) hX rfl d_L_law_1399 ?_
      refine aw_iconst (v := 1) hX (by decide) d_L_law_1401 ?_
      refine aw_iadd hX d_L_law_1402 ?_
      obtain ⟨x56, f_1881, e_1881⟩ := bd_some e_1741
      clear e_1741
      refine ar_sld hX hx f_1881 d_L_law_1403 ?_
      refine aw_aload_n (i := 3) hX rfl rfl d_L_law_1404 ?_
      obtain ⟨q57, f_1882, e_1882⟩ := bd_some e_1881
      clear e_1881
      refine aw_callSW (av := [.ref 0, .int x56, .ref 277]) (avr := [.ref 277, .int x56, .ref 0]) hX (k_L_pair (cx_g hX) hF f_1882) miw_L_pair rfl rfl w_1078 w_1079 (by decide) (Nat.le_of_ble_eq_true rfl) (by omega) (by omega) d_L_law_1405 ?_
      refine aw_istore (i := 5) (lv2 := [.ref 100099, .ref 0, .ref 240, .ref 277, .int s, .int q57.1, d6, d7]) hX rfl rfl d_L_law_1408 ?_
      refine aw_aload_n (i := 2) hX rfl rfl d_L_law_1410 ?_
      refine aw_aload_n (i := 0) hX rfl rfl d_L_law_1411 ?_
      refine aw_iload (i := 4) hX rfl d_L_law_1412 ?_
      refine aw_iconst (v := 1) hX (by decide) d_L_law_1414 ?_
      refine aw_iadd hX d_L_law_1415 ?_
      obtain ⟨x58, f_1883, e_1883⟩ := bd_some e_1882
      clear e_1882
      refine ar_sld hX hx f_1883 d_L_law_1416 ?_
      obtain ⟨q59, f_1884, e_1884⟩ := bd_some e_1883
      clear e_1883
      refine aw_callV (b := 240) (av := [.int x58]) (avr := [.int x58]) hX (k_X10_pair (cx_g hX) hF f_1884) mi_X10_pair rfl rfl w_1081 w_1082 w_1083 (by decide) rfl (LAY_lt rfl (by decide)) rfl rfl (Nat.le_of_ble_eq_true rfl) (by omega) (by omega) d_L_law_1417 ?_
      refine aw_lstore (i := 6) (lv2 := [.ref 100099, .ref 0, .ref 240, .ref 277, .int s, .int q57.1, .long q59.1, jk]) hX rfl rfl d_L_law_1420 ?_
      refine aw_aload_n (i := 2) hX rfl rfl d_L_law_1422 ?_
      obtain ⟨x60, f_1885, e_1885⟩ := bd_some e_1884
      clear e_1884
      refine aw_callV (b := 240) (av := []) (avr := []) hX (k_X10_thrown (cx_g hX) hF f_1885) mi_X10_thrown rfl rfl w_1023 w_1024 w_1025 (by decide) rfl (LAY_lt rfl (by decide)) rfl rfl (Nat.le_of_ble_eq_true rfl) (by omega) (by omega) d_L_law_1423 ?_
      refine aw_iload (i := 5) hX rfl d_L_law_1426 ?_
      refine aw_icmp_eq (t := 1433) hX (by decide) d_L_law_1428 (fun c => ?_) (fun c => ?_)
      · rw [if_pos c] at e_1885
        refine aw_iload (i := 5) hX rfl d_L_law_1433 ?_
        refine aw_if_ne (t := 1449) hX (by decide) d_L_law_1435 (fun c => ?_) (fun c => ?_)
        · rw [if_neg c] at e_1885
          exact tj_L_law_1449_23 hF hX hx e_1885 (by omega) (by omega) hR1 hR2 kI kE0
        · rw [if_pos c] at e_1885
          refine aw_aload_n (i := 3) hX rfl rfl d_L_law_1438 ?_
          refine aw_iconst (v := 0) hX (by decide) d_L_law_1439 ?_
          obtain ⟨x61, f_1886, e_1886⟩ := bd_some e_1885
          clear e_1885
          refine ar_laload hX f_1886 d_L_law_1440 ?_
          refine aw_lload (i := 6) hX rfl d_L_law_1441 ?_
          refine aw_lcmp hX d_L_law_1443 ?_
          refine aw_if_eq (t := 1449) hX (by decide) d_L_law_1444 (fun c => ?_) (fun c => ?_)
          · replace c := lc_eq.mp c
            rw [if_pos c] at e_1886
            exact tj_L_law_1449_23 hF hX hx e_1886 (by omega) (by omega) hR1 hR2 kI kE0
          · replace c := fun q => c (lc_eq.mpr q)
            rw [if_neg c] at e_1886
            cases e_1886
      · rw [if_neg c] at e_1885
        cases e_1885
    rw [if_neg c19] at e_1741
    by_cases c20 : (x1 &&& 31) = 20
    · rw [if_pos c20] at e_1741
      refine aw_tableIn (off := 1412) (t := 1452) hX (by rw [c20]; decide) (by rw [c20]; decide) (by rw [c20]; rfl) (by decide) d_L_law_40 ?_
      refine aw_aload_n (i := 1) hX rfl rfl d_L_law_1452 ?_
      refine aw_aload_n (i := 0) hX rfl rfl d_L_law_1453 ?_
      refine aw_iload (i := 4) hX rfl d_L_law_1454 ?_
      refine aw_iconst (v := 1) hX (by decide) d_L_law_1456 ?_
      refine aw_iadd hX d_L_law_1457 ?_
      obtain ⟨x50, f_1887, e_1887⟩ := bd_some e_1741
      clear e_1741
      refine ar_sld hX hx f_1887 d_L_law_1458 ?_
      refine aw_aload_n (i := 3) hX rfl rfl d_L_law_1459 ?_
      obtain ⟨q51, f_1888, e_1888⟩ := bd_some e_1887
      clear e_1887
      refine aw_callSW (av := [.ref 0, .int x50, .ref 277]) (avr := [.ref 277, .int x50, .ref 0]) hX (k_L_paired (cx_g hX) hF f_1888) miw_L_paired rfl rfl w_1071 w_1072 (by decide) (Nat.le_of_ble_eq_true rfl) (by omega) (by omega) d_L_law_1460 ?_
      refine aw_istore (i := 5) (lv2 := [.ref 100099, .ref 0, .ref 240, .ref 277, .int s, .int q51.1, d6, d7]) hX rfl rfl d_L_law_1463 ?_
      refine aw_aload_n (i := 2) hX rfl rfl d_L_law_1465 ?_
      refine aw_aload_n (i := 0) hX rfl rfl d_L_law_1466 ?_
      refine aw_iload (i := 4) hX rfl d_L_law_1467 ?_
      refine aw_iconst (v := 1) hX (by decide) d_L_law_1469 ?_
      refine aw_iadd hX d_L_law_1470 ?_
      obtain ⟨x52, f_1889, e_1889⟩ := bd_some e_1888
      clear e_1888
      refine ar_sld hX hx f_1889 d_L_law_1471 ?_
      obtain ⟨q53, f_1890, e_1890⟩ := bd_some e_1889
      clear e_1889
      refine aw_callV (b := 240) (av := [.int x52]) (avr := [.int x52]) hX (k_X10_paired (cx_g hX) hF f_1890) mi_X10_paired rfl rfl w_1074 w_1075 w_1076 (by decide) rfl (LAY_lt rfl (by decide)) rfl rfl (Nat.le_of_ble_eq_true rfl) (by omega) (by omega) d_L_law_1472 ?_
      refine aw_istore (i := 6) (lv2 := [.ref 100099, .ref 0, .ref 240, .ref 277, .int s, .int q51.1, .int q53.1, d7]) hX rfl rfl d_L_law_1475 ?_
      refine aw_aload_n (i := 2) hX rfl rfl d_L_law_1477 ?_
      obtain ⟨x54, f_1891, e_1891⟩ := bd_some e_1890
      clear e_1890
      refine aw_callV (b := 240) (av := []) (avr := []) hX (k_X10_thrown (cx_g hX) hF f_1891) mi_X10_thrown rfl rfl w_1023 w_1024 w_1025 (by decide) rfl (LAY_lt rfl (by decide)) rfl rfl (Nat.le_of_ble_eq_true rfl) (by omega) (by omega) d_L_law_1478 ?_
      refine aw_iload (i := 5) hX rfl d_L_law_1481 ?_
      refine aw_icmp_eq (t := 1488) hX (by decide) d_L_law_1483 (fun c => ?_) (fun c => ?_)
      · rw [if_pos c] at e_1891
        refine aw_iload (i := 5) hX rfl d_L_law_1488 ?_
        refine aw_if_ne (t := 1505) hX (by decide) d_L_law_1490 (fun c => ?_) (fun c => ?_)
        · rw [if_neg c] at e_1891
          exact tj_L_law_1505_23 hF hX hx e_1891 (by omega) (by omega) hR1 hR2 kI kE0
        · rw [if_pos c] at e_1891
          refine aw_aload_n (i := 3) hX rfl rfl d_L_law_1493 ?_
          refine aw_iconst (v := 0) hX (by decide) d_L_law_1494 ?_
          obtain ⟨x55, f_1892, e_1892⟩ := bd_some e_1891
          clear e_1891
          refine ar_laload hX f_1892 d_L_law_1495 ?_
          refine aw_iload (i := 6) hX rfl d_L_law_1496 ?_
          refine aw_i2l hX d_L_law_1498 ?_
          refine aw_lcmp hX d_L_law_1499 ?_
          refine aw_if_eq (t := 1505) hX (by decide) d_L_law_1500 (fun c => ?_) (fun c => ?_)
          · replace c := lc_eq.mp c
            rw [if_pos c] at e_1892
            exact tj_L_law_1505_23 hF hX hx e_1892 (by omega) (by omega) hR1 hR2 kI kE0
          · replace c := fun q => c (lc_eq.mpr q)
            rw [if_neg c] at e_1892
            cases e_1892
      · rw [if_neg c] at e_1891
        cases e_1891
    rw [if_neg c20] at e_1741
    by_cases c21 : (x1 &&& 31) = 21
    · rw [if_pos c21] at e_1741
      refine aw_tableIn (off := 1468) (t := 1508) hX (by rw [c21]; decide) (by rw [c21]; decide) (by rw [c21]; rfl) (by decide) d_L_law_40 ?_
      refine aw_aload_n (i := 1) hX rfl rfl d_L_law_1508 ?_
      refine aw_aload_n (i := 0) hX rfl rfl d_L_law_1509 ?_
      refine aw_iload (i := 4) hX rfl d_L_law_1510 ?_
      refine aw_iconst (v := 1) hX (by decide) d_L_law_1512 ?_
      refine aw_iadd hX d_L_law_1513 ?_
      obtain ⟨x40, f_1893, e_1893⟩ := bd_some e_1741
      clear e_1741
      refine ar_sld hX hx f_1893 d_L_law_1514 ?_
      refine aw_aload_n (i := 0) hX rfl rfl d_L_law_1515 ?_
      refine aw_iload (i := 4) hX rfl d_L_law_1516 ?_
      refine aw_iconst (v := 2) hX (by decide) d_L_law_1518 ?_
      refine aw_iadd hX d_L_law_1519 ?_
      obtain ⟨x41, f_1894, e_1894⟩ := bd_some e_1893
      clear e_1893
      refine ar_sld hX hx f_1894 d_L_law_1520 ?_
      refine aw_aload_n (i := 0) hX rfl rfl d_L_law_1521 ?_
      refine aw_iload (i := 4) hX rfl d_L_law_1522 ?_
      refine aw_iconst (v := 3) hX (by decide) d_L_law_1524 ?_
      refine aw_iadd hX d_L_law_1525 ?_
      obtain ⟨x42, f_1895, e_1895⟩ := bd_some e_1894
      clear e_1894
      refine ar_sld hX hx f_1895 d_L_law_1526 ?_
      refine aw_aload_n (i := 3) hX rfl rfl d_L_law_1527 ?_
      obtain ⟨q43, f_1896, e_1896⟩ := bd_some e_1895
      clear e_1895
      refine aw_callSW (av := [.ref 0, .int x40, .int x41, .int x42, .ref 277]) (avr := [.ref 277, .int x42, .int x41, .int x40, .ref 0]) hX (k_L_years (cx_g hX) hF f_1896) miw_L_years rfl rfl w_1064 w_1065 (by decide) (Nat.le_of_ble_eq_true rfl) (by omega) (by omega) d_L_law_1528 ?_
      refine aw_istore (i := 5) (lv2 := [.ref 100099, .ref 0, .ref 240, .ref 277, .int s, .int q43.1, d6, d7]) hX rfl rfl d_L_law_1531 ?_
      refine aw_aload_n (i := 2) hX rfl rfl d_L_law_1533 ?_
      refine aw_aload_n (i := 0) hX rfl rfl d_L_law_1534 ?_
      refine aw_iload (i := 4) hX rfl d_L_law_1535 ?_
      refine aw_iconst (v := 1) hX (by decide) d_L_law_1537 ?_
      refine aw_iadd hX d_L_law_1538 ?_
      obtain ⟨x44, f_1897, e_1897⟩ := bd_some e_1896
      clear e_1896
      refine ar_sld hX hx f_1897 d_L_law_1539 ?_
      refine aw_aload_n (i := 0) hX rfl rfl d_L_law_1540 ?_
      refine aw_iload (i := 4) hX rfl d_L_law_1541 ?_
      refine aw_iconst (v := 2) hX (by decide) d_L_law_1543 ?_
      refine aw_iadd hX d_L_law_1544 ?_
      obtain ⟨x45, f_1898, e_1898⟩ := bd_some e_1897
      clear e_1897
      refine ar_sld hX hx f_1898 d_L_law_1545 ?_
      refine aw_aload_n (i := 0) hX rfl rfl d_L_law_1546 ?_
      refine aw_iload (i := 4) hX rfl d_L_law_1547 ?_
      refine aw_iconst (v := 3) hX (by decide) d_L_law_1549 ?_
      refine aw_iadd hX d_L_law_1550 ?_
      obtain ⟨x46, f_1899, e_1899⟩ := bd_some e_1898
      clear e_1898
      refine ar_sld hX hx f_1899 d_L_law_1551 ?_
      obtain ⟨q47, f_1900, e_1900⟩ := bd_some e_1899
      clear e_1899
      refine aw_callV (b := 240) (av := [.int x44, .int x45, .int x46]) (avr := [.int x46, .int x45, .int x44]) hX (k_X10_years (cx_g hX) hF f_1900) mi_X10_years rfl rfl w_1067 w_1068 w_1069 (by decide) rfl (LAY_lt rfl (by decide)) rfl rfl (Nat.le_of_ble_eq_true rfl) (by omega) (by omega) d_L_law_1552 ?_
      refine aw_lstore (i := 6) (lv2 := [.ref 100099, .ref 0, .ref 240, .ref 277, .int s, .int q43.1, .long q47.1, jk]) hX rfl rfl d_L_law_1555 ?_
      refine aw_aload_n (i := 2) hX rfl rfl d_L_law_1557 ?_
      obtain ⟨x48, f_1901, e_1901⟩ := bd_some e_1900
      clear e_1900
      refine aw_callV (b := 240) (av := []) (avr := []) hX (k_X10_thrown (cx_g hX) hF f_1901) mi_X10_thrown rfl rfl w_1023 w_1024 w_1025 (by decide) rfl (LAY_lt rfl (by decide)) rfl rfl (Nat.le_of_ble_eq_true rfl) (by omega) (by omega) d_L_law_1558 ?_
      refine aw_iload (i := 5) hX rfl d_L_law_1561 ?_
      refine aw_icmp_eq (t := 1568) hX (by decide) d_L_law_1563 (fun c => ?_) (fun c => ?_)
      · rw [if_pos c] at e_1901
        refine aw_iload (i := 5) hX rfl d_L_law_1568 ?_
        refine aw_if_ne (t := 1584) hX (by decide) d_L_law_1570 (fun c => ?_) (fun c => ?_)
        · rw [if_neg c] at e_1901
          exact tj_L_law_1584_23 hF hX hx e_1901 (by omega) (by omega) hR1 hR2 kI kE0
        · rw [if_pos c] at e_1901
          refine aw_aload_n (i := 3) hX rfl rfl d_L_law_1573 ?_
          refine aw_iconst (v := 0) hX (by decide) d_L_law_1574 ?_
          obtain ⟨x49, f_1902, e_1902⟩ := bd_some e_1901
          clear e_1901
          refine ar_laload hX f_1902 d_L_law_1575 ?_
          refine aw_lload (i := 6) hX rfl d_L_law_1576 ?_
          refine aw_lcmp hX d_L_law_1578 ?_
          refine aw_if_eq (t := 1584) hX (by decide) d_L_law_1579 (fun c => ?_) (fun c => ?_)
          · replace c := lc_eq.mp c
            rw [if_pos c] at e_1902
            exact tj_L_law_1584_23 hF hX hx e_1902 (by omega) (by omega) hR1 hR2 kI kE0
          · replace c := fun q => c (lc_eq.mpr q)
            rw [if_neg c] at e_1902
            cases e_1902
      · rw [if_neg c] at e_1901
        cases e_1901
    rw [if_neg c21] at e_1741
    by_cases c22 : (x1 &&& 31) = 22
    · rw [if_pos c22] at e_1741
      refine aw_tableIn (off := 1547) (t := 1587) hX (by rw [c22]; decide) (by rw [c22]; decide) (by rw [c22]; rfl) (by decide) d_L_law_40 ?_
      refine aw_aload_n (i := 1) hX rfl rfl d_L_law_1587 ?_
      obtain ⟨q38, f_1903, e_1903⟩ := bd_some e_1741
      clear e_1741
      refine aw_callV (b := 0) (av := []) (avr := []) hX (k_X9_order (cx_g hX) hF f_1903) mi_X9_order rfl rfl w_1056 w_1057 w_1058 (by decide) rfl (LAY_lt rfl (by decide)) rfl rfl (Nat.le_of_ble_eq_true rfl) (by omega) (by omega) d_L_law_1588 ?_
      refine aw_aload_n (i := 2) hX rfl rfl d_L_law_1591 ?_
      obtain ⟨q39, f_1904, e_1904⟩ := bd_some e_1903
      clear e_1903
      refine aw_callV (b := 240) (av := []) (avr := []) hX (k_X10_order (cx_g hX) hF f_1904) mi_X10_order rfl rfl w_1060 w_1061 w_1062 (by decide) rfl (LAY_lt rfl (by decide)) rfl rfl (Nat.le_of_ble_eq_true rfl) (by omega) (by omega) d_L_law_1592 ?_
      refine aw_lcmp hX d_L_law_1595 ?_
      refine aw_if_eq (t := 1898) hX (by decide) d_L_law_1596 (fun c => ?_) (fun c => ?_)
      · replace c := lc_eq.mp c
        rw [if_pos c] at e_1904
        exact tj_L_law_1898_23 hF hX hx e_1904 (by omega) (by omega) hR1 hR2 kI kE0
      · replace c := fun q => c (lc_eq.mpr q)
        rw [if_neg c] at e_1904
        cases e_1904
    rw [if_neg c22] at e_1741
    by_cases c23 : (x1 &&& 31) = 23
    · rw [if_pos c23] at e_1741
      refine aw_tableIn (off := 1561) (t := 1601) hX (by rw [c23]; decide) (by rw [c23]; decide) (by rw [c23]; rfl) (by decide) d_L_law_40 ?_
      refine aw_aload_n (i := 1) hX rfl rfl d_L_law_1601 ?_
      refine aw_aload_n (i := 0) hX rfl rfl d_L_law_1602 ?_
      refine aw_iload (i := 4) hX rfl d_L_law_1603 ?_
      refine aw_iconst (v := 1) hX (by decide) d_L_law_1605 ?_
      refine aw_iadd hX d_L_law_1606 ?_
      obtain ⟨x32, f_1905, e_1905⟩ := bd_some e_1741
      clear e_1741
      refine ar_sld hX hx f_1905 d_L_law_1607 ?_
      refine aw_aload_n (i := 3) hX rfl rfl d_L_law_1608 ?_
      obtain ⟨q33, f_1906, e_1906⟩ := bd_some e_1905
      clear e_1905
      refine aw_callSW (av := [.ref 0, .int x32, .ref 277]) (avr := [.ref 277, .int x32, .ref 0]) hX (k_L_ordered (cx_g hX) hF f_1906) miw_L_ordered rfl rfl w_1049 w_1050 (by decide) (Nat.le_of_ble_eq_true rfl) (by omega) (by omega) d_L_law_1609 ?_
      refine aw_istore (i := 5) (lv2 := [.ref 100099, .ref 0, .ref 240, .ref 277, .int s, .int q33.1, d6, d7]) hX rfl rfl d_L_law_1612 ?_
      refine aw_aload_n (i := 2) hX rfl rfl d_L_law_1614 ?_
      refine aw_aload_n (i := 0) hX rfl rfl d_L_law_1615 ?_
      refine aw_iload (i := 4) hX rfl d_L_law_1616 ?_
      refine aw_iconst (v := 1) hX (by decide) d_L_law_1618 ?_
      refine aw_iadd hX d_L_law_1619 ?_
      obtain ⟨x34, f_1907, e_1907⟩ := bd_some e_1906
      clear e_1906
      refine ar_sld hX hx f_1907 d_L_law_1620 ?_
      obtain ⟨q35, f_1908, e_1908⟩ := bd_some e_1907
      clear e_1907
      refine aw_callV (b := 240) (av := [.int x34]) (avr := [.int x34]) hX (k_X10_ordered (cx_g hX) hF f_1908) mi_X10_ordered rfl rfl w_1052 w_1053 w_1054 (by decide) rfl (LAY_lt rfl (by decide)) rfl rfl (Nat.le_of_ble_eq_true rfl) (by omega) (by omega) d_L_law_1621 ?_
      refine aw_istore (i := 6) (lv2 := [.ref 100099, .ref 0, .ref 240, .ref 277, .int s, .int q33.1, .int q35.1, d7]) hX rfl rfl d_L_law_1624 ?_
      refine aw_aload_n (i := 2) hX rfl rfl d_L_law_1626 ?_
      obtain ⟨x36, f_1909, e_1909⟩ := bd_some e_1908
      clear e_1908
      refine aw_callV (b := 240) (av := []) (avr := []) hX (k_X10_thrown (cx_g hX) hF f_1909) mi_X10_thrown rfl rfl w_1023 w_1024 w_1025 (by decide) rfl (LAY_lt rfl (by decide)) rfl rfl (Nat.le_of_ble_eq_true rfl) (by omega) (by omega) d_L_law_1627 ?_
      refine aw_iload (i := 5) hX rfl d_L_law_1630 ?_
      refine aw_icmp_eq (t := 1637) hX (by decide) d_L_law_1632 (fun c => ?_) (fun c => ?_)
      · rw [if_pos c] at e_1909
        refine aw_iload (i := 5) hX rfl d_L_law_1637 ?_
        refine aw_if_ne (t := 1654) hX (by decide) d_L_law_1639 (fun c => ?_) (fun c => ?_)
        · rw [if_neg c] at e_1909
          exact tj_L_law_1654_23 hF hX hx e_1909 (by omega) (by omega) hR1 hR2 kI kE0
        · rw [if_pos c] at e_1909
          refine aw_aload_n (i := 3) hX rfl rfl d_L_law_1642 ?_
          refine aw_iconst (v := 0) hX (by decide) d_L_law_1643 ?_
          obtain ⟨x37, f_1910, e_1910⟩ := bd_some e_1909
          clear e_1909
          refine ar_laload hX f_1910 d_L_law_1644 ?_
          refine aw_iload (i := 6) hX rfl d_L_law_1645 ?_
          refine aw_i2l hX d_L_law_1647 ?_
          refine aw_lcmp hX d_L_law_1648 ?_
          refine aw_if_eq (t := 1654) hX (by decide) d_L_law_1649 (fun c => ?_) (fun c => ?_)
          · replace c := lc_eq.mp c
            rw [if_pos c] at e_1910
            exact tj_L_law_1654_23 hF hX hx e_1910 (by omega) (by omega) hR1 hR2 kI kE0
          · replace c := fun q => c (lc_eq.mpr q)
            rw [if_neg c] at e_1910
            cases e_1910
      · rw [if_neg c] at e_1909
        cases e_1909
    rw [if_neg c23] at e_1741
    by_cases c24 : (x1 &&& 31) = 24
    · rw [if_pos c24] at e_1741
      refine aw_tableIn (off := 1617) (t := 1657) hX (by rw [c24]; decide) (by rw [c24]; decide) (by rw [c24]; rfl) (by decide) d_L_law_40 ?_
      refine aw_aload_n (i := 1) hX rfl rfl d_L_law_1657 ?_
      refine aw_aload_n (i := 0) hX rfl rfl d_L_law_1658 ?_
      refine aw_iload (i := 4) hX rfl d_L_law_1659 ?_
      refine aw_iconst (v := 1) hX (by decide) d_L_law_1661 ?_
      refine aw_iadd hX d_L_law_1662 ?_
      obtain ⟨x24, f_1911, e_1911⟩ := bd_some e_1741
      clear e_1741
      refine ar_sld hX hx f_1911 d_L_law_1663 ?_
      refine aw_aload_n (i := 0) hX rfl rfl d_L_law_1664 ?_
      refine aw_iload (i := 4) hX rfl d_L_law_1665 ?_
      refine aw_iconst (v := 2) hX (by decide) d_L_law_1667 ?_
      refine aw_iadd hX d_L_law_1668 ?_
      obtain ⟨x25, f_1912, e_1912⟩ := bd_some e_1911
      clear e_1911
      refine ar_sld hX hx f_1912 d_L_law_1669 ?_
      refine aw_aload_n (i := 3) hX rfl rfl d_L_law_1670 ?_
      obtain ⟨q26, f_1913, e_1913⟩ := bd_some e_1912
      clear e_1912
      refine aw_callSW (av := [.ref 0, .int x24, .int x25, .ref 277]) (avr := [.ref 277, .int x25, .int x24, .ref 0]) hX (k_L_owed (cx_g hX) hF f_1913) miw_L_owed rfl rfl w_1042 w_1043 (by decide) (Nat.le_of_ble_eq_true rfl) (by omega) (by omega) d_L_law_1671 ?_
      refine aw_istore (i := 5) (lv2 := [.ref 100099, .ref 0, .ref 240, .ref 277, .int s, .int q26.1, d6, d7]) hX rfl rfl d_L_law_1674 ?_
      refine aw_aload_n (i := 2) hX rfl rfl d_L_law_1676 ?_
      refine aw_aload_n (i := 0) hX rfl rfl d_L_law_1677 ?_
      refine aw_iload (i := 4) hX rfl d_L_law_1678 ?_
      refine aw_iconst (v := 1) hX (by decide) d_L_law_1680 ?_
      refine aw_iadd hX d_L_law_1681 ?_
      obtain ⟨x27, f_1914, e_1914⟩ := bd_some e_1913
      clear e_1913
      refine ar_sld hX hx f_1914 d_L_law_1682 ?_
      refine aw_aload_n (i := 0) hX rfl rfl d_L_law_1683 ?_
      refine aw_iload (i := 4) hX rfl d_L_law_1684 ?_
      refine aw_iconst (v := 2) hX (by decide) d_L_law_1686 ?_
      refine aw_iadd hX d_L_law_1687 ?_
      obtain ⟨x28, f_1915, e_1915⟩ := bd_some e_1914
      clear e_1914
      refine ar_sld hX hx f_1915 d_L_law_1688 ?_
      obtain ⟨q29, f_1916, e_1916⟩ := bd_some e_1915
      clear e_1915
      refine aw_callV (b := 240) (av := [.int x27, .int x28]) (avr := [.int x28, .int x27]) hX (k_X10_owed (cx_g hX) hF f_1916) mi_X10_owed rfl rfl w_1045 w_1046 w_1047 (by decide) rfl (LAY_lt rfl (by decide)) rfl rfl (Nat.le_of_ble_eq_true rfl) (by omega) (by omega) d_L_law_1689 ?_
      refine aw_istore (i := 6) (lv2 := [.ref 100099, .ref 0, .ref 240, .ref 277, .int s, .int q26.1, .int q29.1, d7]) hX rfl rfl d_L_law_1692 ?_
      refine aw_aload_n (i := 2) hX rfl rfl d_L_law_1694 ?_
      obtain ⟨x30, f_1917, e_1917⟩ := bd_some e_1916
      clear e_1916
      refine aw_callV (b := 240) (av := []) (avr := []) hX (k_X10_thrown (cx_g hX) hF f_1917) mi_X10_thrown rfl rfl w_1023 w_1024 w_1025 (by decide) rfl (LAY_lt rfl (by decide)) rfl rfl (Nat.le_of_ble_eq_true rfl) (by omega) (by omega) d_L_law_1695 ?_
      refine aw_iload (i := 5) hX rfl d_L_law_1698 ?_
      refine aw_icmp_eq (t := 1705) hX (by decide) d_L_law_1700 (fun c => ?_) (fun c => ?_)
      · rw [if_pos c] at e_1917
        refine aw_iload (i := 5) hX rfl d_L_law_1705 ?_
        refine aw_if_ne (t := 1722) hX (by decide) d_L_law_1707 (fun c => ?_) (fun c => ?_)
        · rw [if_neg c] at e_1917
          exact tj_L_law_1722_23 hF hX hx e_1917 (by omega) (by omega) hR1 hR2 kI kE0
        · rw [if_pos c] at e_1917
          refine aw_aload_n (i := 3) hX rfl rfl d_L_law_1710 ?_
          refine aw_iconst (v := 0) hX (by decide) d_L_law_1711 ?_
          obtain ⟨x31, f_1918, e_1918⟩ := bd_some e_1917
          clear e_1917
          refine ar_laload hX f_1918 d_L_law_1712 ?_
          refine aw_iload (i := 6) hX rfl d_L_law_1713 ?_
          refine aw_i2l hX d_L_law_1715 ?_
          refine aw_lcmp hX d_L_law_1716 ?_
          refine aw_if_eq (t := 1722) hX (by decide) d_L_law_1717 (fun c => ?_) (fun c => ?_)
          · replace c := lc_eq.mp c
            rw [if_pos c] at e_1918
            exact tj_L_law_1722_23 hF hX hx e_1918 (by omega) (by omega) hR1 hR2 kI kE0
          · replace c := fun q => c (lc_eq.mpr q)
            rw [if_neg c] at e_1918
            cases e_1918
      · rw [if_neg c] at e_1917
        cases e_1917
    rw [if_neg c24] at e_1741
    by_cases c25 : (x1 &&& 31) = 25
    · rw [if_pos c25] at e_1741
      refine aw_tableIn (off := 1685) (t := 1725) hX (by rw [c25]; decide) (by rw [c25]; decide) (by rw [c25]; rfl) (by decide) d_L_law_40 ?_
      refine aw_aload_n (i := 1) hX rfl rfl d_L_law_1725 ?_
      refine aw_aload_n (i := 0) hX rfl rfl d_L_law_1726 ?_
      refine aw_iload (i := 4) hX rfl d_L_law_1727 ?_
      refine aw_iconst (v := 1) hX (by decide) d_L_law_1729 ?_
      refine aw_iadd hX d_L_law_1730 ?_
      obtain ⟨x20, f_1919, e_1919⟩ := bd_some e_1741
      clear e_1741
      refine ar_sld hX hx f_1919 d_L_law_1731 ?_
      obtain ⟨q21, f_1920, e_1920⟩ := bd_some e_1919
      clear e_1919
      refine aw_callV (b := 0) (av := [.int x20]) (avr := [.int x20]) hX (k_X9_begin (cx_g hX) hF f_1920) mi_X9_begin rfl rfl w_1034 w_1035 w_1036 (by decide) rfl (LAY_lt rfl (by decide)) rfl rfl (Nat.le_of_ble_eq_true rfl) (by omega) (by omega) d_L_law_1732 ?_
      refine aw_aload_n (i := 2) hX rfl rfl d_L_law_1735 ?_
      refine aw_aload_n (i := 0) hX rfl rfl d_L_law_1736 ?_
      refine aw_iload (i := 4) hX rfl d_L_law_1737 ?_
      refine aw_iconst (v := 1) hX (by decide) d_L_law_1739 ?_
      refine aw_iadd hX d_L_law_1740 ?_
      obtain ⟨x22, f_1921, e_1921⟩ := bd_some e_1920
      clear e_1920
      refine ar_sld hX hx f_1921 d_L_law_1741 ?_
      obtain ⟨q23, f_1922, e_1922⟩ := bd_some e_1921
      clear e_1921
      refine aw_callV (b := 240) (av := [.int x22]) (avr := [.int x22]) hX (k_X10_begin (cx_g hX) hF f_1922) mi_X10_begin rfl rfl w_1038 w_1039 w_1040 (by decide) rfl (LAY_lt rfl (by decide)) rfl rfl (Nat.le_of_ble_eq_true rfl) (by omega) (by omega) d_L_law_1742 ?_
      refine aw_goto (t := 1898) hX (by decide) d_L_law_1745 ?_
      exact tj_L_law_1898_23 hF hX hx e_1922 (by omega) (by omega) hR1 hR2 kI kE0
    rw [if_neg c25] at e_1741
    by_cases c26 : (x1 &&& 31) = 26
    · rw [if_pos c26] at e_1741
      refine aw_tableIn (off := 1708) (t := 1748) hX (by rw [c26]; decide) (by rw [c26]; decide) (by rw [c26]; rfl) (by decide) d_L_law_40 ?_
      refine aw_aload_n (i := 1) hX rfl rfl d_L_law_1748 ?_
      refine aw_aload_n (i := 0) hX rfl rfl d_L_law_1749 ?_
      refine aw_iload (i := 4) hX rfl d_L_law_1750 ?_
      refine aw_iconst (v := 1) hX (by decide) d_L_law_1752 ?_
      refine aw_iadd hX d_L_law_1753 ?_
      obtain ⟨x14, f_1923, e_1923⟩ := bd_some e_1741
      clear e_1741
      refine ar_sld hX hx f_1923 d_L_law_1754 ?_
      refine aw_aload_n (i := 3) hX rfl rfl d_L_law_1755 ?_
      obtain ⟨q15, f_1924, e_1924⟩ := bd_some e_1923
      clear e_1923
      refine aw_callSW (av := [.ref 0, .int x14, .ref 277]) (avr := [.ref 277, .int x14, .ref 0]) hX (k_L_on (cx_g hX) hF f_1924) miw_L_on rfl rfl w_1027 w_1028 (by decide) (Nat.le_of_ble_eq_true rfl) (by omega) (by omega) d_L_law_1756 ?_
      refine aw_istore (i := 5) (lv2 := [.ref 100099, .ref 0, .ref 240, .ref 277, .int s, .int q15.1, d6, d7]) hX rfl rfl d_L_law_1759 ?_
      refine aw_aload_n (i := 2) hX rfl rfl d_L_law_1761 ?_
      refine aw_aload_n (i := 0) hX rfl rfl d_L_law_1762 ?_
      refine aw_iload (i := 4) hX rfl d_L_law_1763 ?_
      refine aw_iconst (v := 1) hX (by decide) d_L_law_1765 ?_
      refine aw_iadd hX d_L_law_1766 ?_
      obtain ⟨x16, f_1925, e_1925⟩ := bd_some e_1924
      clear e_1924
      refine ar_sld hX hx f_1925 d_L_law_1767 ?_
      obtain ⟨q17, f_1926, e_1926⟩ := bd_some e_1925
      clear e_1925
      refine aw_callV (b := 240) (av := [.int x16]) (avr := [.int x16]) hX (k_X10_on (cx_g hX) hF f_1926) mi_X10_on rfl rfl w_1030 w_1031 w_1032 (by decide) rfl (LAY_lt rfl (by decide)) rfl rfl (Nat.le_of_ble_eq_true rfl) (by omega) (by omega) d_L_law_1768 ?_
      refine aw_istore (i := 6) (lv2 := [.ref 100099, .ref 0, .ref 240, .ref 277, .int s, .int q15.1, .int q17.1, d7]) hX rfl rfl d_L_law_1771 ?_
      refine aw_aload_n (i := 2) hX rfl rfl d_L_law_1773 ?_
      obtain ⟨x18, f_1927, e_1927⟩ := bd_some e_1926
      clear e_1926
      refine aw_callV (b := 240) (av := []) (avr := []) hX (k_X10_thrown (cx_g hX) hF f_1927) mi_X10_thrown rfl rfl w_1023 w_1024 w_1025 (by decide) rfl (LAY_lt rfl (by decide)) rfl rfl (Nat.le_of_ble_eq_true rfl) (by omega) (by omega) d_L_law_1774 ?_
      refine aw_iload (i := 5) hX rfl d_L_law_1777 ?_
      refine aw_icmp_eq (t := 1784) hX (by decide) d_L_law_1779 (fun c => ?_) (fun c => ?_)
      · rw [if_pos c] at e_1927
        refine aw_iload (i := 5) hX rfl d_L_law_1784 ?_
        refine aw_if_ne (t := 1801) hX (by decide) d_L_law_1786 (fun c => ?_) (fun c => ?_)
        · rw [if_neg c] at e_1927
          exact tj_L_law_1801_23 hF hX hx e_1927 (by omega) (by omega) hR1 hR2 kI kE0
        · rw [if_pos c] at e_1927
          refine aw_aload_n (i := 3) hX rfl rfl d_L_law_1789 ?_
          refine aw_iconst (v := 0) hX (by decide) d_L_law_1790 ?_
          obtain ⟨x19, f_1928, e_1928⟩ := bd_some e_1927
          clear e_1927
          refine ar_laload hX f_1928 d_L_law_1791 ?_
          refine aw_iload (i := 6) hX rfl d_L_law_1792 ?_
          refine aw_i2l hX d_L_law_1794 ?_
          refine aw_lcmp hX d_L_law_1795 ?_
          refine aw_if_eq (t := 1801) hX (by decide) d_L_law_1796 (fun c => ?_) (fun c => ?_)
          · replace c := lc_eq.mp c
            rw [if_pos c] at e_1928
            exact tj_L_law_1801_23 hF hX hx e_1928 (by omega) (by omega) hR1 hR2 kI kE0
          · replace c := fun q => c (lc_eq.mpr q)
            rw [if_neg c] at e_1928
            cases e_1928
      · rw [if_neg c] at e_1927
        cases e_1927
    rw [if_neg c26] at e_1741
    by_cases c27 : (x1 &&& 31) = 27
    · rw [if_pos c27] at e_1741
      refine aw_tableIn (off := 1764) (t := 1804) hX (by rw [c27]; decide) (by rw [c27]; decide) (by rw [c27]; rfl) (by decide) d_L_law_40 ?_
      refine aw_aload_n (i := 1) hX rfl rfl d_L_law_1804 ?_
      refine aw_aload_n (i := 0) hX rfl rfl d_L_law_1805 ?_
      refine aw_iload (i := 4) hX rfl d_L_law_1806 ?_
      refine aw_iconst (v := 1) hX (by decide) d_L_law_1808 ?_
      refine aw_iadd hX d_L_law_1809 ?_
      obtain ⟨x6, f_1929, e_1929⟩ := bd_some e_1741
      clear e_1741
      refine ar_sld hX hx f_1929 d_L_law_1810 ?_
      refine aw_aload_n (i := 0) hX rfl rfl d_L_law_1811 ?_
      refine aw_iload (i := 4) hX rfl d_L_law_1812 ?_
      refine aw_iconst (v := 2) hX (by decide) d_L_law_1814 ?_
      refine aw_iadd hX d_L_law_1815 ?_
      obtain ⟨x7, f_1930, e_1930⟩ := bd_some e_1929
      clear e_1929
      refine ar_sld hX hx f_1930 d_L_law_1816 ?_
      refine aw_aload_n (i := 3) hX rfl rfl d_L_law_1817 ?_
      obtain ⟨q8, f_1931, e_1931⟩ := bd_some e_1930
      clear e_1930
      refine aw_callSW (av := [.ref 0, .int x6, .int x7, .ref 277]) (avr := [.ref 277, .int x7, .int x6, .ref 0]) hX (k_L_seen (cx_g hX) hF f_1931) miw_L_seen rfl rfl w_1016 w_1017 (by decide) (Nat.le_of_ble_eq_true rfl) (by omega) (by omega) d_L_law_1818 ?_
      refine aw_istore (i := 5) (lv2 := [.ref 100099, .ref 0, .ref 240, .ref 277, .int s, .int q8.1, d6, d7]) hX rfl rfl d_L_law_1821 ?_
      refine aw_aload_n (i := 2) hX rfl rfl d_L_law_1823 ?_
      refine aw_aload_n (i := 0) hX rfl rfl d_L_law_1824 ?_
      refine aw_iload (i := 4) hX rfl d_L_law_1825 ?_
      refine aw_iconst (v := 1) hX (by decide) d_L_law_1827 ?_
      refine aw_iadd hX d_L_law_1828 ?_
      obtain ⟨x9, f_1932, e_1932⟩ := bd_some e_1931
      clear e_1931
      refine ar_sld hX hx f_1932 d_L_law_1829 ?_
      refine aw_aload_n (i := 0) hX rfl rfl d_L_law_1830 ?_
      refine aw_iload (i := 4) hX rfl d_L_law_1831 ?_
      refine aw_iconst (v := 2) hX (by decide) d_L_law_1833 ?_
      refine aw_iadd hX d_L_law_1834 ?_
      obtain ⟨x10, f_1933, e_1933⟩ := bd_some e_1932
      clear e_1932
      refine ar_sld hX hx f_1933 d_L_law_1835 ?_
      obtain ⟨q11, f_1934, e_1934⟩ := bd_some e_1933
      clear e_1933
      refine aw_callV (b := 240) (av := [.int x9, .int x10]) (avr := [.int x10, .int x9]) hX (k_X10_seen (cx_g hX) hF f_1934) mi_X10_seen rfl rfl w_1019 w_1020 w_1021 (by decide) rfl (LAY_lt rfl (by decide)) rfl rfl (Nat.le_of_ble_eq_true rfl) (by omega) (by omega) d_L_law_1836 ?_
      refine aw_istore (i := 6) (lv2 := [.ref 100099, .ref 0, .ref 240, .ref 277, .int s, .int q8.1, .int q11.1, d7]) hX rfl rfl d_L_law_1839 ?_
      refine aw_aload_n (i := 2) hX rfl rfl d_L_law_1841 ?_
      obtain ⟨x12, f_1935, e_1935⟩ := bd_some e_1934
      clear e_1934
      refine aw_callV (b := 240) (av := []) (avr := []) hX (k_X10_thrown (cx_g hX) hF f_1935) mi_X10_thrown rfl rfl w_1023 w_1024 w_1025 (by decide) rfl (LAY_lt rfl (by decide)) rfl rfl (Nat.le_of_ble_eq_true rfl) (by omega) (by omega) d_L_law_1842 ?_
      refine aw_iload (i := 5) hX rfl d_L_law_1845 ?_
      refine aw_icmp_eq (t := 1852) hX (by decide) d_L_law_1847 (fun c => ?_) (fun c => ?_)
      · rw [if_pos c] at e_1935
        refine aw_iload (i := 5) hX rfl d_L_law_1852 ?_
        refine aw_if_ne (t := 1869) hX (by decide) d_L_law_1854 (fun c => ?_) (fun c => ?_)
        · rw [if_neg c] at e_1935
          exact tj_L_law_1869_23 hF hX hx e_1935 (by omega) (by omega) hR1 hR2 kI kE0
        · rw [if_pos c] at e_1935
          refine aw_aload_n (i := 3) hX rfl rfl d_L_law_1857 ?_
          refine aw_iconst (v := 0) hX (by decide) d_L_law_1858 ?_
          obtain ⟨x13, f_1936, e_1936⟩ := bd_some e_1935
          clear e_1935
          refine ar_laload hX f_1936 d_L_law_1859 ?_
          refine aw_iload (i := 6) hX rfl d_L_law_1860 ?_
          refine aw_i2l hX d_L_law_1862 ?_
          refine aw_lcmp hX d_L_law_1863 ?_
          refine aw_if_eq (t := 1869) hX (by decide) d_L_law_1864 (fun c => ?_) (fun c => ?_)
          · replace c := lc_eq.mp c
            rw [if_pos c] at e_1936
            exact tj_L_law_1869_23 hF hX hx e_1936 (by omega) (by omega) hR1 hR2 kI kE0
          · replace c := fun q => c (lc_eq.mpr q)
            rw [if_neg c] at e_1936
            cases e_1936
      · rw [if_neg c] at e_1935
        cases e_1935
    rw [if_neg c27] at e_1741
    by_cases c28 : (x1 &&& 31) = 28
    · rw [if_pos c28] at e_1741
      refine aw_tableIn (off := 1832) (t := 1872) hX (by rw [c28]; decide) (by rw [c28]; decide) (by rw [c28]; rfl) (by decide) d_L_law_40 ?_
      refine aw_aload_n (i := 1) hX rfl rfl d_L_law_1872 ?_
      obtain ⟨q4, f_1937, e_1937⟩ := bd_some e_1741
      clear e_1741
      refine aw_callV (b := 0) (av := []) (avr := []) hX (k_X9_image (cx_g hX) hF f_1937) mi_X9_image rfl rfl w_1007 w_1008 w_1009 (by decide) rfl (LAY_lt rfl (by decide)) rfl rfl (Nat.le_of_ble_eq_true rfl) (by omega) (by omega) d_L_law_1873 ?_
      refine aw_aload_n (i := 2) hX rfl rfl d_L_law_1876 ?_
      obtain ⟨q5, f_1938, e_1938⟩ := bd_some e_1937
      clear e_1937
      refine aw_callV (b := 240) (av := []) (avr := []) hX (k_X10_image (cx_g hX) hF f_1938) mi_X10_image rfl rfl w_1011 w_1012 w_1013 (by decide) rfl (LAY_lt rfl (by decide)) rfl rfl (Nat.le_of_ble_eq_true rfl) (by omega) (by omega) d_L_law_1877 ?_
      refine aw_icmp_eq (t := 1898) hX (by decide) d_L_law_1880 (fun c => ?_) (fun c => ?_)
      · rw [if_pos c] at e_1938
        exact tj_L_law_1898_23 hF hX hx e_1938 (by omega) (by omega) hR1 hR2 kI kE0
      · rw [if_neg c] at e_1938
        cases e_1938
    rw [if_neg c28] at e_1741
    by_cases c29 : (x1 &&& 31) = 29
    · rw [if_pos c29] at e_1741
      refine aw_tableIn (off := 1845) (t := 1885) hX (by rw [c29]; decide) (by rw [c29]; decide) (by rw [c29]; rfl) (by decide) d_L_law_40 ?_
      refine aw_aload_n (i := 1) hX rfl rfl d_L_law_1885 ?_
      obtain ⟨q2, f_1939, e_1939⟩ := bd_some e_1741
      clear e_1741
      refine aw_callV (b := 0) (av := []) (avr := []) hX (k_X9_restore (cx_g hX) hF f_1939) mi_X9_restore rfl rfl w_999 w_1000 w_1001 (by decide) rfl (LAY_lt rfl (by decide)) rfl rfl (Nat.le_of_ble_eq_true rfl) (by omega) (by omega) d_L_law_1886 ?_
      refine aw_aload_n (i := 2) hX rfl rfl d_L_law_1889 ?_
      obtain ⟨q3, f_1940, e_1940⟩ := bd_some e_1939
      clear e_1939
      refine aw_callV (b := 240) (av := []) (avr := []) hX (k_X10_restore (cx_g hX) hF f_1940) mi_X10_restore rfl rfl w_1003 w_1004 w_1005 (by decide) rfl (LAY_lt rfl (by decide)) rfl rfl (Nat.le_of_ble_eq_true rfl) (by omega) (by omega) d_L_law_1890 ?_
      refine aw_icmp_eq (t := 1898) hX (by decide) d_L_law_1893 (fun c => ?_) (fun c => ?_)
      · rw [if_pos c] at e_1940
        exact tj_L_law_1898_23 hF hX hx e_1940 (by omega) (by omega) hR1 hR2 kI kE0
      · rw [if_neg c] at e_1940
        cases e_1940
    rw [if_neg c29] at e_1741
    refine aw_tableOut (t := 1898) hX (ts_out 30 (fun j hj => by match j, hj with | 0, _ => exact c0 | 1, _ => exact c1 | 2, _ => exact c2 | 3, _ => exact c3 | 4, _ => exact c4 | 5, _ => exact c5 | 6, _ => exact c6 | 7, _ => exact c7 | 8, _ => exact c8 | 9, _ => exact c9 | 10, _ => exact c10 | 11, _ => exact c11 | 12, _ => exact c12 | 13, _ => exact c13 | 14, _ => exact c14 | 15, _ => exact c15 | 16, _ => exact c16 | 17, _ => exact c17 | 18, _ => exact c18 | 19, _ => exact c19 | 20, _ => exact c20 | 21, _ => exact c21 | 22, _ => exact c22 | 23, _ => exact c23 | 24, _ => exact c24 | 25, _ => exact c25 | 26, _ => exact c26 | 27, _ => exact c27 | 28, _ => exact c28 | 29, _ => exact c29 | q + 30, hj => exact absurd hj (by omega))) (by decide) d_L_law_40 ?_
    exact tj_L_law_1898_23 hF hX hx e_1741 (by omega) (by omega) hR1 hR2 kI kE0
theorem ti_L_law_23 {g : GP} {X : MX} {L : Nat} {xs : Nat → Int32} (hF : gF g = true) (hX : Cx g RL cL_law 12 601024 7293034 (some .boolean) [] X) (hx : SX g X L xs) {Q : State → Prop} {y : Unit} {hz : AH} {nK sK : Nat} (hR1 : nK ≤ 601024) (hR2 : sK ≤ 7293034) (kE0 : ∀ (y_0 : Value) (y_1 : Value) (y_2 : Value) (y_3 : Value) (y_4 : Value) (y_5 : Value) (y_6 : Value) (y_7 : Value), AR g X nK sK Q hz 1904 [y_0, y_1, y_2, y_3, y_4, y_5, y_6, y_7] []) (n : Nat) : ∀ (nc ns : Nat) (s : Int32) (d5 : Value) (d6 : Value) (d7 : Value) (h : AH), nc + n ≤ nK → ns + 6 * n ≤ sK → lpH (l_L_law_23 L xs) n s h = some (y, hz) → AR g X nc ns Q h 23 [.ref 100099, .ref 0, .ref 240, .ref 277, .int s, d5, d6, d7] [] := by
  induction n with
  | zero => intro nc ns s d5 d6 d7 h q1 q2 e; cases e
  | succ n ih =>
    intro nc ns s d5 d6 d7 h q1 q2 e
    obtain ⟨x, h1, e1, e2⟩ := lpH_succ e
    rcases e2 with ⟨s2, rfl, e3⟩ | ⟨rfl, rfl⟩
    · exact tb_L_law_23 hF hX hx (nK := nc + 1) (sK := ns + 6) e1 (Nat.le_refl _) (Nat.le_refl _) (by omega) (by omega) (fun s3 x0 x1 x2 hs => by cases hs; exact ih _ _ _ _ _ _ _ (by omega) (by omega) e3) (fun yy y0 y1 y2 y3 y4 y5 y6 y7 hy => by cases hy)
    · exact tb_L_law_23 hF hX hx (nK := nc + 1) (sK := ns + 6) e1 (Nat.le_refl _) (Nat.le_refl _) (by omega) (by omega) (fun s3 x0 x1 x2 hs => by cases hs) (fun yy y0 y1 y2 y3 y4 y5 y6 y7 hy => by cases hy; exact aw_widen (by omega) (by omega) (kE0 y0 y1 y2 y3 y4 y5 y6 y7))
def s_L_law (L : Nat) (xs : Nat → Int32) (h : AH) : Option AH := bd (lpH (l_L_law_23 L xs) FU 0 h) fun y => some y.2
theorem t_L_law {g : GP} {X : MX} {L : Nat} {xs : Nat → Int32} (hF : gF g = true) (hX : Cx g RL cL_law 12 601024 7293034 (some .boolean) [] X) (hx : SX g X L xs) {Q : State → Prop} {h hz : AH} {nc ns nK sK : Nat} (e : s_L_law L xs h = some hz) (hR1 : nK ≤ 601024) (hR2 : sK ≤ 7293034) (q1 : nc + FU ≤ nK) (q2 : ns + 6 * FU ≤ sK) {d4 d5 d6 d7 : Value} (kR : ∀ (y_0 : Value) (y_1 : Value) (y_2 : Value) (y_3 : Value) (y_4 : Value) (y_5 : Value) (y_6 : Value) (y_7 : Value), AR g X nK sK Q hz 1904 [y_0, y_1, y_2, y_3, y_4, y_5, y_6, y_7] []) : AR g X nc ns Q h 20 [.ref 100099, .ref 0, .ref 240, .ref 277, d4, d5, d6, d7] [] := by
  unfold s_L_law at e
  obtain ⟨⟨y, hy⟩, e1, e2⟩ := bd_some e
  cases e2
  refine aw_iconst (v := 0) hX (by decide) d_L_law_20 ?_
  refine aw_istore (i := 4) (lv2 := [.ref 100099, .ref 0, .ref 240, .ref 277, .int 0, d5, d6, d7]) hX rfl rfl d_L_law_21 ?_
  exact ti_L_law_23 hF hX hx hR1 hR2 (nK := nK) (sK := sK) (y := y) kR FU nc ns _ _ _ _ _ q1 q2 e1
