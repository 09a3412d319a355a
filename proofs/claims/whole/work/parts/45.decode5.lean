/-! the law, decoded -/
theorem d_Law_law_0 : decode code 0 = .ok (.new 8, 3) := by decide +kernel
theorem d_Law_law_3 : decode code 3 = .ok (.dup, 1) := by decide +kernel
theorem d_Law_law_4 : decode code 4 = .ok (.invokespecial 86, 3) := by decide +kernel
theorem d_Law_law_7 : decode code 7 = .ok (.astore_n 1, 1) := by decide +kernel
theorem d_Law_law_8 : decode code 8 = .ok (.new 87, 3) := by decide +kernel
theorem d_Law_law_11 : decode code 11 = .ok (.dup, 1) := by decide +kernel
theorem d_Law_law_12 : decode code 12 = .ok (.invokespecial 89, 3) := by decide +kernel
theorem d_Law_law_15 : decode code 15 = .ok (.astore_n 2, 1) := by decide +kernel
theorem d_Law_law_16 : decode code 16 = .ok (.iconst 1, 1) := by decide +kernel
theorem d_Law_law_17 : decode code 17 = .ok (.newarray .long, 2) := by decide +kernel
theorem d_Law_law_19 : decode code 19 = .ok (.astore_n 3, 1) := by decide +kernel
theorem d_Law_law_20 : decode code 20 = .ok (.iconst 0, 1) := by decide +kernel
theorem d_Law_law_21 : decode code 21 = .ok (.istore 4, 2) := by decide +kernel
theorem d_Law_law_23 : decode code 23 = .ok (.iload 4, 2) := by decide +kernel
theorem d_Law_law_25 : decode code 25 = .ok (.aload_n 0, 1) := by decide +kernel
theorem d_Law_law_26 : decode code 26 = .ok (.arraylength, 1) := by decide +kernel
theorem d_Law_law_27 : decode code 27 = .ok (.bipush 6, 2) := by decide +kernel
theorem d_Law_law_29 : decode code 29 = .ok (.isub, 1) := by decide +kernel
theorem d_Law_law_30 : decode code 30 = .ok (.if_icmp .gt 1506, 3) := by decide +kernel
theorem d_Law_law_33 : decode code 33 = .ok (.aload_n 0, 1) := by decide +kernel
theorem d_Law_law_34 : decode code 34 = .ok (.iload 4, 2) := by decide +kernel
theorem d_Law_law_36 : decode code 36 = .ok (.iaload, 1) := by decide +kernel
theorem d_Law_law_37 : decode code 37 = .ok (.bipush 31, 2) := by decide +kernel
theorem d_Law_law_39 : decode code 39 = .ok (.iand, 1) := by decide +kernel
theorem d_Law_law_40 : decode code 40 = .ok (.tableswitch 1490 0 19 #[96, 164, 256, 320, 368, 448, 504, 560, 628, 684, 740, 800, 868, 960, 1028, 1120, 1231, 1323, 1371, 1434], 96) := by decide +kernel
theorem d_Law_law_136 : decode code 136 = .ok (.aload_n 1, 1) := by decide +kernel
theorem d_Law_law_137 : decode code 137 = .ok (.aload_n 0, 1) := by decide +kernel
theorem d_Law_law_138 : decode code 138 = .ok (.iload 4, 2) := by decide +kernel
theorem d_Law_law_140 : decode code 140 = .ok (.iconst 1, 1) := by decide +kernel
theorem d_Law_law_141 : decode code 141 = .ok (.iadd, 1) := by decide +kernel
theorem d_Law_law_142 : decode code 142 = .ok (.iaload, 1) := by decide +kernel
theorem d_Law_law_143 : decode code 143 = .ok (.aload_n 0, 1) := by decide +kernel
theorem d_Law_law_144 : decode code 144 = .ok (.iload 4, 2) := by decide +kernel
theorem d_Law_law_146 : decode code 146 = .ok (.iconst 2, 1) := by decide +kernel
theorem d_Law_law_147 : decode code 147 = .ok (.iadd, 1) := by decide +kernel
theorem d_Law_law_148 : decode code 148 = .ok (.iaload, 1) := by decide +kernel
theorem d_Law_law_149 : decode code 149 = .ok (.aload_n 3, 1) := by decide +kernel
theorem d_Law_law_150 : decode code 150 = .ok (.invokestatic 90, 3) := by decide +kernel
theorem d_Law_law_153 : decode code 153 = .ok (.istore 5, 2) := by decide +kernel
theorem d_Law_law_155 : decode code 155 = .ok (.aload_n 2, 1) := by decide +kernel
theorem d_Law_law_156 : decode code 156 = .ok (.aload_n 0, 1) := by decide +kernel
theorem d_Law_law_157 : decode code 157 = .ok (.iload 4, 2) := by decide +kernel
theorem d_Law_law_159 : decode code 159 = .ok (.iconst 1, 1) := by decide +kernel
theorem d_Law_law_160 : decode code 160 = .ok (.iadd, 1) := by decide +kernel
theorem d_Law_law_161 : decode code 161 = .ok (.iaload, 1) := by decide +kernel
theorem d_Law_law_162 : decode code 162 = .ok (.aload_n 0, 1) := by decide +kernel
theorem d_Law_law_163 : decode code 163 = .ok (.iload 4, 2) := by decide +kernel
theorem d_Law_law_165 : decode code 165 = .ok (.iconst 2, 1) := by decide +kernel
theorem d_Law_law_166 : decode code 166 = .ok (.iadd, 1) := by decide +kernel
theorem d_Law_law_167 : decode code 167 = .ok (.iaload, 1) := by decide +kernel
theorem d_Law_law_168 : decode code 168 = .ok (.invokevirtual 95, 3) := by decide +kernel
theorem d_Law_law_171 : decode code 171 = .ok (.istore 6, 2) := by decide +kernel
theorem d_Law_law_173 : decode code 173 = .ok (.aload_n 2, 1) := by decide +kernel
theorem d_Law_law_174 : decode code 174 = .ok (.invokevirtual 96, 3) := by decide +kernel
theorem d_Law_law_177 : decode code 177 = .ok (.iload 5, 2) := by decide +kernel
theorem d_Law_law_179 : decode code 179 = .ok (.if_icmp .eq 5, 3) := by decide +kernel
theorem d_Law_law_182 : decode code 182 = .ok (.iconst 0, 1) := by decide +kernel
theorem d_Law_law_183 : decode code 183 = .ok (.ireturn, 1) := by decide +kernel
theorem d_Law_law_184 : decode code 184 = .ok (.iload 5, 2) := by decide +kernel
theorem d_Law_law_186 : decode code 186 = .ok (.ifCond .ne 15, 3) := by decide +kernel
theorem d_Law_law_189 : decode code 189 = .ok (.aload_n 3, 1) := by decide +kernel
theorem d_Law_law_190 : decode code 190 = .ok (.iconst 0, 1) := by decide +kernel
theorem d_Law_law_191 : decode code 191 = .ok (.laload, 1) := by decide +kernel
theorem d_Law_law_192 : decode code 192 = .ok (.iload 6, 2) := by decide +kernel
theorem d_Law_law_194 : decode code 194 = .ok (.i2l, 1) := by decide +kernel
theorem d_Law_law_195 : decode code 195 = .ok (.lcmp, 1) := by decide +kernel
theorem d_Law_law_196 : decode code 196 = .ok (.ifCond .eq 5, 3) := by decide +kernel
theorem d_Law_law_199 : decode code 199 = .ok (.iconst 0, 1) := by decide +kernel
theorem d_Law_law_200 : decode code 200 = .ok (.ireturn, 1) := by decide +kernel
theorem d_Law_law_201 : decode code 201 = .ok (.goto 1329, 3) := by decide +kernel
theorem d_Law_law_204 : decode code 204 = .ok (.aload_n 1, 1) := by decide +kernel
theorem d_Law_law_205 : decode code 205 = .ok (.aload_n 0, 1) := by decide +kernel
theorem d_Law_law_206 : decode code 206 = .ok (.iload 4, 2) := by decide +kernel
theorem d_Law_law_208 : decode code 208 = .ok (.iconst 1, 1) := by decide +kernel
theorem d_Law_law_209 : decode code 209 = .ok (.iadd, 1) := by decide +kernel
theorem d_Law_law_210 : decode code 210 = .ok (.iaload, 1) := by decide +kernel
theorem d_Law_law_211 : decode code 211 = .ok (.aload_n 0, 1) := by decide +kernel
theorem d_Law_law_212 : decode code 212 = .ok (.iload 4, 2) := by decide +kernel
theorem d_Law_law_214 : decode code 214 = .ok (.iconst 2, 1) := by decide +kernel
theorem d_Law_law_215 : decode code 215 = .ok (.iadd, 1) := by decide +kernel
theorem d_Law_law_216 : decode code 216 = .ok (.iaload, 1) := by decide +kernel
theorem d_Law_law_217 : decode code 217 = .ok (.aload_n 0, 1) := by decide +kernel
theorem d_Law_law_218 : decode code 218 = .ok (.iload 4, 2) := by decide +kernel
theorem d_Law_law_220 : decode code 220 = .ok (.iconst 3, 1) := by decide +kernel
theorem d_Law_law_221 : decode code 221 = .ok (.iadd, 1) := by decide +kernel
theorem d_Law_law_222 : decode code 222 = .ok (.iaload, 1) := by decide +kernel
theorem d_Law_law_223 : decode code 223 = .ok (.aload_n 0, 1) := by decide +kernel
theorem d_Law_law_224 : decode code 224 = .ok (.iload 4, 2) := by decide +kernel
theorem d_Law_law_226 : decode code 226 = .ok (.iconst 4, 1) := by decide +kernel
theorem d_Law_law_227 : decode code 227 = .ok (.iadd, 1) := by decide +kernel
theorem d_Law_law_228 : decode code 228 = .ok (.iaload, 1) := by decide +kernel
theorem d_Law_law_229 : decode code 229 = .ok (.aload_n 3, 1) := by decide +kernel
theorem d_Law_law_230 : decode code 230 = .ok (.invokestatic 100, 3) := by decide +kernel
theorem d_Law_law_233 : decode code 233 = .ok (.istore 5, 2) := by decide +kernel
theorem d_Law_law_235 : decode code 235 = .ok (.aload_n 2, 1) := by decide +kernel
theorem d_Law_law_236 : decode code 236 = .ok (.aload_n 0, 1) := by decide +kernel
theorem d_Law_law_237 : decode code 237 = .ok (.iload 4, 2) := by decide +kernel
theorem d_Law_law_239 : decode code 239 = .ok (.iconst 1, 1) := by decide +kernel
theorem d_Law_law_240 : decode code 240 = .ok (.iadd, 1) := by decide +kernel
theorem d_Law_law_241 : decode code 241 = .ok (.iaload, 1) := by decide +kernel
theorem d_Law_law_242 : decode code 242 = .ok (.aload_n 0, 1) := by decide +kernel
theorem d_Law_law_243 : decode code 243 = .ok (.iload 4, 2) := by decide +kernel
theorem d_Law_law_245 : decode code 245 = .ok (.iconst 2, 1) := by decide +kernel
theorem d_Law_law_246 : decode code 246 = .ok (.iadd, 1) := by decide +kernel
theorem d_Law_law_247 : decode code 247 = .ok (.iaload, 1) := by decide +kernel
theorem d_Law_law_248 : decode code 248 = .ok (.aload_n 0, 1) := by decide +kernel
theorem d_Law_law_249 : decode code 249 = .ok (.iload 4, 2) := by decide +kernel
theorem d_Law_law_251 : decode code 251 = .ok (.iconst 3, 1) := by decide +kernel
theorem d_Law_law_252 : decode code 252 = .ok (.iadd, 1) := by decide +kernel
theorem d_Law_law_253 : decode code 253 = .ok (.iaload, 1) := by decide +kernel
theorem d_Law_law_254 : decode code 254 = .ok (.aload_n 0, 1) := by decide +kernel
theorem d_Law_law_255 : decode code 255 = .ok (.iload 4, 2) := by decide +kernel
theorem d_Law_law_257 : decode code 257 = .ok (.iconst 4, 1) := by decide +kernel
theorem d_Law_law_258 : decode code 258 = .ok (.iadd, 1) := by decide +kernel
theorem d_Law_law_259 : decode code 259 = .ok (.iaload, 1) := by decide +kernel
theorem d_Law_law_260 : decode code 260 = .ok (.invokevirtual 103, 3) := by decide +kernel
theorem d_Law_law_263 : decode code 263 = .ok (.istore 6, 2) := by decide +kernel
theorem d_Law_law_265 : decode code 265 = .ok (.aload_n 2, 1) := by decide +kernel
theorem d_Law_law_266 : decode code 266 = .ok (.invokevirtual 96, 3) := by decide +kernel
theorem d_Law_law_269 : decode code 269 = .ok (.iload 5, 2) := by decide +kernel
theorem d_Law_law_271 : decode code 271 = .ok (.if_icmp .eq 5, 3) := by decide +kernel
theorem d_Law_law_274 : decode code 274 = .ok (.iconst 0, 1) := by decide +kernel
theorem d_Law_law_275 : decode code 275 = .ok (.ireturn, 1) := by decide +kernel
theorem d_Law_law_276 : decode code 276 = .ok (.iload 5, 2) := by decide +kernel
theorem d_Law_law_278 : decode code 278 = .ok (.ifCond .ne 15, 3) := by decide +kernel
theorem d_Law_law_281 : decode code 281 = .ok (.aload_n 3, 1) := by decide +kernel
theorem d_Law_law_282 : decode code 282 = .ok (.iconst 0, 1) := by decide +kernel
theorem d_Law_law_283 : decode code 283 = .ok (.laload, 1) := by decide +kernel
theorem d_Law_law_284 : decode code 284 = .ok (.iload 6, 2) := by decide +kernel
theorem d_Law_law_286 : decode code 286 = .ok (.i2l, 1) := by decide +kernel
theorem d_Law_law_287 : decode code 287 = .ok (.lcmp, 1) := by decide +kernel
theorem d_Law_law_288 : decode code 288 = .ok (.ifCond .eq 5, 3) := by decide +kernel
theorem d_Law_law_291 : decode code 291 = .ok (.iconst 0, 1) := by decide +kernel
theorem d_Law_law_292 : decode code 292 = .ok (.ireturn, 1) := by decide +kernel
theorem d_Law_law_293 : decode code 293 = .ok (.goto 1237, 3) := by decide +kernel
theorem d_Law_law_296 : decode code 296 = .ok (.aload_n 1, 1) := by decide +kernel
theorem d_Law_law_297 : decode code 297 = .ok (.aload_n 0, 1) := by decide +kernel
theorem d_Law_law_298 : decode code 298 = .ok (.iload 4, 2) := by decide +kernel
theorem d_Law_law_300 : decode code 300 = .ok (.iconst 1, 1) := by decide +kernel
theorem d_Law_law_301 : decode code 301 = .ok (.iadd, 1) := by decide +kernel
theorem d_Law_law_302 : decode code 302 = .ok (.iaload, 1) := by decide +kernel
theorem d_Law_law_303 : decode code 303 = .ok (.aload_n 0, 1) := by decide +kernel
theorem d_Law_law_304 : decode code 304 = .ok (.iload 4, 2) := by decide +kernel
theorem d_Law_law_306 : decode code 306 = .ok (.iconst 2, 1) := by decide +kernel
theorem d_Law_law_307 : decode code 307 = .ok (.iadd, 1) := by decide +kernel
theorem d_Law_law_308 : decode code 308 = .ok (.iaload, 1) := by decide +kernel
theorem d_Law_law_309 : decode code 309 = .ok (.ifCond .eq 7, 3) := by decide +kernel
theorem d_Law_law_312 : decode code 312 = .ok (.iconst 1, 1) := by decide +kernel
theorem d_Law_law_313 : decode code 313 = .ok (.goto 4, 3) := by decide +kernel
theorem d_Law_law_316 : decode code 316 = .ok (.iconst 0, 1) := by decide +kernel
theorem d_Law_law_317 : decode code 317 = .ok (.invokestatic 104, 3) := by decide +kernel
theorem d_Law_law_320 : decode code 320 = .ok (.istore 5, 2) := by decide +kernel
theorem d_Law_law_322 : decode code 322 = .ok (.aload_n 2, 1) := by decide +kernel
theorem d_Law_law_323 : decode code 323 = .ok (.aload_n 0, 1) := by decide +kernel
theorem d_Law_law_324 : decode code 324 = .ok (.iload 4, 2) := by decide +kernel
theorem d_Law_law_326 : decode code 326 = .ok (.iconst 1, 1) := by decide +kernel
theorem d_Law_law_327 : decode code 327 = .ok (.iadd, 1) := by decide +kernel
theorem d_Law_law_328 : decode code 328 = .ok (.iaload, 1) := by decide +kernel
theorem d_Law_law_329 : decode code 329 = .ok (.aload_n 0, 1) := by decide +kernel
theorem d_Law_law_330 : decode code 330 = .ok (.iload 4, 2) := by decide +kernel
theorem d_Law_law_332 : decode code 332 = .ok (.iconst 2, 1) := by decide +kernel
theorem d_Law_law_333 : decode code 333 = .ok (.iadd, 1) := by decide +kernel
theorem d_Law_law_334 : decode code 334 = .ok (.iaload, 1) := by decide +kernel
theorem d_Law_law_335 : decode code 335 = .ok (.ifCond .eq 7, 3) := by decide +kernel
theorem d_Law_law_338 : decode code 338 = .ok (.iconst 1, 1) := by decide +kernel
theorem d_Law_law_339 : decode code 339 = .ok (.goto 4, 3) := by decide +kernel
theorem d_Law_law_342 : decode code 342 = .ok (.iconst 0, 1) := by decide +kernel
theorem d_Law_law_343 : decode code 343 = .ok (.invokevirtual 107, 3) := by decide +kernel
theorem d_Law_law_346 : decode code 346 = .ok (.aload_n 2, 1) := by decide +kernel
theorem d_Law_law_347 : decode code 347 = .ok (.invokevirtual 96, 3) := by decide +kernel
theorem d_Law_law_350 : decode code 350 = .ok (.iload 5, 2) := by decide +kernel
theorem d_Law_law_352 : decode code 352 = .ok (.if_icmp .eq 5, 3) := by decide +kernel
theorem d_Law_law_355 : decode code 355 = .ok (.iconst 0, 1) := by decide +kernel
theorem d_Law_law_356 : decode code 356 = .ok (.ireturn, 1) := by decide +kernel
theorem d_Law_law_357 : decode code 357 = .ok (.goto 1173, 3) := by decide +kernel
theorem d_Law_law_360 : decode code 360 = .ok (.aload_n 1, 1) := by decide +kernel
theorem d_Law_law_361 : decode code 361 = .ok (.aload_n 0, 1) := by decide +kernel
theorem d_Law_law_362 : decode code 362 = .ok (.iload 4, 2) := by decide +kernel
theorem d_Law_law_364 : decode code 364 = .ok (.iconst 1, 1) := by decide +kernel
theorem d_Law_law_365 : decode code 365 = .ok (.iadd, 1) := by decide +kernel
theorem d_Law_law_366 : decode code 366 = .ok (.iaload, 1) := by decide +kernel
theorem d_Law_law_367 : decode code 367 = .ok (.aload_n 0, 1) := by decide +kernel
theorem d_Law_law_368 : decode code 368 = .ok (.iload 4, 2) := by decide +kernel
theorem d_Law_law_370 : decode code 370 = .ok (.iconst 2, 1) := by decide +kernel
theorem d_Law_law_371 : decode code 371 = .ok (.iadd, 1) := by decide +kernel
theorem d_Law_law_372 : decode code 372 = .ok (.iaload, 1) := by decide +kernel
theorem d_Law_law_373 : decode code 373 = .ok (.invokestatic 108, 3) := by decide +kernel
theorem d_Law_law_376 : decode code 376 = .ok (.istore 5, 2) := by decide +kernel
theorem d_Law_law_378 : decode code 378 = .ok (.aload_n 2, 1) := by decide +kernel
theorem d_Law_law_379 : decode code 379 = .ok (.aload_n 0, 1) := by decide +kernel
theorem d_Law_law_380 : decode code 380 = .ok (.iload 4, 2) := by decide +kernel
theorem d_Law_law_382 : decode code 382 = .ok (.iconst 1, 1) := by decide +kernel
theorem d_Law_law_383 : decode code 383 = .ok (.iadd, 1) := by decide +kernel
theorem d_Law_law_384 : decode code 384 = .ok (.iaload, 1) := by decide +kernel
theorem d_Law_law_385 : decode code 385 = .ok (.aload_n 0, 1) := by decide +kernel
theorem d_Law_law_386 : decode code 386 = .ok (.iload 4, 2) := by decide +kernel
theorem d_Law_law_388 : decode code 388 = .ok (.iconst 2, 1) := by decide +kernel
theorem d_Law_law_389 : decode code 389 = .ok (.iadd, 1) := by decide +kernel
theorem d_Law_law_390 : decode code 390 = .ok (.iaload, 1) := by decide +kernel
theorem d_Law_law_391 : decode code 391 = .ok (.invokevirtual 111, 3) := by decide +kernel
theorem d_Law_law_394 : decode code 394 = .ok (.aload_n 2, 1) := by decide +kernel
theorem d_Law_law_395 : decode code 395 = .ok (.invokevirtual 96, 3) := by decide +kernel
theorem d_Law_law_398 : decode code 398 = .ok (.iload 5, 2) := by decide +kernel
theorem d_Law_law_400 : decode code 400 = .ok (.if_icmp .eq 5, 3) := by decide +kernel
theorem d_Law_law_403 : decode code 403 = .ok (.iconst 0, 1) := by decide +kernel
theorem d_Law_law_404 : decode code 404 = .ok (.ireturn, 1) := by decide +kernel
theorem d_Law_law_405 : decode code 405 = .ok (.goto 1125, 3) := by decide +kernel
theorem d_Law_law_408 : decode code 408 = .ok (.aload_n 1, 1) := by decide +kernel
theorem d_Law_law_409 : decode code 409 = .ok (.aload_n 0, 1) := by decide +kernel
theorem d_Law_law_410 : decode code 410 = .ok (.iload 4, 2) := by decide +kernel
theorem d_Law_law_412 : decode code 412 = .ok (.iconst 1, 1) := by decide +kernel
theorem d_Law_law_413 : decode code 413 = .ok (.iadd, 1) := by decide +kernel
theorem d_Law_law_414 : decode code 414 = .ok (.iaload, 1) := by decide +kernel
theorem d_Law_law_415 : decode code 415 = .ok (.aload_n 0, 1) := by decide +kernel
theorem d_Law_law_416 : decode code 416 = .ok (.iload 4, 2) := by decide +kernel
theorem d_Law_law_418 : decode code 418 = .ok (.iconst 2, 1) := by decide +kernel
theorem d_Law_law_419 : decode code 419 = .ok (.iadd, 1) := by decide +kernel
theorem d_Law_law_420 : decode code 420 = .ok (.iaload, 1) := by decide +kernel
theorem d_Law_law_421 : decode code 421 = .ok (.aload_n 0, 1) := by decide +kernel
theorem d_Law_law_422 : decode code 422 = .ok (.iload 4, 2) := by decide +kernel
theorem d_Law_law_424 : decode code 424 = .ok (.iconst 3, 1) := by decide +kernel
theorem d_Law_law_425 : decode code 425 = .ok (.iadd, 1) := by decide +kernel
theorem d_Law_law_426 : decode code 426 = .ok (.iaload, 1) := by decide +kernel
theorem d_Law_law_427 : decode code 427 = .ok (.aload_n 3, 1) := by decide +kernel
theorem d_Law_law_428 : decode code 428 = .ok (.invokestatic 112, 3) := by decide +kernel
theorem d_Law_law_431 : decode code 431 = .ok (.istore 5, 2) := by decide +kernel
theorem d_Law_law_433 : decode code 433 = .ok (.aload_n 2, 1) := by decide +kernel
theorem d_Law_law_434 : decode code 434 = .ok (.aload_n 0, 1) := by decide +kernel
theorem d_Law_law_435 : decode code 435 = .ok (.iload 4, 2) := by decide +kernel
theorem d_Law_law_437 : decode code 437 = .ok (.iconst 1, 1) := by decide +kernel
theorem d_Law_law_438 : decode code 438 = .ok (.iadd, 1) := by decide +kernel
theorem d_Law_law_439 : decode code 439 = .ok (.iaload, 1) := by decide +kernel
theorem d_Law_law_440 : decode code 440 = .ok (.aload_n 0, 1) := by decide +kernel
theorem d_Law_law_441 : decode code 441 = .ok (.iload 4, 2) := by decide +kernel
theorem d_Law_law_443 : decode code 443 = .ok (.iconst 2, 1) := by decide +kernel
theorem d_Law_law_444 : decode code 444 = .ok (.iadd, 1) := by decide +kernel
theorem d_Law_law_445 : decode code 445 = .ok (.iaload, 1) := by decide +kernel
theorem d_Law_law_446 : decode code 446 = .ok (.aload_n 0, 1) := by decide +kernel
theorem d_Law_law_447 : decode code 447 = .ok (.iload 4, 2) := by decide +kernel
theorem d_Law_law_449 : decode code 449 = .ok (.iconst 3, 1) := by decide +kernel
theorem d_Law_law_450 : decode code 450 = .ok (.iadd, 1) := by decide +kernel
theorem d_Law_law_451 : decode code 451 = .ok (.iaload, 1) := by decide +kernel
theorem d_Law_law_452 : decode code 452 = .ok (.invokevirtual 115, 3) := by decide +kernel
theorem d_Law_law_455 : decode code 455 = .ok (.istore 6, 2) := by decide +kernel
theorem d_Law_law_457 : decode code 457 = .ok (.aload_n 2, 1) := by decide +kernel
theorem d_Law_law_458 : decode code 458 = .ok (.invokevirtual 96, 3) := by decide +kernel
theorem d_Law_law_461 : decode code 461 = .ok (.iload 5, 2) := by decide +kernel
theorem d_Law_law_463 : decode code 463 = .ok (.if_icmp .eq 5, 3) := by decide +kernel
theorem d_Law_law_466 : decode code 466 = .ok (.iconst 0, 1) := by decide +kernel
theorem d_Law_law_467 : decode code 467 = .ok (.ireturn, 1) := by decide +kernel
theorem d_Law_law_468 : decode code 468 = .ok (.iload 5, 2) := by decide +kernel
theorem d_Law_law_470 : decode code 470 = .ok (.ifCond .ne 15, 3) := by decide +kernel
theorem d_Law_law_473 : decode code 473 = .ok (.aload_n 3, 1) := by decide +kernel
theorem d_Law_law_474 : decode code 474 = .ok (.iconst 0, 1) := by decide +kernel
theorem d_Law_law_475 : decode code 475 = .ok (.laload, 1) := by decide +kernel
theorem d_Law_law_476 : decode code 476 = .ok (.iload 6, 2) := by decide +kernel
theorem d_Law_law_478 : decode code 478 = .ok (.i2l, 1) := by decide +kernel
theorem d_Law_law_479 : decode code 479 = .ok (.lcmp, 1) := by decide +kernel
theorem d_Law_law_480 : decode code 480 = .ok (.ifCond .eq 5, 3) := by decide +kernel
theorem d_Law_law_483 : decode code 483 = .ok (.iconst 0, 1) := by decide +kernel
theorem d_Law_law_484 : decode code 484 = .ok (.ireturn, 1) := by decide +kernel
theorem d_Law_law_485 : decode code 485 = .ok (.goto 1045, 3) := by decide +kernel
theorem d_Law_law_488 : decode code 488 = .ok (.aload_n 1, 1) := by decide +kernel
theorem d_Law_law_489 : decode code 489 = .ok (.aload_n 0, 1) := by decide +kernel
theorem d_Law_law_490 : decode code 490 = .ok (.iload 4, 2) := by decide +kernel
theorem d_Law_law_492 : decode code 492 = .ok (.iconst 1, 1) := by decide +kernel
theorem d_Law_law_493 : decode code 493 = .ok (.iadd, 1) := by decide +kernel
theorem d_Law_law_494 : decode code 494 = .ok (.iaload, 1) := by decide +kernel
theorem d_Law_law_495 : decode code 495 = .ok (.aload_n 3, 1) := by decide +kernel
theorem d_Law_law_496 : decode code 496 = .ok (.invokestatic 116, 3) := by decide +kernel
theorem d_Law_law_499 : decode code 499 = .ok (.istore 5, 2) := by decide +kernel
theorem d_Law_law_501 : decode code 501 = .ok (.aload_n 2, 1) := by decide +kernel
theorem d_Law_law_502 : decode code 502 = .ok (.aload_n 0, 1) := by decide +kernel
theorem d_Law_law_503 : decode code 503 = .ok (.iload 4, 2) := by decide +kernel
theorem d_Law_law_505 : decode code 505 = .ok (.iconst 1, 1) := by decide +kernel
theorem d_Law_law_506 : decode code 506 = .ok (.iadd, 1) := by decide +kernel
theorem d_Law_law_507 : decode code 507 = .ok (.iaload, 1) := by decide +kernel
theorem d_Law_law_508 : decode code 508 = .ok (.invokevirtual 119, 3) := by decide +kernel
theorem d_Law_law_511 : decode code 511 = .ok (.istore 6, 2) := by decide +kernel
theorem d_Law_law_513 : decode code 513 = .ok (.aload_n 2, 1) := by decide +kernel
theorem d_Law_law_514 : decode code 514 = .ok (.invokevirtual 96, 3) := by decide +kernel
theorem d_Law_law_517 : decode code 517 = .ok (.iload 5, 2) := by decide +kernel
theorem d_Law_law_519 : decode code 519 = .ok (.if_icmp .eq 5, 3) := by decide +kernel
theorem d_Law_law_522 : decode code 522 = .ok (.iconst 0, 1) := by decide +kernel
theorem d_Law_law_523 : decode code 523 = .ok (.ireturn, 1) := by decide +kernel
theorem d_Law_law_524 : decode code 524 = .ok (.iload 5, 2) := by decide +kernel
theorem d_Law_law_526 : decode code 526 = .ok (.ifCond .ne 15, 3) := by decide +kernel
theorem d_Law_law_529 : decode code 529 = .ok (.aload_n 3, 1) := by decide +kernel
theorem d_Law_law_530 : decode code 530 = .ok (.iconst 0, 1) := by decide +kernel
theorem d_Law_law_531 : decode code 531 = .ok (.laload, 1) := by decide +kernel
theorem d_Law_law_532 : decode code 532 = .ok (.iload 6, 2) := by decide +kernel
theorem d_Law_law_534 : decode code 534 = .ok (.i2l, 1) := by decide +kernel
theorem d_Law_law_535 : decode code 535 = .ok (.lcmp, 1) := by decide +kernel
theorem d_Law_law_536 : decode code 536 = .ok (.ifCond .eq 5, 3) := by decide +kernel
theorem d_Law_law_539 : decode code 539 = .ok (.iconst 0, 1) := by decide +kernel
theorem d_Law_law_540 : decode code 540 = .ok (.ireturn, 1) := by decide +kernel
theorem d_Law_law_541 : decode code 541 = .ok (.goto 989, 3) := by decide +kernel
theorem d_Law_law_544 : decode code 544 = .ok (.aload_n 1, 1) := by decide +kernel
theorem d_Law_law_545 : decode code 545 = .ok (.aload_n 0, 1) := by decide +kernel
theorem d_Law_law_546 : decode code 546 = .ok (.iload 4, 2) := by decide +kernel
theorem d_Law_law_548 : decode code 548 = .ok (.iconst 1, 1) := by decide +kernel
theorem d_Law_law_549 : decode code 549 = .ok (.iadd, 1) := by decide +kernel
theorem d_Law_law_550 : decode code 550 = .ok (.iaload, 1) := by decide +kernel
theorem d_Law_law_551 : decode code 551 = .ok (.aload_n 3, 1) := by decide +kernel
theorem d_Law_law_552 : decode code 552 = .ok (.invokestatic 120, 3) := by decide +kernel
theorem d_Law_law_555 : decode code 555 = .ok (.istore 5, 2) := by decide +kernel
theorem d_Law_law_557 : decode code 557 = .ok (.aload_n 2, 1) := by decide +kernel
theorem d_Law_law_558 : decode code 558 = .ok (.aload_n 0, 1) := by decide +kernel
theorem d_Law_law_559 : decode code 559 = .ok (.iload 4, 2) := by decide +kernel
theorem d_Law_law_561 : decode code 561 = .ok (.iconst 1, 1) := by decide +kernel
theorem d_Law_law_562 : decode code 562 = .ok (.iadd, 1) := by decide +kernel
theorem d_Law_law_563 : decode code 563 = .ok (.iaload, 1) := by decide +kernel
theorem d_Law_law_564 : decode code 564 = .ok (.invokevirtual 122, 3) := by decide +kernel
theorem d_Law_law_567 : decode code 567 = .ok (.istore 6, 2) := by decide +kernel
theorem d_Law_law_569 : decode code 569 = .ok (.aload_n 2, 1) := by decide +kernel
theorem d_Law_law_570 : decode code 570 = .ok (.invokevirtual 96, 3) := by decide +kernel
theorem d_Law_law_573 : decode code 573 = .ok (.iload 5, 2) := by decide +kernel
theorem d_Law_law_575 : decode code 575 = .ok (.if_icmp .eq 5, 3) := by decide +kernel
theorem d_Law_law_578 : decode code 578 = .ok (.iconst 0, 1) := by decide +kernel
theorem d_Law_law_579 : decode code 579 = .ok (.ireturn, 1) := by decide +kernel
theorem d_Law_law_580 : decode code 580 = .ok (.iload 5, 2) := by decide +kernel
theorem d_Law_law_582 : decode code 582 = .ok (.ifCond .ne 15, 3) := by decide +kernel
theorem d_Law_law_585 : decode code 585 = .ok (.aload_n 3, 1) := by decide +kernel
theorem d_Law_law_586 : decode code 586 = .ok (.iconst 0, 1) := by decide +kernel
theorem d_Law_law_587 : decode code 587 = .ok (.laload, 1) := by decide +kernel
theorem d_Law_law_588 : decode code 588 = .ok (.iload 6, 2) := by decide +kernel
theorem d_Law_law_590 : decode code 590 = .ok (.i2l, 1) := by decide +kernel
theorem d_Law_law_591 : decode code 591 = .ok (.lcmp, 1) := by decide +kernel
theorem d_Law_law_592 : decode code 592 = .ok (.ifCond .eq 5, 3) := by decide +kernel
theorem d_Law_law_595 : decode code 595 = .ok (.iconst 0, 1) := by decide +kernel
theorem d_Law_law_596 : decode code 596 = .ok (.ireturn, 1) := by decide +kernel
theorem d_Law_law_597 : decode code 597 = .ok (.goto 933, 3) := by decide +kernel
theorem d_Law_law_600 : decode code 600 = .ok (.aload_n 1, 1) := by decide +kernel
theorem d_Law_law_601 : decode code 601 = .ok (.aload_n 0, 1) := by decide +kernel
theorem d_Law_law_602 : decode code 602 = .ok (.iload 4, 2) := by decide +kernel
theorem d_Law_law_604 : decode code 604 = .ok (.iconst 1, 1) := by decide +kernel
theorem d_Law_law_605 : decode code 605 = .ok (.iadd, 1) := by decide +kernel
theorem d_Law_law_606 : decode code 606 = .ok (.iaload, 1) := by decide +kernel
theorem d_Law_law_607 : decode code 607 = .ok (.aload_n 0, 1) := by decide +kernel
theorem d_Law_law_608 : decode code 608 = .ok (.iload 4, 2) := by decide +kernel
theorem d_Law_law_610 : decode code 610 = .ok (.iconst 2, 1) := by decide +kernel
theorem d_Law_law_611 : decode code 611 = .ok (.iadd, 1) := by decide +kernel
theorem d_Law_law_612 : decode code 612 = .ok (.iaload, 1) := by decide +kernel
theorem d_Law_law_613 : decode code 613 = .ok (.aload_n 3, 1) := by decide +kernel
theorem d_Law_law_614 : decode code 614 = .ok (.invokestatic 123, 3) := by decide +kernel
theorem d_Law_law_617 : decode code 617 = .ok (.istore 5, 2) := by decide +kernel
theorem d_Law_law_619 : decode code 619 = .ok (.aload_n 2, 1) := by decide +kernel
theorem d_Law_law_620 : decode code 620 = .ok (.aload_n 0, 1) := by decide +kernel
theorem d_Law_law_621 : decode code 621 = .ok (.iload 4, 2) := by decide +kernel
theorem d_Law_law_623 : decode code 623 = .ok (.iconst 1, 1) := by decide +kernel
theorem d_Law_law_624 : decode code 624 = .ok (.iadd, 1) := by decide +kernel
theorem d_Law_law_625 : decode code 625 = .ok (.iaload, 1) := by decide +kernel
theorem d_Law_law_626 : decode code 626 = .ok (.aload_n 0, 1) := by decide +kernel
theorem d_Law_law_627 : decode code 627 = .ok (.iload 4, 2) := by decide +kernel
theorem d_Law_law_629 : decode code 629 = .ok (.iconst 2, 1) := by decide +kernel
theorem d_Law_law_630 : decode code 630 = .ok (.iadd, 1) := by decide +kernel
theorem d_Law_law_631 : decode code 631 = .ok (.iaload, 1) := by decide +kernel
theorem d_Law_law_632 : decode code 632 = .ok (.invokevirtual 125, 3) := by decide +kernel
theorem d_Law_law_635 : decode code 635 = .ok (.istore 6, 2) := by decide +kernel
theorem d_Law_law_637 : decode code 637 = .ok (.aload_n 2, 1) := by decide +kernel
theorem d_Law_law_638 : decode code 638 = .ok (.invokevirtual 96, 3) := by decide +kernel
theorem d_Law_law_641 : decode code 641 = .ok (.iload 5, 2) := by decide +kernel
theorem d_Law_law_643 : decode code 643 = .ok (.if_icmp .eq 5, 3) := by decide +kernel
theorem d_Law_law_646 : decode code 646 = .ok (.iconst 0, 1) := by decide +kernel
theorem d_Law_law_647 : decode code 647 = .ok (.ireturn, 1) := by decide +kernel
theorem d_Law_law_648 : decode code 648 = .ok (.iload 5, 2) := by decide +kernel
theorem d_Law_law_650 : decode code 650 = .ok (.ifCond .ne 15, 3) := by decide +kernel
theorem d_Law_law_653 : decode code 653 = .ok (.aload_n 3, 1) := by decide +kernel
theorem d_Law_law_654 : decode code 654 = .ok (.iconst 0, 1) := by decide +kernel
theorem d_Law_law_655 : decode code 655 = .ok (.laload, 1) := by decide +kernel
theorem d_Law_law_656 : decode code 656 = .ok (.iload 6, 2) := by decide +kernel
theorem d_Law_law_658 : decode code 658 = .ok (.i2l, 1) := by decide +kernel
theorem d_Law_law_659 : decode code 659 = .ok (.lcmp, 1) := by decide +kernel
theorem d_Law_law_660 : decode code 660 = .ok (.ifCond .eq 5, 3) := by decide +kernel
theorem d_Law_law_663 : decode code 663 = .ok (.iconst 0, 1) := by decide +kernel
theorem d_Law_law_664 : decode code 664 = .ok (.ireturn, 1) := by decide +kernel
theorem d_Law_law_665 : decode code 665 = .ok (.goto 865, 3) := by decide +kernel
theorem d_Law_law_668 : decode code 668 = .ok (.aload_n 1, 1) := by decide +kernel
theorem d_Law_law_669 : decode code 669 = .ok (.aload_n 0, 1) := by decide +kernel
theorem d_Law_law_670 : decode code 670 = .ok (.iload 4, 2) := by decide +kernel
theorem d_Law_law_672 : decode code 672 = .ok (.iconst 1, 1) := by decide +kernel
theorem d_Law_law_673 : decode code 673 = .ok (.iadd, 1) := by decide +kernel
theorem d_Law_law_674 : decode code 674 = .ok (.iaload, 1) := by decide +kernel
theorem d_Law_law_675 : decode code 675 = .ok (.aload_n 3, 1) := by decide +kernel
theorem d_Law_law_676 : decode code 676 = .ok (.invokestatic 126, 3) := by decide +kernel
theorem d_Law_law_679 : decode code 679 = .ok (.istore 5, 2) := by decide +kernel
theorem d_Law_law_681 : decode code 681 = .ok (.aload_n 2, 1) := by decide +kernel
theorem d_Law_law_682 : decode code 682 = .ok (.aload_n 0, 1) := by decide +kernel
theorem d_Law_law_683 : decode code 683 = .ok (.iload 4, 2) := by decide +kernel
theorem d_Law_law_685 : decode code 685 = .ok (.iconst 1, 1) := by decide +kernel
theorem d_Law_law_686 : decode code 686 = .ok (.iadd, 1) := by decide +kernel
theorem d_Law_law_687 : decode code 687 = .ok (.iaload, 1) := by decide +kernel
theorem d_Law_law_688 : decode code 688 = .ok (.invokevirtual 128, 3) := by decide +kernel
theorem d_Law_law_691 : decode code 691 = .ok (.istore 6, 2) := by decide +kernel
theorem d_Law_law_693 : decode code 693 = .ok (.aload_n 2, 1) := by decide +kernel
theorem d_Law_law_694 : decode code 694 = .ok (.invokevirtual 96, 3) := by decide +kernel
theorem d_Law_law_697 : decode code 697 = .ok (.iload 5, 2) := by decide +kernel
theorem d_Law_law_699 : decode code 699 = .ok (.if_icmp .eq 5, 3) := by decide +kernel
theorem d_Law_law_702 : decode code 702 = .ok (.iconst 0, 1) := by decide +kernel
theorem d_Law_law_703 : decode code 703 = .ok (.ireturn, 1) := by decide +kernel
theorem d_Law_law_704 : decode code 704 = .ok (.iload 5, 2) := by decide +kernel
theorem d_Law_law_706 : decode code 706 = .ok (.ifCond .ne 15, 3) := by decide +kernel
theorem d_Law_law_709 : decode code 709 = .ok (.aload_n 3, 1) := by decide +kernel
theorem d_Law_law_710 : decode code 710 = .ok (.iconst 0, 1) := by decide +kernel
theorem d_Law_law_711 : decode code 711 = .ok (.laload, 1) := by decide +kernel
theorem d_Law_law_712 : decode code 712 = .ok (.iload 6, 2) := by decide +kernel
theorem d_Law_law_714 : decode code 714 = .ok (.i2l, 1) := by decide +kernel
theorem d_Law_law_715 : decode code 715 = .ok (.lcmp, 1) := by decide +kernel
theorem d_Law_law_716 : decode code 716 = .ok (.ifCond .eq 5, 3) := by decide +kernel
theorem d_Law_law_719 : decode code 719 = .ok (.iconst 0, 1) := by decide +kernel
theorem d_Law_law_720 : decode code 720 = .ok (.ireturn, 1) := by decide +kernel
theorem d_Law_law_721 : decode code 721 = .ok (.goto 809, 3) := by decide +kernel
theorem d_Law_law_724 : decode code 724 = .ok (.aload_n 1, 1) := by decide +kernel
theorem d_Law_law_725 : decode code 725 = .ok (.aload_n 0, 1) := by decide +kernel
theorem d_Law_law_726 : decode code 726 = .ok (.iload 4, 2) := by decide +kernel
theorem d_Law_law_728 : decode code 728 = .ok (.iconst 1, 1) := by decide +kernel
theorem d_Law_law_729 : decode code 729 = .ok (.iadd, 1) := by decide +kernel
theorem d_Law_law_730 : decode code 730 = .ok (.iaload, 1) := by decide +kernel
theorem d_Law_law_731 : decode code 731 = .ok (.aload_n 3, 1) := by decide +kernel
theorem d_Law_law_732 : decode code 732 = .ok (.invokestatic 129, 3) := by decide +kernel
theorem d_Law_law_735 : decode code 735 = .ok (.istore 5, 2) := by decide +kernel
theorem d_Law_law_737 : decode code 737 = .ok (.aload_n 2, 1) := by decide +kernel
theorem d_Law_law_738 : decode code 738 = .ok (.aload_n 0, 1) := by decide +kernel
theorem d_Law_law_739 : decode code 739 = .ok (.iload 4, 2) := by decide +kernel
theorem d_Law_law_741 : decode code 741 = .ok (.iconst 1, 1) := by decide +kernel
theorem d_Law_law_742 : decode code 742 = .ok (.iadd, 1) := by decide +kernel
theorem d_Law_law_743 : decode code 743 = .ok (.iaload, 1) := by decide +kernel
theorem d_Law_law_744 : decode code 744 = .ok (.invokevirtual 131, 3) := by decide +kernel
theorem d_Law_law_747 : decode code 747 = .ok (.istore 6, 2) := by decide +kernel
theorem d_Law_law_749 : decode code 749 = .ok (.aload_n 2, 1) := by decide +kernel
theorem d_Law_law_750 : decode code 750 = .ok (.invokevirtual 96, 3) := by decide +kernel
theorem d_Law_law_753 : decode code 753 = .ok (.iload 5, 2) := by decide +kernel
theorem d_Law_law_755 : decode code 755 = .ok (.if_icmp .eq 5, 3) := by decide +kernel
theorem d_Law_law_758 : decode code 758 = .ok (.iconst 0, 1) := by decide +kernel
theorem d_Law_law_759 : decode code 759 = .ok (.ireturn, 1) := by decide +kernel
theorem d_Law_law_760 : decode code 760 = .ok (.iload 5, 2) := by decide +kernel
theorem d_Law_law_762 : decode code 762 = .ok (.ifCond .ne 15, 3) := by decide +kernel
theorem d_Law_law_765 : decode code 765 = .ok (.aload_n 3, 1) := by decide +kernel
theorem d_Law_law_766 : decode code 766 = .ok (.iconst 0, 1) := by decide +kernel
theorem d_Law_law_767 : decode code 767 = .ok (.laload, 1) := by decide +kernel
theorem d_Law_law_768 : decode code 768 = .ok (.iload 6, 2) := by decide +kernel
theorem d_Law_law_770 : decode code 770 = .ok (.i2l, 1) := by decide +kernel
theorem d_Law_law_771 : decode code 771 = .ok (.lcmp, 1) := by decide +kernel
theorem d_Law_law_772 : decode code 772 = .ok (.ifCond .eq 5, 3) := by decide +kernel
theorem d_Law_law_775 : decode code 775 = .ok (.iconst 0, 1) := by decide +kernel
theorem d_Law_law_776 : decode code 776 = .ok (.ireturn, 1) := by decide +kernel
theorem d_Law_law_777 : decode code 777 = .ok (.goto 753, 3) := by decide +kernel
theorem d_Law_law_780 : decode code 780 = .ok (.aload_n 1, 1) := by decide +kernel
theorem d_Law_law_781 : decode code 781 = .ok (.aload_n 0, 1) := by decide +kernel
theorem d_Law_law_782 : decode code 782 = .ok (.iload 4, 2) := by decide +kernel
theorem d_Law_law_784 : decode code 784 = .ok (.iconst 1, 1) := by decide +kernel
theorem d_Law_law_785 : decode code 785 = .ok (.iadd, 1) := by decide +kernel
theorem d_Law_law_786 : decode code 786 = .ok (.iaload, 1) := by decide +kernel
theorem d_Law_law_787 : decode code 787 = .ok (.aload_n 0, 1) := by decide +kernel
theorem d_Law_law_788 : decode code 788 = .ok (.iload 4, 2) := by decide +kernel
theorem d_Law_law_790 : decode code 790 = .ok (.iconst 2, 1) := by decide +kernel
theorem d_Law_law_791 : decode code 791 = .ok (.iadd, 1) := by decide +kernel
theorem d_Law_law_792 : decode code 792 = .ok (.iaload, 1) := by decide +kernel
theorem d_Law_law_793 : decode code 793 = .ok (.aload_n 0, 1) := by decide +kernel
theorem d_Law_law_794 : decode code 794 = .ok (.iload 4, 2) := by decide +kernel
theorem d_Law_law_796 : decode code 796 = .ok (.iconst 3, 1) := by decide +kernel
theorem d_Law_law_797 : decode code 797 = .ok (.iadd, 1) := by decide +kernel
theorem d_Law_law_798 : decode code 798 = .ok (.iaload, 1) := by decide +kernel
theorem d_Law_law_799 : decode code 799 = .ok (.invokestatic 132, 3) := by decide +kernel
theorem d_Law_law_802 : decode code 802 = .ok (.istore 5, 2) := by decide +kernel
theorem d_Law_law_804 : decode code 804 = .ok (.aload_n 2, 1) := by decide +kernel
theorem d_Law_law_805 : decode code 805 = .ok (.aload_n 0, 1) := by decide +kernel
theorem d_Law_law_806 : decode code 806 = .ok (.iload 4, 2) := by decide +kernel
theorem d_Law_law_808 : decode code 808 = .ok (.iconst 1, 1) := by decide +kernel
theorem d_Law_law_809 : decode code 809 = .ok (.iadd, 1) := by decide +kernel
theorem d_Law_law_810 : decode code 810 = .ok (.iaload, 1) := by decide +kernel
theorem d_Law_law_811 : decode code 811 = .ok (.aload_n 0, 1) := by decide +kernel
theorem d_Law_law_812 : decode code 812 = .ok (.iload 4, 2) := by decide +kernel
theorem d_Law_law_814 : decode code 814 = .ok (.iconst 2, 1) := by decide +kernel
theorem d_Law_law_815 : decode code 815 = .ok (.iadd, 1) := by decide +kernel
theorem d_Law_law_816 : decode code 816 = .ok (.iaload, 1) := by decide +kernel
theorem d_Law_law_817 : decode code 817 = .ok (.aload_n 0, 1) := by decide +kernel
theorem d_Law_law_818 : decode code 818 = .ok (.iload 4, 2) := by decide +kernel
theorem d_Law_law_820 : decode code 820 = .ok (.iconst 3, 1) := by decide +kernel
theorem d_Law_law_821 : decode code 821 = .ok (.iadd, 1) := by decide +kernel
theorem d_Law_law_822 : decode code 822 = .ok (.iaload, 1) := by decide +kernel
theorem d_Law_law_823 : decode code 823 = .ok (.invokevirtual 135, 3) := by decide +kernel
theorem d_Law_law_826 : decode code 826 = .ok (.aload_n 2, 1) := by decide +kernel
theorem d_Law_law_827 : decode code 827 = .ok (.invokevirtual 96, 3) := by decide +kernel
theorem d_Law_law_830 : decode code 830 = .ok (.iload 5, 2) := by decide +kernel
theorem d_Law_law_832 : decode code 832 = .ok (.if_icmp .eq 5, 3) := by decide +kernel
theorem d_Law_law_835 : decode code 835 = .ok (.iconst 0, 1) := by decide +kernel
theorem d_Law_law_836 : decode code 836 = .ok (.ireturn, 1) := by decide +kernel
theorem d_Law_law_837 : decode code 837 = .ok (.goto 693, 3) := by decide +kernel
theorem d_Law_law_840 : decode code 840 = .ok (.aload_n 1, 1) := by decide +kernel
theorem d_Law_law_841 : decode code 841 = .ok (.aload_n 0, 1) := by decide +kernel
theorem d_Law_law_842 : decode code 842 = .ok (.iload 4, 2) := by decide +kernel
theorem d_Law_law_844 : decode code 844 = .ok (.iconst 1, 1) := by decide +kernel
theorem d_Law_law_845 : decode code 845 = .ok (.iadd, 1) := by decide +kernel
theorem d_Law_law_846 : decode code 846 = .ok (.iaload, 1) := by decide +kernel
theorem d_Law_law_847 : decode code 847 = .ok (.aload_n 0, 1) := by decide +kernel
theorem d_Law_law_848 : decode code 848 = .ok (.iload 4, 2) := by decide +kernel
theorem d_Law_law_850 : decode code 850 = .ok (.iconst 2, 1) := by decide +kernel
theorem d_Law_law_851 : decode code 851 = .ok (.iadd, 1) := by decide +kernel
theorem d_Law_law_852 : decode code 852 = .ok (.iaload, 1) := by decide +kernel
theorem d_Law_law_853 : decode code 853 = .ok (.aload_n 3, 1) := by decide +kernel
theorem d_Law_law_854 : decode code 854 = .ok (.invokestatic 136, 3) := by decide +kernel
theorem d_Law_law_857 : decode code 857 = .ok (.istore 5, 2) := by decide +kernel
theorem d_Law_law_859 : decode code 859 = .ok (.aload_n 2, 1) := by decide +kernel
theorem d_Law_law_860 : decode code 860 = .ok (.aload_n 0, 1) := by decide +kernel
theorem d_Law_law_861 : decode code 861 = .ok (.iload 4, 2) := by decide +kernel
theorem d_Law_law_863 : decode code 863 = .ok (.iconst 1, 1) := by decide +kernel
theorem d_Law_law_864 : decode code 864 = .ok (.iadd, 1) := by decide +kernel
theorem d_Law_law_865 : decode code 865 = .ok (.iaload, 1) := by decide +kernel
theorem d_Law_law_866 : decode code 866 = .ok (.aload_n 0, 1) := by decide +kernel
theorem d_Law_law_867 : decode code 867 = .ok (.iload 4, 2) := by decide +kernel
theorem d_Law_law_869 : decode code 869 = .ok (.iconst 2, 1) := by decide +kernel
theorem d_Law_law_870 : decode code 870 = .ok (.iadd, 1) := by decide +kernel
theorem d_Law_law_871 : decode code 871 = .ok (.iaload, 1) := by decide +kernel
theorem d_Law_law_872 : decode code 872 = .ok (.invokevirtual 138, 3) := by decide +kernel
theorem d_Law_law_875 : decode code 875 = .ok (.istore 6, 2) := by decide +kernel
theorem d_Law_law_877 : decode code 877 = .ok (.aload_n 2, 1) := by decide +kernel
theorem d_Law_law_878 : decode code 878 = .ok (.invokevirtual 96, 3) := by decide +kernel
theorem d_Law_law_881 : decode code 881 = .ok (.iload 5, 2) := by decide +kernel
theorem d_Law_law_883 : decode code 883 = .ok (.if_icmp .eq 5, 3) := by decide +kernel
theorem d_Law_law_886 : decode code 886 = .ok (.iconst 0, 1) := by decide +kernel
theorem d_Law_law_887 : decode code 887 = .ok (.ireturn, 1) := by decide +kernel
theorem d_Law_law_888 : decode code 888 = .ok (.iload 5, 2) := by decide +kernel
theorem d_Law_law_890 : decode code 890 = .ok (.ifCond .ne 15, 3) := by decide +kernel
theorem d_Law_law_893 : decode code 893 = .ok (.aload_n 3, 1) := by decide +kernel
theorem d_Law_law_894 : decode code 894 = .ok (.iconst 0, 1) := by decide +kernel
theorem d_Law_law_895 : decode code 895 = .ok (.laload, 1) := by decide +kernel
theorem d_Law_law_896 : decode code 896 = .ok (.iload 6, 2) := by decide +kernel
theorem d_Law_law_898 : decode code 898 = .ok (.i2l, 1) := by decide +kernel
theorem d_Law_law_899 : decode code 899 = .ok (.lcmp, 1) := by decide +kernel
theorem d_Law_law_900 : decode code 900 = .ok (.ifCond .eq 5, 3) := by decide +kernel
theorem d_Law_law_903 : decode code 903 = .ok (.iconst 0, 1) := by decide +kernel
theorem d_Law_law_904 : decode code 904 = .ok (.ireturn, 1) := by decide +kernel
theorem d_Law_law_905 : decode code 905 = .ok (.goto 625, 3) := by decide +kernel
theorem d_Law_law_908 : decode code 908 = .ok (.aload_n 1, 1) := by decide +kernel
theorem d_Law_law_909 : decode code 909 = .ok (.aload_n 0, 1) := by decide +kernel
theorem d_Law_law_910 : decode code 910 = .ok (.iload 4, 2) := by decide +kernel
theorem d_Law_law_912 : decode code 912 = .ok (.iconst 1, 1) := by decide +kernel
theorem d_Law_law_913 : decode code 913 = .ok (.iadd, 1) := by decide +kernel
theorem d_Law_law_914 : decode code 914 = .ok (.iaload, 1) := by decide +kernel
theorem d_Law_law_915 : decode code 915 = .ok (.aload_n 0, 1) := by decide +kernel
theorem d_Law_law_916 : decode code 916 = .ok (.iload 4, 2) := by decide +kernel
theorem d_Law_law_918 : decode code 918 = .ok (.iconst 2, 1) := by decide +kernel
theorem d_Law_law_919 : decode code 919 = .ok (.iadd, 1) := by decide +kernel
theorem d_Law_law_920 : decode code 920 = .ok (.iaload, 1) := by decide +kernel
theorem d_Law_law_921 : decode code 921 = .ok (.aload_n 0, 1) := by decide +kernel
theorem d_Law_law_922 : decode code 922 = .ok (.iload 4, 2) := by decide +kernel
theorem d_Law_law_924 : decode code 924 = .ok (.iconst 3, 1) := by decide +kernel
theorem d_Law_law_925 : decode code 925 = .ok (.iadd, 1) := by decide +kernel
theorem d_Law_law_926 : decode code 926 = .ok (.iaload, 1) := by decide +kernel
theorem d_Law_law_927 : decode code 927 = .ok (.aload_n 0, 1) := by decide +kernel
theorem d_Law_law_928 : decode code 928 = .ok (.iload 4, 2) := by decide +kernel
theorem d_Law_law_930 : decode code 930 = .ok (.iconst 4, 1) := by decide +kernel
theorem d_Law_law_931 : decode code 931 = .ok (.iadd, 1) := by decide +kernel
theorem d_Law_law_932 : decode code 932 = .ok (.iaload, 1) := by decide +kernel
theorem d_Law_law_933 : decode code 933 = .ok (.aload_n 3, 1) := by decide +kernel
theorem d_Law_law_934 : decode code 934 = .ok (.invokestatic 139, 3) := by decide +kernel
theorem d_Law_law_937 : decode code 937 = .ok (.istore 5, 2) := by decide +kernel
theorem d_Law_law_939 : decode code 939 = .ok (.aload_n 2, 1) := by decide +kernel
theorem d_Law_law_940 : decode code 940 = .ok (.aload_n 0, 1) := by decide +kernel
theorem d_Law_law_941 : decode code 941 = .ok (.iload 4, 2) := by decide +kernel
theorem d_Law_law_943 : decode code 943 = .ok (.iconst 1, 1) := by decide +kernel
theorem d_Law_law_944 : decode code 944 = .ok (.iadd, 1) := by decide +kernel
theorem d_Law_law_945 : decode code 945 = .ok (.iaload, 1) := by decide +kernel
theorem d_Law_law_946 : decode code 946 = .ok (.aload_n 0, 1) := by decide +kernel
theorem d_Law_law_947 : decode code 947 = .ok (.iload 4, 2) := by decide +kernel
theorem d_Law_law_949 : decode code 949 = .ok (.iconst 2, 1) := by decide +kernel
theorem d_Law_law_950 : decode code 950 = .ok (.iadd, 1) := by decide +kernel
theorem d_Law_law_951 : decode code 951 = .ok (.iaload, 1) := by decide +kernel
theorem d_Law_law_952 : decode code 952 = .ok (.aload_n 0, 1) := by decide +kernel
theorem d_Law_law_953 : decode code 953 = .ok (.iload 4, 2) := by decide +kernel
theorem d_Law_law_955 : decode code 955 = .ok (.iconst 3, 1) := by decide +kernel
theorem d_Law_law_956 : decode code 956 = .ok (.iadd, 1) := by decide +kernel
theorem d_Law_law_957 : decode code 957 = .ok (.iaload, 1) := by decide +kernel
theorem d_Law_law_958 : decode code 958 = .ok (.aload_n 0, 1) := by decide +kernel
theorem d_Law_law_959 : decode code 959 = .ok (.iload 4, 2) := by decide +kernel
theorem d_Law_law_961 : decode code 961 = .ok (.iconst 4, 1) := by decide +kernel
theorem d_Law_law_962 : decode code 962 = .ok (.iadd, 1) := by decide +kernel
theorem d_Law_law_963 : decode code 963 = .ok (.iaload, 1) := by decide +kernel
theorem d_Law_law_964 : decode code 964 = .ok (.invokevirtual 141, 3) := by decide +kernel
theorem d_Law_law_967 : decode code 967 = .ok (.istore 6, 2) := by decide +kernel
theorem d_Law_law_969 : decode code 969 = .ok (.aload_n 2, 1) := by decide +kernel
theorem d_Law_law_970 : decode code 970 = .ok (.invokevirtual 96, 3) := by decide +kernel
theorem d_Law_law_973 : decode code 973 = .ok (.iload 5, 2) := by decide +kernel
theorem d_Law_law_975 : decode code 975 = .ok (.if_icmp .eq 5, 3) := by decide +kernel
theorem d_Law_law_978 : decode code 978 = .ok (.iconst 0, 1) := by decide +kernel
theorem d_Law_law_979 : decode code 979 = .ok (.ireturn, 1) := by decide +kernel
theorem d_Law_law_980 : decode code 980 = .ok (.iload 5, 2) := by decide +kernel
theorem d_Law_law_982 : decode code 982 = .ok (.ifCond .ne 15, 3) := by decide +kernel
theorem d_Law_law_985 : decode code 985 = .ok (.aload_n 3, 1) := by decide +kernel
theorem d_Law_law_986 : decode code 986 = .ok (.iconst 0, 1) := by decide +kernel
theorem d_Law_law_987 : decode code 987 = .ok (.laload, 1) := by decide +kernel
theorem d_Law_law_988 : decode code 988 = .ok (.iload 6, 2) := by decide +kernel
theorem d_Law_law_990 : decode code 990 = .ok (.i2l, 1) := by decide +kernel
theorem d_Law_law_991 : decode code 991 = .ok (.lcmp, 1) := by decide +kernel
theorem d_Law_law_992 : decode code 992 = .ok (.ifCond .eq 5, 3) := by decide +kernel
theorem d_Law_law_995 : decode code 995 = .ok (.iconst 0, 1) := by decide +kernel
theorem d_Law_law_996 : decode code 996 = .ok (.ireturn, 1) := by decide +kernel
theorem d_Law_law_997 : decode code 997 = .ok (.goto 533, 3) := by decide +kernel
theorem d_Law_law_1000 : decode code 1000 = .ok (.aload_n 1, 1) := by decide +kernel
theorem d_Law_law_1001 : decode code 1001 = .ok (.aload_n 0, 1) := by decide +kernel
theorem d_Law_law_1002 : decode code 1002 = .ok (.iload 4, 2) := by decide +kernel
theorem d_Law_law_1004 : decode code 1004 = .ok (.iconst 1, 1) := by decide +kernel
theorem d_Law_law_1005 : decode code 1005 = .ok (.iadd, 1) := by decide +kernel
theorem d_Law_law_1006 : decode code 1006 = .ok (.iaload, 1) := by decide +kernel
theorem d_Law_law_1007 : decode code 1007 = .ok (.aload_n 0, 1) := by decide +kernel
theorem d_Law_law_1008 : decode code 1008 = .ok (.iload 4, 2) := by decide +kernel
theorem d_Law_law_1010 : decode code 1010 = .ok (.iconst 2, 1) := by decide +kernel
theorem d_Law_law_1011 : decode code 1011 = .ok (.iadd, 1) := by decide +kernel
theorem d_Law_law_1012 : decode code 1012 = .ok (.iaload, 1) := by decide +kernel
theorem d_Law_law_1013 : decode code 1013 = .ok (.aload_n 3, 1) := by decide +kernel
theorem d_Law_law_1014 : decode code 1014 = .ok (.invokestatic 142, 3) := by decide +kernel
theorem d_Law_law_1017 : decode code 1017 = .ok (.istore 5, 2) := by decide +kernel
theorem d_Law_law_1019 : decode code 1019 = .ok (.aload_n 2, 1) := by decide +kernel
theorem d_Law_law_1020 : decode code 1020 = .ok (.aload_n 0, 1) := by decide +kernel
theorem d_Law_law_1021 : decode code 1021 = .ok (.iload 4, 2) := by decide +kernel
theorem d_Law_law_1023 : decode code 1023 = .ok (.iconst 1, 1) := by decide +kernel
theorem d_Law_law_1024 : decode code 1024 = .ok (.iadd, 1) := by decide +kernel
theorem d_Law_law_1025 : decode code 1025 = .ok (.iaload, 1) := by decide +kernel
theorem d_Law_law_1026 : decode code 1026 = .ok (.aload_n 0, 1) := by decide +kernel
theorem d_Law_law_1027 : decode code 1027 = .ok (.iload 4, 2) := by decide +kernel
theorem d_Law_law_1029 : decode code 1029 = .ok (.iconst 2, 1) := by decide +kernel
theorem d_Law_law_1030 : decode code 1030 = .ok (.iadd, 1) := by decide +kernel
theorem d_Law_law_1031 : decode code 1031 = .ok (.iaload, 1) := by decide +kernel
theorem d_Law_law_1032 : decode code 1032 = .ok (.invokevirtual 144, 3) := by decide +kernel
theorem d_Law_law_1035 : decode code 1035 = .ok (.istore 6, 2) := by decide +kernel
theorem d_Law_law_1037 : decode code 1037 = .ok (.aload_n 2, 1) := by decide +kernel
theorem d_Law_law_1038 : decode code 1038 = .ok (.invokevirtual 96, 3) := by decide +kernel
theorem d_Law_law_1041 : decode code 1041 = .ok (.iload 5, 2) := by decide +kernel
theorem d_Law_law_1043 : decode code 1043 = .ok (.if_icmp .eq 5, 3) := by decide +kernel
theorem d_Law_law_1046 : decode code 1046 = .ok (.iconst 0, 1) := by decide +kernel
theorem d_Law_law_1047 : decode code 1047 = .ok (.ireturn, 1) := by decide +kernel
theorem d_Law_law_1048 : decode code 1048 = .ok (.iload 5, 2) := by decide +kernel
theorem d_Law_law_1050 : decode code 1050 = .ok (.ifCond .ne 15, 3) := by decide +kernel
theorem d_Law_law_1053 : decode code 1053 = .ok (.aload_n 3, 1) := by decide +kernel
theorem d_Law_law_1054 : decode code 1054 = .ok (.iconst 0, 1) := by decide +kernel
theorem d_Law_law_1055 : decode code 1055 = .ok (.laload, 1) := by decide +kernel
theorem d_Law_law_1056 : decode code 1056 = .ok (.iload 6, 2) := by decide +kernel
theorem d_Law_law_1058 : decode code 1058 = .ok (.i2l, 1) := by decide +kernel
theorem d_Law_law_1059 : decode code 1059 = .ok (.lcmp, 1) := by decide +kernel
theorem d_Law_law_1060 : decode code 1060 = .ok (.ifCond .eq 5, 3) := by decide +kernel
theorem d_Law_law_1063 : decode code 1063 = .ok (.iconst 0, 1) := by decide +kernel
theorem d_Law_law_1064 : decode code 1064 = .ok (.ireturn, 1) := by decide +kernel
theorem d_Law_law_1065 : decode code 1065 = .ok (.goto 465, 3) := by decide +kernel
theorem d_Law_law_1068 : decode code 1068 = .ok (.aload_n 1, 1) := by decide +kernel
theorem d_Law_law_1069 : decode code 1069 = .ok (.aload_n 0, 1) := by decide +kernel
theorem d_Law_law_1070 : decode code 1070 = .ok (.iload 4, 2) := by decide +kernel
theorem d_Law_law_1072 : decode code 1072 = .ok (.iconst 1, 1) := by decide +kernel
theorem d_Law_law_1073 : decode code 1073 = .ok (.iadd, 1) := by decide +kernel
theorem d_Law_law_1074 : decode code 1074 = .ok (.iaload, 1) := by decide +kernel
theorem d_Law_law_1075 : decode code 1075 = .ok (.aload_n 0, 1) := by decide +kernel
theorem d_Law_law_1076 : decode code 1076 = .ok (.iload 4, 2) := by decide +kernel
theorem d_Law_law_1078 : decode code 1078 = .ok (.iconst 2, 1) := by decide +kernel
theorem d_Law_law_1079 : decode code 1079 = .ok (.iadd, 1) := by decide +kernel
theorem d_Law_law_1080 : decode code 1080 = .ok (.iaload, 1) := by decide +kernel
theorem d_Law_law_1081 : decode code 1081 = .ok (.aload_n 0, 1) := by decide +kernel
theorem d_Law_law_1082 : decode code 1082 = .ok (.iload 4, 2) := by decide +kernel
theorem d_Law_law_1084 : decode code 1084 = .ok (.iconst 3, 1) := by decide +kernel
theorem d_Law_law_1085 : decode code 1085 = .ok (.iadd, 1) := by decide +kernel
theorem d_Law_law_1086 : decode code 1086 = .ok (.iaload, 1) := by decide +kernel
theorem d_Law_law_1087 : decode code 1087 = .ok (.aload_n 0, 1) := by decide +kernel
theorem d_Law_law_1088 : decode code 1088 = .ok (.iload 4, 2) := by decide +kernel
theorem d_Law_law_1090 : decode code 1090 = .ok (.iconst 4, 1) := by decide +kernel
theorem d_Law_law_1091 : decode code 1091 = .ok (.iadd, 1) := by decide +kernel
theorem d_Law_law_1092 : decode code 1092 = .ok (.iaload, 1) := by decide +kernel
theorem d_Law_law_1093 : decode code 1093 = .ok (.aload_n 3, 1) := by decide +kernel
theorem d_Law_law_1094 : decode code 1094 = .ok (.invokestatic 145, 3) := by decide +kernel
theorem d_Law_law_1097 : decode code 1097 = .ok (.istore 5, 2) := by decide +kernel
theorem d_Law_law_1099 : decode code 1099 = .ok (.aload_n 2, 1) := by decide +kernel
theorem d_Law_law_1100 : decode code 1100 = .ok (.aload_n 0, 1) := by decide +kernel
theorem d_Law_law_1101 : decode code 1101 = .ok (.iload 4, 2) := by decide +kernel
theorem d_Law_law_1103 : decode code 1103 = .ok (.iconst 1, 1) := by decide +kernel
theorem d_Law_law_1104 : decode code 1104 = .ok (.iadd, 1) := by decide +kernel
theorem d_Law_law_1105 : decode code 1105 = .ok (.iaload, 1) := by decide +kernel
theorem d_Law_law_1106 : decode code 1106 = .ok (.aload_n 0, 1) := by decide +kernel
theorem d_Law_law_1107 : decode code 1107 = .ok (.iload 4, 2) := by decide +kernel
theorem d_Law_law_1109 : decode code 1109 = .ok (.iconst 2, 1) := by decide +kernel
theorem d_Law_law_1110 : decode code 1110 = .ok (.iadd, 1) := by decide +kernel
theorem d_Law_law_1111 : decode code 1111 = .ok (.iaload, 1) := by decide +kernel
theorem d_Law_law_1112 : decode code 1112 = .ok (.aload_n 0, 1) := by decide +kernel
theorem d_Law_law_1113 : decode code 1113 = .ok (.iload 4, 2) := by decide +kernel
theorem d_Law_law_1115 : decode code 1115 = .ok (.iconst 3, 1) := by decide +kernel
theorem d_Law_law_1116 : decode code 1116 = .ok (.iadd, 1) := by decide +kernel
theorem d_Law_law_1117 : decode code 1117 = .ok (.iaload, 1) := by decide +kernel
theorem d_Law_law_1118 : decode code 1118 = .ok (.aload_n 0, 1) := by decide +kernel
theorem d_Law_law_1119 : decode code 1119 = .ok (.iload 4, 2) := by decide +kernel
theorem d_Law_law_1121 : decode code 1121 = .ok (.iconst 4, 1) := by decide +kernel
theorem d_Law_law_1122 : decode code 1122 = .ok (.iadd, 1) := by decide +kernel
theorem d_Law_law_1123 : decode code 1123 = .ok (.iaload, 1) := by decide +kernel
theorem d_Law_law_1124 : decode code 1124 = .ok (.invokevirtual 147, 3) := by decide +kernel
theorem d_Law_law_1127 : decode code 1127 = .ok (.istore 6, 2) := by decide +kernel
theorem d_Law_law_1129 : decode code 1129 = .ok (.aload_n 2, 1) := by decide +kernel
theorem d_Law_law_1130 : decode code 1130 = .ok (.invokevirtual 96, 3) := by decide +kernel
theorem d_Law_law_1133 : decode code 1133 = .ok (.iload 5, 2) := by decide +kernel
theorem d_Law_law_1135 : decode code 1135 = .ok (.if_icmp .eq 5, 3) := by decide +kernel
theorem d_Law_law_1138 : decode code 1138 = .ok (.iconst 0, 1) := by decide +kernel
theorem d_Law_law_1139 : decode code 1139 = .ok (.ireturn, 1) := by decide +kernel
theorem d_Law_law_1140 : decode code 1140 = .ok (.iload 5, 2) := by decide +kernel
theorem d_Law_law_1142 : decode code 1142 = .ok (.ifCond .ne 15, 3) := by decide +kernel
theorem d_Law_law_1145 : decode code 1145 = .ok (.aload_n 3, 1) := by decide +kernel
theorem d_Law_law_1146 : decode code 1146 = .ok (.iconst 0, 1) := by decide +kernel
theorem d_Law_law_1147 : decode code 1147 = .ok (.laload, 1) := by decide +kernel
theorem d_Law_law_1148 : decode code 1148 = .ok (.iload 6, 2) := by decide +kernel
theorem d_Law_law_1150 : decode code 1150 = .ok (.i2l, 1) := by decide +kernel
theorem d_Law_law_1151 : decode code 1151 = .ok (.lcmp, 1) := by decide +kernel
theorem d_Law_law_1152 : decode code 1152 = .ok (.ifCond .eq 5, 3) := by decide +kernel
theorem d_Law_law_1155 : decode code 1155 = .ok (.iconst 0, 1) := by decide +kernel
theorem d_Law_law_1156 : decode code 1156 = .ok (.ireturn, 1) := by decide +kernel
theorem d_Law_law_1157 : decode code 1157 = .ok (.goto 373, 3) := by decide +kernel
theorem d_Law_law_1160 : decode code 1160 = .ok (.aload_n 1, 1) := by decide +kernel
theorem d_Law_law_1161 : decode code 1161 = .ok (.aload_n 0, 1) := by decide +kernel
theorem d_Law_law_1162 : decode code 1162 = .ok (.iload 4, 2) := by decide +kernel
theorem d_Law_law_1164 : decode code 1164 = .ok (.iconst 1, 1) := by decide +kernel
theorem d_Law_law_1165 : decode code 1165 = .ok (.iadd, 1) := by decide +kernel
theorem d_Law_law_1166 : decode code 1166 = .ok (.iaload, 1) := by decide +kernel
theorem d_Law_law_1167 : decode code 1167 = .ok (.aload_n 0, 1) := by decide +kernel
theorem d_Law_law_1168 : decode code 1168 = .ok (.iload 4, 2) := by decide +kernel
theorem d_Law_law_1170 : decode code 1170 = .ok (.iconst 2, 1) := by decide +kernel
theorem d_Law_law_1171 : decode code 1171 = .ok (.iadd, 1) := by decide +kernel
theorem d_Law_law_1172 : decode code 1172 = .ok (.iaload, 1) := by decide +kernel
theorem d_Law_law_1173 : decode code 1173 = .ok (.aload_n 0, 1) := by decide +kernel
theorem d_Law_law_1174 : decode code 1174 = .ok (.iload 4, 2) := by decide +kernel
theorem d_Law_law_1176 : decode code 1176 = .ok (.iconst 3, 1) := by decide +kernel
theorem d_Law_law_1177 : decode code 1177 = .ok (.iadd, 1) := by decide +kernel
theorem d_Law_law_1178 : decode code 1178 = .ok (.iaload, 1) := by decide +kernel
theorem d_Law_law_1179 : decode code 1179 = .ok (.aload_n 0, 1) := by decide +kernel
theorem d_Law_law_1180 : decode code 1180 = .ok (.iload 4, 2) := by decide +kernel
theorem d_Law_law_1182 : decode code 1182 = .ok (.iconst 4, 1) := by decide +kernel
theorem d_Law_law_1183 : decode code 1183 = .ok (.iadd, 1) := by decide +kernel
theorem d_Law_law_1184 : decode code 1184 = .ok (.iaload, 1) := by decide +kernel
theorem d_Law_law_1185 : decode code 1185 = .ok (.aload_n 0, 1) := by decide +kernel
theorem d_Law_law_1186 : decode code 1186 = .ok (.iload 4, 2) := by decide +kernel
theorem d_Law_law_1188 : decode code 1188 = .ok (.iconst 5, 1) := by decide +kernel
theorem d_Law_law_1189 : decode code 1189 = .ok (.iadd, 1) := by decide +kernel
theorem d_Law_law_1190 : decode code 1190 = .ok (.iaload, 1) := by decide +kernel
theorem d_Law_law_1191 : decode code 1191 = .ok (.aload_n 3, 1) := by decide +kernel
theorem d_Law_law_1192 : decode code 1192 = .ok (.invokestatic 148, 3) := by decide +kernel
theorem d_Law_law_1195 : decode code 1195 = .ok (.istore 5, 2) := by decide +kernel
theorem d_Law_law_1197 : decode code 1197 = .ok (.aload_n 2, 1) := by decide +kernel
theorem d_Law_law_1198 : decode code 1198 = .ok (.aload_n 0, 1) := by decide +kernel
theorem d_Law_law_1199 : decode code 1199 = .ok (.iload 4, 2) := by decide +kernel
theorem d_Law_law_1201 : decode code 1201 = .ok (.iconst 1, 1) := by decide +kernel
theorem d_Law_law_1202 : decode code 1202 = .ok (.iadd, 1) := by decide +kernel
theorem d_Law_law_1203 : decode code 1203 = .ok (.iaload, 1) := by decide +kernel
theorem d_Law_law_1204 : decode code 1204 = .ok (.aload_n 0, 1) := by decide +kernel
theorem d_Law_law_1205 : decode code 1205 = .ok (.iload 4, 2) := by decide +kernel
theorem d_Law_law_1207 : decode code 1207 = .ok (.iconst 2, 1) := by decide +kernel
theorem d_Law_law_1208 : decode code 1208 = .ok (.iadd, 1) := by decide +kernel
theorem d_Law_law_1209 : decode code 1209 = .ok (.iaload, 1) := by decide +kernel
theorem d_Law_law_1210 : decode code 1210 = .ok (.aload_n 0, 1) := by decide +kernel
theorem d_Law_law_1211 : decode code 1211 = .ok (.iload 4, 2) := by decide +kernel
theorem d_Law_law_1213 : decode code 1213 = .ok (.iconst 3, 1) := by decide +kernel
theorem d_Law_law_1214 : decode code 1214 = .ok (.iadd, 1) := by decide +kernel
theorem d_Law_law_1215 : decode code 1215 = .ok (.iaload, 1) := by decide +kernel
theorem d_Law_law_1216 : decode code 1216 = .ok (.aload_n 0, 1) := by decide +kernel
theorem d_Law_law_1217 : decode code 1217 = .ok (.iload 4, 2) := by decide +kernel
theorem d_Law_law_1219 : decode code 1219 = .ok (.iconst 4, 1) := by decide +kernel
theorem d_Law_law_1220 : decode code 1220 = .ok (.iadd, 1) := by decide +kernel
theorem d_Law_law_1221 : decode code 1221 = .ok (.iaload, 1) := by decide +kernel
theorem d_Law_law_1222 : decode code 1222 = .ok (.aload_n 0, 1) := by decide +kernel
theorem d_Law_law_1223 : decode code 1223 = .ok (.iload 4, 2) := by decide +kernel
theorem d_Law_law_1225 : decode code 1225 = .ok (.iconst 5, 1) := by decide +kernel
theorem d_Law_law_1226 : decode code 1226 = .ok (.iadd, 1) := by decide +kernel
theorem d_Law_law_1227 : decode code 1227 = .ok (.iaload, 1) := by decide +kernel
theorem d_Law_law_1228 : decode code 1228 = .ok (.invokevirtual 151, 3) := by decide +kernel
theorem d_Law_law_1231 : decode code 1231 = .ok (.istore 6, 2) := by decide +kernel
theorem d_Law_law_1233 : decode code 1233 = .ok (.aload_n 2, 1) := by decide +kernel
theorem d_Law_law_1234 : decode code 1234 = .ok (.invokevirtual 96, 3) := by decide +kernel
theorem d_Law_law_1237 : decode code 1237 = .ok (.iload 5, 2) := by decide +kernel
theorem d_Law_law_1239 : decode code 1239 = .ok (.if_icmp .eq 5, 3) := by decide +kernel
theorem d_Law_law_1242 : decode code 1242 = .ok (.iconst 0, 1) := by decide +kernel
theorem d_Law_law_1243 : decode code 1243 = .ok (.ireturn, 1) := by decide +kernel
theorem d_Law_law_1244 : decode code 1244 = .ok (.iload 5, 2) := by decide +kernel
theorem d_Law_law_1246 : decode code 1246 = .ok (.ifCond .ne 22, 3) := by decide +kernel
theorem d_Law_law_1249 : decode code 1249 = .ok (.aload_n 3, 1) := by decide +kernel
theorem d_Law_law_1250 : decode code 1250 = .ok (.iconst 0, 1) := by decide +kernel
theorem d_Law_law_1251 : decode code 1251 = .ok (.laload, 1) := by decide +kernel
theorem d_Law_law_1252 : decode code 1252 = .ok (.iload 6, 2) := by decide +kernel
theorem d_Law_law_1254 : decode code 1254 = .ok (.ifCond .eq 7, 3) := by decide +kernel
theorem d_Law_law_1257 : decode code 1257 = .ok (.lconst 1, 1) := by decide +kernel
theorem d_Law_law_1258 : decode code 1258 = .ok (.goto 4, 3) := by decide +kernel
theorem d_Law_law_1261 : decode code 1261 = .ok (.lconst 0, 1) := by decide +kernel
theorem d_Law_law_1262 : decode code 1262 = .ok (.lcmp, 1) := by decide +kernel
theorem d_Law_law_1263 : decode code 1263 = .ok (.ifCond .eq 5, 3) := by decide +kernel
theorem d_Law_law_1266 : decode code 1266 = .ok (.iconst 0, 1) := by decide +kernel
theorem d_Law_law_1267 : decode code 1267 = .ok (.ireturn, 1) := by decide +kernel
theorem d_Law_law_1268 : decode code 1268 = .ok (.goto 262, 3) := by decide +kernel
theorem d_Law_law_1271 : decode code 1271 = .ok (.aload_n 1, 1) := by decide +kernel
theorem d_Law_law_1272 : decode code 1272 = .ok (.aload_n 0, 1) := by decide +kernel
theorem d_Law_law_1273 : decode code 1273 = .ok (.iload 4, 2) := by decide +kernel
theorem d_Law_law_1275 : decode code 1275 = .ok (.iconst 1, 1) := by decide +kernel
theorem d_Law_law_1276 : decode code 1276 = .ok (.iadd, 1) := by decide +kernel
theorem d_Law_law_1277 : decode code 1277 = .ok (.iaload, 1) := by decide +kernel
theorem d_Law_law_1278 : decode code 1278 = .ok (.aload_n 0, 1) := by decide +kernel
theorem d_Law_law_1279 : decode code 1279 = .ok (.iload 4, 2) := by decide +kernel
theorem d_Law_law_1281 : decode code 1281 = .ok (.iconst 2, 1) := by decide +kernel
theorem d_Law_law_1282 : decode code 1282 = .ok (.iadd, 1) := by decide +kernel
theorem d_Law_law_1283 : decode code 1283 = .ok (.iaload, 1) := by decide +kernel
theorem d_Law_law_1284 : decode code 1284 = .ok (.aload_n 0, 1) := by decide +kernel
theorem d_Law_law_1285 : decode code 1285 = .ok (.iload 4, 2) := by decide +kernel
theorem d_Law_law_1287 : decode code 1287 = .ok (.iconst 3, 1) := by decide +kernel
theorem d_Law_law_1288 : decode code 1288 = .ok (.iadd, 1) := by decide +kernel
theorem d_Law_law_1289 : decode code 1289 = .ok (.iaload, 1) := by decide +kernel
theorem d_Law_law_1290 : decode code 1290 = .ok (.aload_n 0, 1) := by decide +kernel
theorem d_Law_law_1291 : decode code 1291 = .ok (.iload 4, 2) := by decide +kernel
theorem d_Law_law_1293 : decode code 1293 = .ok (.iconst 4, 1) := by decide +kernel
theorem d_Law_law_1294 : decode code 1294 = .ok (.iadd, 1) := by decide +kernel
theorem d_Law_law_1295 : decode code 1295 = .ok (.iaload, 1) := by decide +kernel
theorem d_Law_law_1296 : decode code 1296 = .ok (.aload_n 3, 1) := by decide +kernel
theorem d_Law_law_1297 : decode code 1297 = .ok (.invokestatic 152, 3) := by decide +kernel
theorem d_Law_law_1300 : decode code 1300 = .ok (.istore 5, 2) := by decide +kernel
theorem d_Law_law_1302 : decode code 1302 = .ok (.aload_n 2, 1) := by decide +kernel
theorem d_Law_law_1303 : decode code 1303 = .ok (.aload_n 0, 1) := by decide +kernel
theorem d_Law_law_1304 : decode code 1304 = .ok (.iload 4, 2) := by decide +kernel
theorem d_Law_law_1306 : decode code 1306 = .ok (.iconst 1, 1) := by decide +kernel
theorem d_Law_law_1307 : decode code 1307 = .ok (.iadd, 1) := by decide +kernel
theorem d_Law_law_1308 : decode code 1308 = .ok (.iaload, 1) := by decide +kernel
theorem d_Law_law_1309 : decode code 1309 = .ok (.aload_n 0, 1) := by decide +kernel
theorem d_Law_law_1310 : decode code 1310 = .ok (.iload 4, 2) := by decide +kernel
theorem d_Law_law_1312 : decode code 1312 = .ok (.iconst 2, 1) := by decide +kernel
theorem d_Law_law_1313 : decode code 1313 = .ok (.iadd, 1) := by decide +kernel
theorem d_Law_law_1314 : decode code 1314 = .ok (.iaload, 1) := by decide +kernel
theorem d_Law_law_1315 : decode code 1315 = .ok (.aload_n 0, 1) := by decide +kernel
theorem d_Law_law_1316 : decode code 1316 = .ok (.iload 4, 2) := by decide +kernel
theorem d_Law_law_1318 : decode code 1318 = .ok (.iconst 3, 1) := by decide +kernel
theorem d_Law_law_1319 : decode code 1319 = .ok (.iadd, 1) := by decide +kernel
theorem d_Law_law_1320 : decode code 1320 = .ok (.iaload, 1) := by decide +kernel
theorem d_Law_law_1321 : decode code 1321 = .ok (.aload_n 0, 1) := by decide +kernel
theorem d_Law_law_1322 : decode code 1322 = .ok (.iload 4, 2) := by decide +kernel
theorem d_Law_law_1324 : decode code 1324 = .ok (.iconst 4, 1) := by decide +kernel
theorem d_Law_law_1325 : decode code 1325 = .ok (.iadd, 1) := by decide +kernel
theorem d_Law_law_1326 : decode code 1326 = .ok (.iaload, 1) := by decide +kernel
theorem d_Law_law_1327 : decode code 1327 = .ok (.invokevirtual 154, 3) := by decide +kernel
theorem d_Law_law_1330 : decode code 1330 = .ok (.istore 6, 2) := by decide +kernel
theorem d_Law_law_1332 : decode code 1332 = .ok (.aload_n 2, 1) := by decide +kernel
theorem d_Law_law_1333 : decode code 1333 = .ok (.invokevirtual 96, 3) := by decide +kernel
theorem d_Law_law_1336 : decode code 1336 = .ok (.iload 5, 2) := by decide +kernel
theorem d_Law_law_1338 : decode code 1338 = .ok (.if_icmp .eq 5, 3) := by decide +kernel
theorem d_Law_law_1341 : decode code 1341 = .ok (.iconst 0, 1) := by decide +kernel
theorem d_Law_law_1342 : decode code 1342 = .ok (.ireturn, 1) := by decide +kernel
theorem d_Law_law_1343 : decode code 1343 = .ok (.iload 5, 2) := by decide +kernel
theorem d_Law_law_1345 : decode code 1345 = .ok (.ifCond .ne 15, 3) := by decide +kernel
theorem d_Law_law_1348 : decode code 1348 = .ok (.aload_n 3, 1) := by decide +kernel
theorem d_Law_law_1349 : decode code 1349 = .ok (.iconst 0, 1) := by decide +kernel
theorem d_Law_law_1350 : decode code 1350 = .ok (.laload, 1) := by decide +kernel
theorem d_Law_law_1351 : decode code 1351 = .ok (.iload 6, 2) := by decide +kernel
theorem d_Law_law_1353 : decode code 1353 = .ok (.i2l, 1) := by decide +kernel
theorem d_Law_law_1354 : decode code 1354 = .ok (.lcmp, 1) := by decide +kernel
theorem d_Law_law_1355 : decode code 1355 = .ok (.ifCond .eq 5, 3) := by decide +kernel
theorem d_Law_law_1358 : decode code 1358 = .ok (.iconst 0, 1) := by decide +kernel
theorem d_Law_law_1359 : decode code 1359 = .ok (.ireturn, 1) := by decide +kernel
theorem d_Law_law_1360 : decode code 1360 = .ok (.goto 170, 3) := by decide +kernel
theorem d_Law_law_1363 : decode code 1363 = .ok (.aload_n 1, 1) := by decide +kernel
theorem d_Law_law_1364 : decode code 1364 = .ok (.aload_n 0, 1) := by decide +kernel
theorem d_Law_law_1365 : decode code 1365 = .ok (.iload 4, 2) := by decide +kernel
theorem d_Law_law_1367 : decode code 1367 = .ok (.iconst 1, 1) := by decide +kernel
theorem d_Law_law_1368 : decode code 1368 = .ok (.iadd, 1) := by decide +kernel
theorem d_Law_law_1369 : decode code 1369 = .ok (.iaload, 1) := by decide +kernel
theorem d_Law_law_1370 : decode code 1370 = .ok (.aload_n 0, 1) := by decide +kernel
theorem d_Law_law_1371 : decode code 1371 = .ok (.iload 4, 2) := by decide +kernel
theorem d_Law_law_1373 : decode code 1373 = .ok (.iconst 2, 1) := by decide +kernel
theorem d_Law_law_1374 : decode code 1374 = .ok (.iadd, 1) := by decide +kernel
theorem d_Law_law_1375 : decode code 1375 = .ok (.iaload, 1) := by decide +kernel
theorem d_Law_law_1376 : decode code 1376 = .ok (.invokestatic 155, 3) := by decide +kernel
theorem d_Law_law_1379 : decode code 1379 = .ok (.istore 5, 2) := by decide +kernel
theorem d_Law_law_1381 : decode code 1381 = .ok (.aload_n 2, 1) := by decide +kernel
theorem d_Law_law_1382 : decode code 1382 = .ok (.aload_n 0, 1) := by decide +kernel
theorem d_Law_law_1383 : decode code 1383 = .ok (.iload 4, 2) := by decide +kernel
theorem d_Law_law_1385 : decode code 1385 = .ok (.iconst 1, 1) := by decide +kernel
theorem d_Law_law_1386 : decode code 1386 = .ok (.iadd, 1) := by decide +kernel
theorem d_Law_law_1387 : decode code 1387 = .ok (.iaload, 1) := by decide +kernel
theorem d_Law_law_1388 : decode code 1388 = .ok (.aload_n 0, 1) := by decide +kernel
theorem d_Law_law_1389 : decode code 1389 = .ok (.iload 4, 2) := by decide +kernel
theorem d_Law_law_1391 : decode code 1391 = .ok (.iconst 2, 1) := by decide +kernel
theorem d_Law_law_1392 : decode code 1392 = .ok (.iadd, 1) := by decide +kernel
theorem d_Law_law_1393 : decode code 1393 = .ok (.iaload, 1) := by decide +kernel
theorem d_Law_law_1394 : decode code 1394 = .ok (.invokevirtual 157, 3) := by decide +kernel
theorem d_Law_law_1397 : decode code 1397 = .ok (.aload_n 2, 1) := by decide +kernel
theorem d_Law_law_1398 : decode code 1398 = .ok (.invokevirtual 96, 3) := by decide +kernel
theorem d_Law_law_1401 : decode code 1401 = .ok (.iload 5, 2) := by decide +kernel
theorem d_Law_law_1403 : decode code 1403 = .ok (.if_icmp .eq 5, 3) := by decide +kernel
theorem d_Law_law_1406 : decode code 1406 = .ok (.iconst 0, 1) := by decide +kernel
theorem d_Law_law_1407 : decode code 1407 = .ok (.ireturn, 1) := by decide +kernel
theorem d_Law_law_1408 : decode code 1408 = .ok (.goto 122, 3) := by decide +kernel
theorem d_Law_law_1411 : decode code 1411 = .ok (.aload_n 1, 1) := by decide +kernel
theorem d_Law_law_1412 : decode code 1412 = .ok (.aload_n 0, 1) := by decide +kernel
theorem d_Law_law_1413 : decode code 1413 = .ok (.iload 4, 2) := by decide +kernel
theorem d_Law_law_1415 : decode code 1415 = .ok (.iconst 1, 1) := by decide +kernel
theorem d_Law_law_1416 : decode code 1416 = .ok (.iadd, 1) := by decide +kernel
theorem d_Law_law_1417 : decode code 1417 = .ok (.iaload, 1) := by decide +kernel
theorem d_Law_law_1418 : decode code 1418 = .ok (.aload_n 3, 1) := by decide +kernel
theorem d_Law_law_1419 : decode code 1419 = .ok (.invokestatic 158, 3) := by decide +kernel
theorem d_Law_law_1422 : decode code 1422 = .ok (.istore 5, 2) := by decide +kernel
theorem d_Law_law_1424 : decode code 1424 = .ok (.aload_n 2, 1) := by decide +kernel
theorem d_Law_law_1425 : decode code 1425 = .ok (.aload_n 0, 1) := by decide +kernel
theorem d_Law_law_1426 : decode code 1426 = .ok (.iload 4, 2) := by decide +kernel
theorem d_Law_law_1428 : decode code 1428 = .ok (.iconst 1, 1) := by decide +kernel
theorem d_Law_law_1429 : decode code 1429 = .ok (.iadd, 1) := by decide +kernel
theorem d_Law_law_1430 : decode code 1430 = .ok (.iaload, 1) := by decide +kernel
theorem d_Law_law_1431 : decode code 1431 = .ok (.invokevirtual 160, 3) := by decide +kernel
theorem d_Law_law_1434 : decode code 1434 = .ok (.istore 6, 2) := by decide +kernel
theorem d_Law_law_1436 : decode code 1436 = .ok (.aload_n 2, 1) := by decide +kernel
theorem d_Law_law_1437 : decode code 1437 = .ok (.invokevirtual 96, 3) := by decide +kernel
theorem d_Law_law_1440 : decode code 1440 = .ok (.iload 5, 2) := by decide +kernel
theorem d_Law_law_1442 : decode code 1442 = .ok (.if_icmp .eq 5, 3) := by decide +kernel
theorem d_Law_law_1445 : decode code 1445 = .ok (.iconst 0, 1) := by decide +kernel
theorem d_Law_law_1446 : decode code 1446 = .ok (.ireturn, 1) := by decide +kernel
theorem d_Law_law_1447 : decode code 1447 = .ok (.iload 5, 2) := by decide +kernel
theorem d_Law_law_1449 : decode code 1449 = .ok (.ifCond .ne 22, 3) := by decide +kernel
theorem d_Law_law_1452 : decode code 1452 = .ok (.aload_n 3, 1) := by decide +kernel
theorem d_Law_law_1453 : decode code 1453 = .ok (.iconst 0, 1) := by decide +kernel
theorem d_Law_law_1454 : decode code 1454 = .ok (.laload, 1) := by decide +kernel
theorem d_Law_law_1455 : decode code 1455 = .ok (.iload 6, 2) := by decide +kernel
theorem d_Law_law_1457 : decode code 1457 = .ok (.ifCond .eq 7, 3) := by decide +kernel
theorem d_Law_law_1460 : decode code 1460 = .ok (.lconst 1, 1) := by decide +kernel
theorem d_Law_law_1461 : decode code 1461 = .ok (.goto 4, 3) := by decide +kernel
theorem d_Law_law_1464 : decode code 1464 = .ok (.lconst 0, 1) := by decide +kernel
theorem d_Law_law_1465 : decode code 1465 = .ok (.lcmp, 1) := by decide +kernel
theorem d_Law_law_1466 : decode code 1466 = .ok (.ifCond .eq 5, 3) := by decide +kernel
theorem d_Law_law_1469 : decode code 1469 = .ok (.iconst 0, 1) := by decide +kernel
theorem d_Law_law_1470 : decode code 1470 = .ok (.ireturn, 1) := by decide +kernel
theorem d_Law_law_1471 : decode code 1471 = .ok (.goto 59, 3) := by decide +kernel
theorem d_Law_law_1474 : decode code 1474 = .ok (.aload_n 1, 1) := by decide +kernel
theorem d_Law_law_1475 : decode code 1475 = .ok (.aload_n 0, 1) := by decide +kernel
theorem d_Law_law_1476 : decode code 1476 = .ok (.iload 4, 2) := by decide +kernel
theorem d_Law_law_1478 : decode code 1478 = .ok (.iconst 1, 1) := by decide +kernel
theorem d_Law_law_1479 : decode code 1479 = .ok (.iadd, 1) := by decide +kernel
theorem d_Law_law_1480 : decode code 1480 = .ok (.iaload, 1) := by decide +kernel
theorem d_Law_law_1481 : decode code 1481 = .ok (.aload_n 3, 1) := by decide +kernel
theorem d_Law_law_1482 : decode code 1482 = .ok (.invokestatic 161, 3) := by decide +kernel
theorem d_Law_law_1485 : decode code 1485 = .ok (.istore 5, 2) := by decide +kernel
theorem d_Law_law_1487 : decode code 1487 = .ok (.aload_n 2, 1) := by decide +kernel
theorem d_Law_law_1488 : decode code 1488 = .ok (.aload_n 0, 1) := by decide +kernel
theorem d_Law_law_1489 : decode code 1489 = .ok (.iload 4, 2) := by decide +kernel
theorem d_Law_law_1491 : decode code 1491 = .ok (.iconst 1, 1) := by decide +kernel
theorem d_Law_law_1492 : decode code 1492 = .ok (.iadd, 1) := by decide +kernel
theorem d_Law_law_1493 : decode code 1493 = .ok (.iaload, 1) := by decide +kernel
theorem d_Law_law_1494 : decode code 1494 = .ok (.invokevirtual 163, 3) := by decide +kernel
theorem d_Law_law_1497 : decode code 1497 = .ok (.istore 6, 2) := by decide +kernel
theorem d_Law_law_1499 : decode code 1499 = .ok (.aload_n 2, 1) := by decide +kernel
theorem d_Law_law_1500 : decode code 1500 = .ok (.invokevirtual 96, 3) := by decide +kernel
theorem d_Law_law_1503 : decode code 1503 = .ok (.iload 5, 2) := by decide +kernel
theorem d_Law_law_1505 : decode code 1505 = .ok (.if_icmp .eq 5, 3) := by decide +kernel
theorem d_Law_law_1508 : decode code 1508 = .ok (.iconst 0, 1) := by decide +kernel
theorem d_Law_law_1509 : decode code 1509 = .ok (.ireturn, 1) := by decide +kernel
theorem d_Law_law_1510 : decode code 1510 = .ok (.iload 5, 2) := by decide +kernel
theorem d_Law_law_1512 : decode code 1512 = .ok (.ifCond .ne 15, 3) := by decide +kernel
theorem d_Law_law_1515 : decode code 1515 = .ok (.aload_n 3, 1) := by decide +kernel
theorem d_Law_law_1516 : decode code 1516 = .ok (.iconst 0, 1) := by decide +kernel
theorem d_Law_law_1517 : decode code 1517 = .ok (.laload, 1) := by decide +kernel
theorem d_Law_law_1518 : decode code 1518 = .ok (.iload 6, 2) := by decide +kernel
theorem d_Law_law_1520 : decode code 1520 = .ok (.i2l, 1) := by decide +kernel
theorem d_Law_law_1521 : decode code 1521 = .ok (.lcmp, 1) := by decide +kernel
theorem d_Law_law_1522 : decode code 1522 = .ok (.ifCond .eq 5, 3) := by decide +kernel
theorem d_Law_law_1525 : decode code 1525 = .ok (.iconst 0, 1) := by decide +kernel
theorem d_Law_law_1526 : decode code 1526 = .ok (.ireturn, 1) := by decide +kernel
theorem d_Law_law_1527 : decode code 1527 = .ok (.goto 3, 3) := by decide +kernel
theorem d_Law_law_1530 : decode code 1530 = .ok (.iinc 4 6, 3) := by decide +kernel
theorem d_Law_law_1533 : decode code 1533 = .ok (.goto (-1510), 3) := by decide +kernel
theorem d_Law_law_1536 : decode code 1536 = .ok (.iconst 1, 1) := by decide +kernel
theorem d_Law_law_1537 : decode code 1537 = .ok (.ireturn, 1) := by decide +kernel
