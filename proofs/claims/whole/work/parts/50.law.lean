/-! the law: its rows, its calls -/
theorem eL_0 : decode code 0 = .ok (.new 7, 3) := by decide +kernel
theorem eL_3 : decode code 3 = .ok (.dup, 1) := by decide +kernel
theorem eL_4 : decode code 4 = .ok (.invokespecial 9, 3) := by decide +kernel
theorem eL_7 : decode code 7 = .ok (.astore_n 1, 1) := by decide +kernel
theorem eL_8 : decode code 8 = .ok (.new 10, 3) := by decide +kernel
theorem eL_11 : decode code 11 = .ok (.dup, 1) := by decide +kernel
theorem eL_12 : decode code 12 = .ok (.invokespecial 12, 3) := by decide +kernel
theorem eL_15 : decode code 15 = .ok (.astore_n 2, 1) := by decide +kernel
theorem eL_16 : decode code 16 = .ok (.iconst 0, 1) := by decide +kernel
theorem eL_17 : decode code 17 = .ok (.istore_n 3, 1) := by decide +kernel
theorem eL_18 : decode code 18 = .ok (.iload_n 3, 1) := by decide +kernel
theorem eL_19 : decode code 19 = .ok (.aload_n 0, 1) := by decide +kernel
theorem eL_20 : decode code 20 = .ok (.arraylength, 1) := by decide +kernel
theorem eL_21 : decode code 21 = .ok (.iconst 4, 1) := by decide +kernel
theorem eL_22 : decode code 22 = .ok (.isub, 1) := by decide +kernel
theorem eL_23 : decode code 23 = .ok (.if_icmp .gt 775, 3) := by decide +kernel
theorem eL_26 : decode code 26 = .ok (.aload_n 0, 1) := by decide +kernel
theorem eL_27 : decode code 27 = .ok (.iload_n 3, 1) := by decide +kernel
theorem eL_28 : decode code 28 = .ok (.iaload, 1) := by decide +kernel
theorem eL_29 : decode code 29 = .ok (.bipush 31, 2) := by decide +kernel
theorem eL_31 : decode code 31 = .ok (.iand, 1) := by decide +kernel
theorem eL_32 : decode code 32 = .ok (.tableswitch 760 0 22 #[108, 171, 194, 207, 231, 254, 287, 300, 323, 336, 399, 422, 455, 508, 521, 544, 558, 621, 644, 658, 691, 714, 737], 108) := by decide +kernel
theorem eL_140 : decode code 140 = .ok (.aload_n 1, 1) := by decide +kernel
theorem eL_141 : decode code 141 = .ok (.aload_n 0, 1) := by decide +kernel
theorem eL_142 : decode code 142 = .ok (.iload_n 3, 1) := by decide +kernel
theorem eL_143 : decode code 143 = .ok (.iconst 1, 1) := by decide +kernel
theorem eL_144 : decode code 144 = .ok (.iadd, 1) := by decide +kernel
theorem eL_145 : decode code 145 = .ok (.iaload, 1) := by decide +kernel
theorem eL_146 : decode code 146 = .ok (.aload_n 0, 1) := by decide +kernel
theorem eL_147 : decode code 147 = .ok (.iload_n 3, 1) := by decide +kernel
theorem eL_148 : decode code 148 = .ok (.iconst 2, 1) := by decide +kernel
theorem eL_149 : decode code 149 = .ok (.iadd, 1) := by decide +kernel
theorem eL_150 : decode code 150 = .ok (.iaload, 1) := by decide +kernel
theorem eL_151 : decode code 151 = .ok (.i2l, 1) := by decide +kernel
theorem eL_152 : decode code 152 = .ok (.bipush 32, 2) := by decide +kernel
theorem eL_154 : decode code 154 = .ok (.lshl, 1) := by decide +kernel
theorem eL_155 : decode code 155 = .ok (.aload_n 0, 1) := by decide +kernel
theorem eL_156 : decode code 156 = .ok (.iload_n 3, 1) := by decide +kernel
theorem eL_157 : decode code 157 = .ok (.iconst 3, 1) := by decide +kernel
theorem eL_158 : decode code 158 = .ok (.iadd, 1) := by decide +kernel
theorem eL_159 : decode code 159 = .ok (.iaload, 1) := by decide +kernel
theorem eL_160 : decode code 160 = .ok (.i2l, 1) := by decide +kernel
theorem eL_161 : decode code 161 = .ok (.ldc2_w 13, 3) := by decide +kernel
theorem eL_164 : decode code 164 = .ok (.land, 1) := by decide +kernel
theorem eL_165 : decode code 165 = .ok (.lor, 1) := by decide +kernel
theorem eL_166 : decode code 166 = .ok (.invokevirtual 15, 3) := by decide +kernel
theorem eL_169 : decode code 169 = .ok (.aload_n 2, 1) := by decide +kernel
theorem eL_170 : decode code 170 = .ok (.aload_n 0, 1) := by decide +kernel
theorem eL_171 : decode code 171 = .ok (.iload_n 3, 1) := by decide +kernel
theorem eL_172 : decode code 172 = .ok (.iconst 1, 1) := by decide +kernel
theorem eL_173 : decode code 173 = .ok (.iadd, 1) := by decide +kernel
theorem eL_174 : decode code 174 = .ok (.iaload, 1) := by decide +kernel
theorem eL_175 : decode code 175 = .ok (.aload_n 0, 1) := by decide +kernel
theorem eL_176 : decode code 176 = .ok (.iload_n 3, 1) := by decide +kernel
theorem eL_177 : decode code 177 = .ok (.iconst 2, 1) := by decide +kernel
theorem eL_178 : decode code 178 = .ok (.iadd, 1) := by decide +kernel
theorem eL_179 : decode code 179 = .ok (.iaload, 1) := by decide +kernel
theorem eL_180 : decode code 180 = .ok (.i2l, 1) := by decide +kernel
theorem eL_181 : decode code 181 = .ok (.bipush 32, 2) := by decide +kernel
theorem eL_183 : decode code 183 = .ok (.lshl, 1) := by decide +kernel
theorem eL_184 : decode code 184 = .ok (.aload_n 0, 1) := by decide +kernel
theorem eL_185 : decode code 185 = .ok (.iload_n 3, 1) := by decide +kernel
theorem eL_186 : decode code 186 = .ok (.iconst 3, 1) := by decide +kernel
theorem eL_187 : decode code 187 = .ok (.iadd, 1) := by decide +kernel
theorem eL_188 : decode code 188 = .ok (.iaload, 1) := by decide +kernel
theorem eL_189 : decode code 189 = .ok (.i2l, 1) := by decide +kernel
theorem eL_190 : decode code 190 = .ok (.ldc2_w 13, 3) := by decide +kernel
theorem eL_193 : decode code 193 = .ok (.land, 1) := by decide +kernel
theorem eL_194 : decode code 194 = .ok (.lor, 1) := by decide +kernel
theorem eL_195 : decode code 195 = .ok (.invokevirtual 19, 3) := by decide +kernel
theorem eL_198 : decode code 198 = .ok (.if_icmp .eq 594, 3) := by decide +kernel
theorem eL_201 : decode code 201 = .ok (.iconst 0, 1) := by decide +kernel
theorem eL_202 : decode code 202 = .ok (.ireturn, 1) := by decide +kernel
theorem eL_203 : decode code 203 = .ok (.aload_n 1, 1) := by decide +kernel
theorem eL_204 : decode code 204 = .ok (.aload_n 0, 1) := by decide +kernel
theorem eL_205 : decode code 205 = .ok (.iload_n 3, 1) := by decide +kernel
theorem eL_206 : decode code 206 = .ok (.iconst 1, 1) := by decide +kernel
theorem eL_207 : decode code 207 = .ok (.iadd, 1) := by decide +kernel
theorem eL_208 : decode code 208 = .ok (.iaload, 1) := by decide +kernel
theorem eL_209 : decode code 209 = .ok (.invokevirtual 20, 3) := by decide +kernel
theorem eL_212 : decode code 212 = .ok (.aload_n 2, 1) := by decide +kernel
theorem eL_213 : decode code 213 = .ok (.aload_n 0, 1) := by decide +kernel
theorem eL_214 : decode code 214 = .ok (.iload_n 3, 1) := by decide +kernel
theorem eL_215 : decode code 215 = .ok (.iconst 1, 1) := by decide +kernel
theorem eL_216 : decode code 216 = .ok (.iadd, 1) := by decide +kernel
theorem eL_217 : decode code 217 = .ok (.iaload, 1) := by decide +kernel
theorem eL_218 : decode code 218 = .ok (.invokevirtual 24, 3) := by decide +kernel
theorem eL_221 : decode code 221 = .ok (.if_icmp .eq 571, 3) := by decide +kernel
theorem eL_224 : decode code 224 = .ok (.iconst 0, 1) := by decide +kernel
theorem eL_225 : decode code 225 = .ok (.ireturn, 1) := by decide +kernel
theorem eL_226 : decode code 226 = .ok (.aload_n 1, 1) := by decide +kernel
theorem eL_227 : decode code 227 = .ok (.invokevirtual 25, 3) := by decide +kernel
theorem eL_230 : decode code 230 = .ok (.aload_n 2, 1) := by decide +kernel
theorem eL_231 : decode code 231 = .ok (.invokevirtual 29, 3) := by decide +kernel
theorem eL_234 : decode code 234 = .ok (.if_icmp .eq 558, 3) := by decide +kernel
theorem eL_237 : decode code 237 = .ok (.iconst 0, 1) := by decide +kernel
theorem eL_238 : decode code 238 = .ok (.ireturn, 1) := by decide +kernel
theorem eL_239 : decode code 239 = .ok (.aload_n 1, 1) := by decide +kernel
theorem eL_240 : decode code 240 = .ok (.aload_n 0, 1) := by decide +kernel
theorem eL_241 : decode code 241 = .ok (.iload_n 3, 1) := by decide +kernel
theorem eL_242 : decode code 242 = .ok (.iconst 1, 1) := by decide +kernel
theorem eL_243 : decode code 243 = .ok (.iadd, 1) := by decide +kernel
theorem eL_244 : decode code 244 = .ok (.iaload, 1) := by decide +kernel
theorem eL_245 : decode code 245 = .ok (.invokevirtual 30, 3) := by decide +kernel
theorem eL_248 : decode code 248 = .ok (.aload_n 2, 1) := by decide +kernel
theorem eL_249 : decode code 249 = .ok (.aload_n 0, 1) := by decide +kernel
theorem eL_250 : decode code 250 = .ok (.iload_n 3, 1) := by decide +kernel
theorem eL_251 : decode code 251 = .ok (.iconst 1, 1) := by decide +kernel
theorem eL_252 : decode code 252 = .ok (.iadd, 1) := by decide +kernel
theorem eL_253 : decode code 253 = .ok (.iaload, 1) := by decide +kernel
theorem eL_254 : decode code 254 = .ok (.invokevirtual 34, 3) := by decide +kernel
theorem eL_257 : decode code 257 = .ok (.lcmp, 1) := by decide +kernel
theorem eL_258 : decode code 258 = .ok (.ifCond .eq 534, 3) := by decide +kernel
theorem eL_261 : decode code 261 = .ok (.iconst 0, 1) := by decide +kernel
theorem eL_262 : decode code 262 = .ok (.ireturn, 1) := by decide +kernel
theorem eL_263 : decode code 263 = .ok (.aload_n 1, 1) := by decide +kernel
theorem eL_264 : decode code 264 = .ok (.aload_n 0, 1) := by decide +kernel
theorem eL_265 : decode code 265 = .ok (.iload_n 3, 1) := by decide +kernel
theorem eL_266 : decode code 266 = .ok (.iconst 1, 1) := by decide +kernel
theorem eL_267 : decode code 267 = .ok (.iadd, 1) := by decide +kernel
theorem eL_268 : decode code 268 = .ok (.iaload, 1) := by decide +kernel
theorem eL_269 : decode code 269 = .ok (.invokevirtual 35, 3) := by decide +kernel
theorem eL_272 : decode code 272 = .ok (.aload_n 2, 1) := by decide +kernel
theorem eL_273 : decode code 273 = .ok (.aload_n 0, 1) := by decide +kernel
theorem eL_274 : decode code 274 = .ok (.iload_n 3, 1) := by decide +kernel
theorem eL_275 : decode code 275 = .ok (.iconst 1, 1) := by decide +kernel
theorem eL_276 : decode code 276 = .ok (.iadd, 1) := by decide +kernel
theorem eL_277 : decode code 277 = .ok (.iaload, 1) := by decide +kernel
theorem eL_278 : decode code 278 = .ok (.invokevirtual 38, 3) := by decide +kernel
theorem eL_281 : decode code 281 = .ok (.if_icmp .eq 511, 3) := by decide +kernel
theorem eL_284 : decode code 284 = .ok (.iconst 0, 1) := by decide +kernel
theorem eL_285 : decode code 285 = .ok (.ireturn, 1) := by decide +kernel
theorem eL_286 : decode code 286 = .ok (.aload_n 1, 1) := by decide +kernel
theorem eL_287 : decode code 287 = .ok (.aload_n 0, 1) := by decide +kernel
theorem eL_288 : decode code 288 = .ok (.iload_n 3, 1) := by decide +kernel
theorem eL_289 : decode code 289 = .ok (.iconst 1, 1) := by decide +kernel
theorem eL_290 : decode code 290 = .ok (.iadd, 1) := by decide +kernel
theorem eL_291 : decode code 291 = .ok (.iaload, 1) := by decide +kernel
theorem eL_292 : decode code 292 = .ok (.aload_n 0, 1) := by decide +kernel
theorem eL_293 : decode code 293 = .ok (.iload_n 3, 1) := by decide +kernel
theorem eL_294 : decode code 294 = .ok (.iconst 2, 1) := by decide +kernel
theorem eL_295 : decode code 295 = .ok (.iadd, 1) := by decide +kernel
theorem eL_296 : decode code 296 = .ok (.iaload, 1) := by decide +kernel
theorem eL_297 : decode code 297 = .ok (.invokevirtual 39, 3) := by decide +kernel
theorem eL_300 : decode code 300 = .ok (.aload_n 2, 1) := by decide +kernel
theorem eL_301 : decode code 301 = .ok (.aload_n 0, 1) := by decide +kernel
theorem eL_302 : decode code 302 = .ok (.iload_n 3, 1) := by decide +kernel
theorem eL_303 : decode code 303 = .ok (.iconst 1, 1) := by decide +kernel
theorem eL_304 : decode code 304 = .ok (.iadd, 1) := by decide +kernel
theorem eL_305 : decode code 305 = .ok (.iaload, 1) := by decide +kernel
theorem eL_306 : decode code 306 = .ok (.aload_n 0, 1) := by decide +kernel
theorem eL_307 : decode code 307 = .ok (.iload_n 3, 1) := by decide +kernel
theorem eL_308 : decode code 308 = .ok (.iconst 2, 1) := by decide +kernel
theorem eL_309 : decode code 309 = .ok (.iadd, 1) := by decide +kernel
theorem eL_310 : decode code 310 = .ok (.iaload, 1) := by decide +kernel
theorem eL_311 : decode code 311 = .ok (.invokevirtual 43, 3) := by decide +kernel
theorem eL_314 : decode code 314 = .ok (.if_icmp .eq 478, 3) := by decide +kernel
theorem eL_317 : decode code 317 = .ok (.iconst 0, 1) := by decide +kernel
theorem eL_318 : decode code 318 = .ok (.ireturn, 1) := by decide +kernel
theorem eL_319 : decode code 319 = .ok (.aload_n 1, 1) := by decide +kernel
theorem eL_320 : decode code 320 = .ok (.invokevirtual 44, 3) := by decide +kernel
theorem eL_323 : decode code 323 = .ok (.aload_n 2, 1) := by decide +kernel
theorem eL_324 : decode code 324 = .ok (.invokevirtual 47, 3) := by decide +kernel
theorem eL_327 : decode code 327 = .ok (.if_icmp .eq 465, 3) := by decide +kernel
theorem eL_330 : decode code 330 = .ok (.iconst 0, 1) := by decide +kernel
theorem eL_331 : decode code 331 = .ok (.ireturn, 1) := by decide +kernel
theorem eL_332 : decode code 332 = .ok (.aload_n 1, 1) := by decide +kernel
theorem eL_333 : decode code 333 = .ok (.aload_n 0, 1) := by decide +kernel
theorem eL_334 : decode code 334 = .ok (.iload_n 3, 1) := by decide +kernel
theorem eL_335 : decode code 335 = .ok (.iconst 1, 1) := by decide +kernel
theorem eL_336 : decode code 336 = .ok (.iadd, 1) := by decide +kernel
theorem eL_337 : decode code 337 = .ok (.iaload, 1) := by decide +kernel
theorem eL_338 : decode code 338 = .ok (.invokevirtual 48, 3) := by decide +kernel
theorem eL_341 : decode code 341 = .ok (.aload_n 2, 1) := by decide +kernel
theorem eL_342 : decode code 342 = .ok (.aload_n 0, 1) := by decide +kernel
theorem eL_343 : decode code 343 = .ok (.iload_n 3, 1) := by decide +kernel
theorem eL_344 : decode code 344 = .ok (.iconst 1, 1) := by decide +kernel
theorem eL_345 : decode code 345 = .ok (.iadd, 1) := by decide +kernel
theorem eL_346 : decode code 346 = .ok (.iaload, 1) := by decide +kernel
theorem eL_347 : decode code 347 = .ok (.invokevirtual 51, 3) := by decide +kernel
theorem eL_350 : decode code 350 = .ok (.if_icmp .eq 442, 3) := by decide +kernel
theorem eL_353 : decode code 353 = .ok (.iconst 0, 1) := by decide +kernel
theorem eL_354 : decode code 354 = .ok (.ireturn, 1) := by decide +kernel
theorem eL_355 : decode code 355 = .ok (.aload_n 1, 1) := by decide +kernel
theorem eL_356 : decode code 356 = .ok (.invokevirtual 52, 3) := by decide +kernel
theorem eL_359 : decode code 359 = .ok (.aload_n 2, 1) := by decide +kernel
theorem eL_360 : decode code 360 = .ok (.invokevirtual 55, 3) := by decide +kernel
theorem eL_363 : decode code 363 = .ok (.if_icmp .eq 429, 3) := by decide +kernel
theorem eL_366 : decode code 366 = .ok (.iconst 0, 1) := by decide +kernel
theorem eL_367 : decode code 367 = .ok (.ireturn, 1) := by decide +kernel
theorem eL_368 : decode code 368 = .ok (.aload_n 1, 1) := by decide +kernel
theorem eL_369 : decode code 369 = .ok (.aload_n 0, 1) := by decide +kernel
theorem eL_370 : decode code 370 = .ok (.iload_n 3, 1) := by decide +kernel
theorem eL_371 : decode code 371 = .ok (.iconst 1, 1) := by decide +kernel
theorem eL_372 : decode code 372 = .ok (.iadd, 1) := by decide +kernel
theorem eL_373 : decode code 373 = .ok (.iaload, 1) := by decide +kernel
theorem eL_374 : decode code 374 = .ok (.aload_n 0, 1) := by decide +kernel
theorem eL_375 : decode code 375 = .ok (.iload_n 3, 1) := by decide +kernel
theorem eL_376 : decode code 376 = .ok (.iconst 2, 1) := by decide +kernel
theorem eL_377 : decode code 377 = .ok (.iadd, 1) := by decide +kernel
theorem eL_378 : decode code 378 = .ok (.iaload, 1) := by decide +kernel
theorem eL_379 : decode code 379 = .ok (.i2l, 1) := by decide +kernel
theorem eL_380 : decode code 380 = .ok (.bipush 32, 2) := by decide +kernel
theorem eL_382 : decode code 382 = .ok (.lshl, 1) := by decide +kernel
theorem eL_383 : decode code 383 = .ok (.aload_n 0, 1) := by decide +kernel
theorem eL_384 : decode code 384 = .ok (.iload_n 3, 1) := by decide +kernel
theorem eL_385 : decode code 385 = .ok (.iconst 3, 1) := by decide +kernel
theorem eL_386 : decode code 386 = .ok (.iadd, 1) := by decide +kernel
theorem eL_387 : decode code 387 = .ok (.iaload, 1) := by decide +kernel
theorem eL_388 : decode code 388 = .ok (.i2l, 1) := by decide +kernel
theorem eL_389 : decode code 389 = .ok (.ldc2_w 13, 3) := by decide +kernel
theorem eL_392 : decode code 392 = .ok (.land, 1) := by decide +kernel
theorem eL_393 : decode code 393 = .ok (.lor, 1) := by decide +kernel
theorem eL_394 : decode code 394 = .ok (.invokevirtual 56, 3) := by decide +kernel
theorem eL_397 : decode code 397 = .ok (.aload_n 2, 1) := by decide +kernel
theorem eL_398 : decode code 398 = .ok (.aload_n 0, 1) := by decide +kernel
theorem eL_399 : decode code 399 = .ok (.iload_n 3, 1) := by decide +kernel
theorem eL_400 : decode code 400 = .ok (.iconst 1, 1) := by decide +kernel
theorem eL_401 : decode code 401 = .ok (.iadd, 1) := by decide +kernel
theorem eL_402 : decode code 402 = .ok (.iaload, 1) := by decide +kernel
theorem eL_403 : decode code 403 = .ok (.aload_n 0, 1) := by decide +kernel
theorem eL_404 : decode code 404 = .ok (.iload_n 3, 1) := by decide +kernel
theorem eL_405 : decode code 405 = .ok (.iconst 2, 1) := by decide +kernel
theorem eL_406 : decode code 406 = .ok (.iadd, 1) := by decide +kernel
theorem eL_407 : decode code 407 = .ok (.iaload, 1) := by decide +kernel
theorem eL_408 : decode code 408 = .ok (.i2l, 1) := by decide +kernel
theorem eL_409 : decode code 409 = .ok (.bipush 32, 2) := by decide +kernel
theorem eL_411 : decode code 411 = .ok (.lshl, 1) := by decide +kernel
theorem eL_412 : decode code 412 = .ok (.aload_n 0, 1) := by decide +kernel
theorem eL_413 : decode code 413 = .ok (.iload_n 3, 1) := by decide +kernel
theorem eL_414 : decode code 414 = .ok (.iconst 3, 1) := by decide +kernel
theorem eL_415 : decode code 415 = .ok (.iadd, 1) := by decide +kernel
theorem eL_416 : decode code 416 = .ok (.iaload, 1) := by decide +kernel
theorem eL_417 : decode code 417 = .ok (.i2l, 1) := by decide +kernel
theorem eL_418 : decode code 418 = .ok (.ldc2_w 13, 3) := by decide +kernel
theorem eL_421 : decode code 421 = .ok (.land, 1) := by decide +kernel
theorem eL_422 : decode code 422 = .ok (.lor, 1) := by decide +kernel
theorem eL_423 : decode code 423 = .ok (.invokevirtual 59, 3) := by decide +kernel
theorem eL_426 : decode code 426 = .ok (.if_icmp .eq 366, 3) := by decide +kernel
theorem eL_429 : decode code 429 = .ok (.iconst 0, 1) := by decide +kernel
theorem eL_430 : decode code 430 = .ok (.ireturn, 1) := by decide +kernel
theorem eL_431 : decode code 431 = .ok (.aload_n 1, 1) := by decide +kernel
theorem eL_432 : decode code 432 = .ok (.aload_n 0, 1) := by decide +kernel
theorem eL_433 : decode code 433 = .ok (.iload_n 3, 1) := by decide +kernel
theorem eL_434 : decode code 434 = .ok (.iconst 1, 1) := by decide +kernel
theorem eL_435 : decode code 435 = .ok (.iadd, 1) := by decide +kernel
theorem eL_436 : decode code 436 = .ok (.iaload, 1) := by decide +kernel
theorem eL_437 : decode code 437 = .ok (.invokevirtual 60, 3) := by decide +kernel
theorem eL_440 : decode code 440 = .ok (.aload_n 2, 1) := by decide +kernel
theorem eL_441 : decode code 441 = .ok (.aload_n 0, 1) := by decide +kernel
theorem eL_442 : decode code 442 = .ok (.iload_n 3, 1) := by decide +kernel
theorem eL_443 : decode code 443 = .ok (.iconst 1, 1) := by decide +kernel
theorem eL_444 : decode code 444 = .ok (.iadd, 1) := by decide +kernel
theorem eL_445 : decode code 445 = .ok (.iaload, 1) := by decide +kernel
theorem eL_446 : decode code 446 = .ok (.invokevirtual 63, 3) := by decide +kernel
theorem eL_449 : decode code 449 = .ok (.if_icmp .eq 343, 3) := by decide +kernel
theorem eL_452 : decode code 452 = .ok (.iconst 0, 1) := by decide +kernel
theorem eL_453 : decode code 453 = .ok (.ireturn, 1) := by decide +kernel
theorem eL_454 : decode code 454 = .ok (.aload_n 1, 1) := by decide +kernel
theorem eL_455 : decode code 455 = .ok (.aload_n 0, 1) := by decide +kernel
theorem eL_456 : decode code 456 = .ok (.iload_n 3, 1) := by decide +kernel
theorem eL_457 : decode code 457 = .ok (.iconst 1, 1) := by decide +kernel
theorem eL_458 : decode code 458 = .ok (.iadd, 1) := by decide +kernel
theorem eL_459 : decode code 459 = .ok (.iaload, 1) := by decide +kernel
theorem eL_460 : decode code 460 = .ok (.aload_n 0, 1) := by decide +kernel
theorem eL_461 : decode code 461 = .ok (.iload_n 3, 1) := by decide +kernel
theorem eL_462 : decode code 462 = .ok (.iconst 2, 1) := by decide +kernel
theorem eL_463 : decode code 463 = .ok (.iadd, 1) := by decide +kernel
theorem eL_464 : decode code 464 = .ok (.iaload, 1) := by decide +kernel
theorem eL_465 : decode code 465 = .ok (.invokevirtual 64, 3) := by decide +kernel
theorem eL_468 : decode code 468 = .ok (.aload_n 2, 1) := by decide +kernel
theorem eL_469 : decode code 469 = .ok (.aload_n 0, 1) := by decide +kernel
theorem eL_470 : decode code 470 = .ok (.iload_n 3, 1) := by decide +kernel
theorem eL_471 : decode code 471 = .ok (.iconst 1, 1) := by decide +kernel
theorem eL_472 : decode code 472 = .ok (.iadd, 1) := by decide +kernel
theorem eL_473 : decode code 473 = .ok (.iaload, 1) := by decide +kernel
theorem eL_474 : decode code 474 = .ok (.aload_n 0, 1) := by decide +kernel
theorem eL_475 : decode code 475 = .ok (.iload_n 3, 1) := by decide +kernel
theorem eL_476 : decode code 476 = .ok (.iconst 2, 1) := by decide +kernel
theorem eL_477 : decode code 477 = .ok (.iadd, 1) := by decide +kernel
theorem eL_478 : decode code 478 = .ok (.iaload, 1) := by decide +kernel
theorem eL_479 : decode code 479 = .ok (.invokevirtual 67, 3) := by decide +kernel
theorem eL_482 : decode code 482 = .ok (.if_icmp .eq 310, 3) := by decide +kernel
theorem eL_485 : decode code 485 = .ok (.iconst 0, 1) := by decide +kernel
theorem eL_486 : decode code 486 = .ok (.ireturn, 1) := by decide +kernel
theorem eL_487 : decode code 487 = .ok (.aload_n 1, 1) := by decide +kernel
theorem eL_488 : decode code 488 = .ok (.aload_n 0, 1) := by decide +kernel
theorem eL_489 : decode code 489 = .ok (.iload_n 3, 1) := by decide +kernel
theorem eL_490 : decode code 490 = .ok (.iconst 1, 1) := by decide +kernel
theorem eL_491 : decode code 491 = .ok (.iadd, 1) := by decide +kernel
theorem eL_492 : decode code 492 = .ok (.iaload, 1) := by decide +kernel
theorem eL_493 : decode code 493 = .ok (.i2l, 1) := by decide +kernel
theorem eL_494 : decode code 494 = .ok (.bipush 32, 2) := by decide +kernel
theorem eL_496 : decode code 496 = .ok (.lshl, 1) := by decide +kernel
theorem eL_497 : decode code 497 = .ok (.aload_n 0, 1) := by decide +kernel
theorem eL_498 : decode code 498 = .ok (.iload_n 3, 1) := by decide +kernel
theorem eL_499 : decode code 499 = .ok (.iconst 2, 1) := by decide +kernel
theorem eL_500 : decode code 500 = .ok (.iadd, 1) := by decide +kernel
theorem eL_501 : decode code 501 = .ok (.iaload, 1) := by decide +kernel
theorem eL_502 : decode code 502 = .ok (.i2l, 1) := by decide +kernel
theorem eL_503 : decode code 503 = .ok (.ldc2_w 13, 3) := by decide +kernel
theorem eL_506 : decode code 506 = .ok (.land, 1) := by decide +kernel
theorem eL_507 : decode code 507 = .ok (.lor, 1) := by decide +kernel
theorem eL_508 : decode code 508 = .ok (.invokevirtual 68, 3) := by decide +kernel
theorem eL_511 : decode code 511 = .ok (.aload_n 2, 1) := by decide +kernel
theorem eL_512 : decode code 512 = .ok (.aload_n 0, 1) := by decide +kernel
theorem eL_513 : decode code 513 = .ok (.iload_n 3, 1) := by decide +kernel
theorem eL_514 : decode code 514 = .ok (.iconst 1, 1) := by decide +kernel
theorem eL_515 : decode code 515 = .ok (.iadd, 1) := by decide +kernel
theorem eL_516 : decode code 516 = .ok (.iaload, 1) := by decide +kernel
theorem eL_517 : decode code 517 = .ok (.i2l, 1) := by decide +kernel
theorem eL_518 : decode code 518 = .ok (.bipush 32, 2) := by decide +kernel
theorem eL_520 : decode code 520 = .ok (.lshl, 1) := by decide +kernel
theorem eL_521 : decode code 521 = .ok (.aload_n 0, 1) := by decide +kernel
theorem eL_522 : decode code 522 = .ok (.iload_n 3, 1) := by decide +kernel
theorem eL_523 : decode code 523 = .ok (.iconst 2, 1) := by decide +kernel
theorem eL_524 : decode code 524 = .ok (.iadd, 1) := by decide +kernel
theorem eL_525 : decode code 525 = .ok (.iaload, 1) := by decide +kernel
theorem eL_526 : decode code 526 = .ok (.i2l, 1) := by decide +kernel
theorem eL_527 : decode code 527 = .ok (.ldc2_w 13, 3) := by decide +kernel
theorem eL_530 : decode code 530 = .ok (.land, 1) := by decide +kernel
theorem eL_531 : decode code 531 = .ok (.lor, 1) := by decide +kernel
theorem eL_532 : decode code 532 = .ok (.invokevirtual 72, 3) := by decide +kernel
theorem eL_535 : decode code 535 = .ok (.if_icmp .eq 257, 3) := by decide +kernel
theorem eL_538 : decode code 538 = .ok (.iconst 0, 1) := by decide +kernel
theorem eL_539 : decode code 539 = .ok (.ireturn, 1) := by decide +kernel
theorem eL_540 : decode code 540 = .ok (.aload_n 1, 1) := by decide +kernel
theorem eL_541 : decode code 541 = .ok (.invokevirtual 73, 3) := by decide +kernel
theorem eL_544 : decode code 544 = .ok (.aload_n 2, 1) := by decide +kernel
theorem eL_545 : decode code 545 = .ok (.invokevirtual 76, 3) := by decide +kernel
theorem eL_548 : decode code 548 = .ok (.if_icmp .eq 244, 3) := by decide +kernel
theorem eL_551 : decode code 551 = .ok (.iconst 0, 1) := by decide +kernel
theorem eL_552 : decode code 552 = .ok (.ireturn, 1) := by decide +kernel
theorem eL_553 : decode code 553 = .ok (.aload_n 1, 1) := by decide +kernel
theorem eL_554 : decode code 554 = .ok (.aload_n 0, 1) := by decide +kernel
theorem eL_555 : decode code 555 = .ok (.iload_n 3, 1) := by decide +kernel
theorem eL_556 : decode code 556 = .ok (.iconst 1, 1) := by decide +kernel
theorem eL_557 : decode code 557 = .ok (.iadd, 1) := by decide +kernel
theorem eL_558 : decode code 558 = .ok (.iaload, 1) := by decide +kernel
theorem eL_559 : decode code 559 = .ok (.invokevirtual 77, 3) := by decide +kernel
theorem eL_562 : decode code 562 = .ok (.aload_n 2, 1) := by decide +kernel
theorem eL_563 : decode code 563 = .ok (.aload_n 0, 1) := by decide +kernel
theorem eL_564 : decode code 564 = .ok (.iload_n 3, 1) := by decide +kernel
theorem eL_565 : decode code 565 = .ok (.iconst 1, 1) := by decide +kernel
theorem eL_566 : decode code 566 = .ok (.iadd, 1) := by decide +kernel
theorem eL_567 : decode code 567 = .ok (.iaload, 1) := by decide +kernel
theorem eL_568 : decode code 568 = .ok (.invokevirtual 80, 3) := by decide +kernel
theorem eL_571 : decode code 571 = .ok (.if_icmp .eq 221, 3) := by decide +kernel
theorem eL_574 : decode code 574 = .ok (.iconst 0, 1) := by decide +kernel
theorem eL_575 : decode code 575 = .ok (.ireturn, 1) := by decide +kernel
theorem eL_576 : decode code 576 = .ok (.aload_n 1, 1) := by decide +kernel
theorem eL_577 : decode code 577 = .ok (.invokevirtual 81, 3) := by decide +kernel
theorem eL_580 : decode code 580 = .ok (.aload_n 2, 1) := by decide +kernel
theorem eL_581 : decode code 581 = .ok (.invokevirtual 85, 3) := by decide +kernel
theorem eL_584 : decode code 584 = .ok (.lcmp, 1) := by decide +kernel
theorem eL_585 : decode code 585 = .ok (.ifCond .eq 207, 3) := by decide +kernel
theorem eL_588 : decode code 588 = .ok (.iconst 0, 1) := by decide +kernel
theorem eL_589 : decode code 589 = .ok (.ireturn, 1) := by decide +kernel
theorem eL_590 : decode code 590 = .ok (.aload_n 1, 1) := by decide +kernel
theorem eL_591 : decode code 591 = .ok (.aload_n 0, 1) := by decide +kernel
theorem eL_592 : decode code 592 = .ok (.iload_n 3, 1) := by decide +kernel
theorem eL_593 : decode code 593 = .ok (.iconst 1, 1) := by decide +kernel
theorem eL_594 : decode code 594 = .ok (.iadd, 1) := by decide +kernel
theorem eL_595 : decode code 595 = .ok (.iaload, 1) := by decide +kernel
theorem eL_596 : decode code 596 = .ok (.aload_n 0, 1) := by decide +kernel
theorem eL_597 : decode code 597 = .ok (.iload_n 3, 1) := by decide +kernel
theorem eL_598 : decode code 598 = .ok (.iconst 2, 1) := by decide +kernel
theorem eL_599 : decode code 599 = .ok (.iadd, 1) := by decide +kernel
theorem eL_600 : decode code 600 = .ok (.iaload, 1) := by decide +kernel
theorem eL_601 : decode code 601 = .ok (.i2l, 1) := by decide +kernel
theorem eL_602 : decode code 602 = .ok (.bipush 32, 2) := by decide +kernel
theorem eL_604 : decode code 604 = .ok (.lshl, 1) := by decide +kernel
theorem eL_605 : decode code 605 = .ok (.aload_n 0, 1) := by decide +kernel
theorem eL_606 : decode code 606 = .ok (.iload_n 3, 1) := by decide +kernel
theorem eL_607 : decode code 607 = .ok (.iconst 3, 1) := by decide +kernel
theorem eL_608 : decode code 608 = .ok (.iadd, 1) := by decide +kernel
theorem eL_609 : decode code 609 = .ok (.iaload, 1) := by decide +kernel
theorem eL_610 : decode code 610 = .ok (.i2l, 1) := by decide +kernel
theorem eL_611 : decode code 611 = .ok (.ldc2_w 13, 3) := by decide +kernel
theorem eL_614 : decode code 614 = .ok (.land, 1) := by decide +kernel
theorem eL_615 : decode code 615 = .ok (.lor, 1) := by decide +kernel
theorem eL_616 : decode code 616 = .ok (.invokevirtual 86, 3) := by decide +kernel
theorem eL_619 : decode code 619 = .ok (.aload_n 2, 1) := by decide +kernel
theorem eL_620 : decode code 620 = .ok (.aload_n 0, 1) := by decide +kernel
theorem eL_621 : decode code 621 = .ok (.iload_n 3, 1) := by decide +kernel
theorem eL_622 : decode code 622 = .ok (.iconst 1, 1) := by decide +kernel
theorem eL_623 : decode code 623 = .ok (.iadd, 1) := by decide +kernel
theorem eL_624 : decode code 624 = .ok (.iaload, 1) := by decide +kernel
theorem eL_625 : decode code 625 = .ok (.aload_n 0, 1) := by decide +kernel
theorem eL_626 : decode code 626 = .ok (.iload_n 3, 1) := by decide +kernel
theorem eL_627 : decode code 627 = .ok (.iconst 2, 1) := by decide +kernel
theorem eL_628 : decode code 628 = .ok (.iadd, 1) := by decide +kernel
theorem eL_629 : decode code 629 = .ok (.iaload, 1) := by decide +kernel
theorem eL_630 : decode code 630 = .ok (.i2l, 1) := by decide +kernel
theorem eL_631 : decode code 631 = .ok (.bipush 32, 2) := by decide +kernel
theorem eL_633 : decode code 633 = .ok (.lshl, 1) := by decide +kernel
theorem eL_634 : decode code 634 = .ok (.aload_n 0, 1) := by decide +kernel
theorem eL_635 : decode code 635 = .ok (.iload_n 3, 1) := by decide +kernel
theorem eL_636 : decode code 636 = .ok (.iconst 3, 1) := by decide +kernel
theorem eL_637 : decode code 637 = .ok (.iadd, 1) := by decide +kernel
theorem eL_638 : decode code 638 = .ok (.iaload, 1) := by decide +kernel
theorem eL_639 : decode code 639 = .ok (.i2l, 1) := by decide +kernel
theorem eL_640 : decode code 640 = .ok (.ldc2_w 13, 3) := by decide +kernel
theorem eL_643 : decode code 643 = .ok (.land, 1) := by decide +kernel
theorem eL_644 : decode code 644 = .ok (.lor, 1) := by decide +kernel
theorem eL_645 : decode code 645 = .ok (.invokevirtual 89, 3) := by decide +kernel
theorem eL_648 : decode code 648 = .ok (.if_icmp .eq 144, 3) := by decide +kernel
theorem eL_651 : decode code 651 = .ok (.iconst 0, 1) := by decide +kernel
theorem eL_652 : decode code 652 = .ok (.ireturn, 1) := by decide +kernel
theorem eL_653 : decode code 653 = .ok (.aload_n 1, 1) := by decide +kernel
theorem eL_654 : decode code 654 = .ok (.aload_n 0, 1) := by decide +kernel
theorem eL_655 : decode code 655 = .ok (.iload_n 3, 1) := by decide +kernel
theorem eL_656 : decode code 656 = .ok (.iconst 1, 1) := by decide +kernel
theorem eL_657 : decode code 657 = .ok (.iadd, 1) := by decide +kernel
theorem eL_658 : decode code 658 = .ok (.iaload, 1) := by decide +kernel
theorem eL_659 : decode code 659 = .ok (.invokevirtual 90, 3) := by decide +kernel
theorem eL_662 : decode code 662 = .ok (.aload_n 2, 1) := by decide +kernel
theorem eL_663 : decode code 663 = .ok (.aload_n 0, 1) := by decide +kernel
theorem eL_664 : decode code 664 = .ok (.iload_n 3, 1) := by decide +kernel
theorem eL_665 : decode code 665 = .ok (.iconst 1, 1) := by decide +kernel
theorem eL_666 : decode code 666 = .ok (.iadd, 1) := by decide +kernel
theorem eL_667 : decode code 667 = .ok (.iaload, 1) := by decide +kernel
theorem eL_668 : decode code 668 = .ok (.invokevirtual 93, 3) := by decide +kernel
theorem eL_671 : decode code 671 = .ok (.if_icmp .eq 121, 3) := by decide +kernel
theorem eL_674 : decode code 674 = .ok (.iconst 0, 1) := by decide +kernel
theorem eL_675 : decode code 675 = .ok (.ireturn, 1) := by decide +kernel
theorem eL_676 : decode code 676 = .ok (.aload_n 1, 1) := by decide +kernel
theorem eL_677 : decode code 677 = .ok (.invokevirtual 94, 3) := by decide +kernel
theorem eL_680 : decode code 680 = .ok (.aload_n 2, 1) := by decide +kernel
theorem eL_681 : decode code 681 = .ok (.invokevirtual 97, 3) := by decide +kernel
theorem eL_684 : decode code 684 = .ok (.lcmp, 1) := by decide +kernel
theorem eL_685 : decode code 685 = .ok (.ifCond .eq 107, 3) := by decide +kernel
theorem eL_688 : decode code 688 = .ok (.iconst 0, 1) := by decide +kernel
theorem eL_689 : decode code 689 = .ok (.ireturn, 1) := by decide +kernel
theorem eL_690 : decode code 690 = .ok (.aload_n 1, 1) := by decide +kernel
theorem eL_691 : decode code 691 = .ok (.aload_n 0, 1) := by decide +kernel
theorem eL_692 : decode code 692 = .ok (.iload_n 3, 1) := by decide +kernel
theorem eL_693 : decode code 693 = .ok (.iconst 1, 1) := by decide +kernel
theorem eL_694 : decode code 694 = .ok (.iadd, 1) := by decide +kernel
theorem eL_695 : decode code 695 = .ok (.iaload, 1) := by decide +kernel
theorem eL_696 : decode code 696 = .ok (.aload_n 0, 1) := by decide +kernel
theorem eL_697 : decode code 697 = .ok (.iload_n 3, 1) := by decide +kernel
theorem eL_698 : decode code 698 = .ok (.iconst 2, 1) := by decide +kernel
theorem eL_699 : decode code 699 = .ok (.iadd, 1) := by decide +kernel
theorem eL_700 : decode code 700 = .ok (.iaload, 1) := by decide +kernel
theorem eL_701 : decode code 701 = .ok (.invokevirtual 98, 3) := by decide +kernel
theorem eL_704 : decode code 704 = .ok (.aload_n 2, 1) := by decide +kernel
theorem eL_705 : decode code 705 = .ok (.aload_n 0, 1) := by decide +kernel
theorem eL_706 : decode code 706 = .ok (.iload_n 3, 1) := by decide +kernel
theorem eL_707 : decode code 707 = .ok (.iconst 1, 1) := by decide +kernel
theorem eL_708 : decode code 708 = .ok (.iadd, 1) := by decide +kernel
theorem eL_709 : decode code 709 = .ok (.iaload, 1) := by decide +kernel
theorem eL_710 : decode code 710 = .ok (.aload_n 0, 1) := by decide +kernel
theorem eL_711 : decode code 711 = .ok (.iload_n 3, 1) := by decide +kernel
theorem eL_712 : decode code 712 = .ok (.iconst 2, 1) := by decide +kernel
theorem eL_713 : decode code 713 = .ok (.iadd, 1) := by decide +kernel
theorem eL_714 : decode code 714 = .ok (.iaload, 1) := by decide +kernel
theorem eL_715 : decode code 715 = .ok (.invokevirtual 101, 3) := by decide +kernel
theorem eL_718 : decode code 718 = .ok (.if_icmp .eq 74, 3) := by decide +kernel
theorem eL_721 : decode code 721 = .ok (.iconst 0, 1) := by decide +kernel
theorem eL_722 : decode code 722 = .ok (.ireturn, 1) := by decide +kernel
theorem eL_723 : decode code 723 = .ok (.aload_n 1, 1) := by decide +kernel
theorem eL_724 : decode code 724 = .ok (.aload_n 0, 1) := by decide +kernel
theorem eL_725 : decode code 725 = .ok (.iload_n 3, 1) := by decide +kernel
theorem eL_726 : decode code 726 = .ok (.iconst 1, 1) := by decide +kernel
theorem eL_727 : decode code 727 = .ok (.iadd, 1) := by decide +kernel
theorem eL_728 : decode code 728 = .ok (.iaload, 1) := by decide +kernel
theorem eL_729 : decode code 729 = .ok (.invokevirtual 102, 3) := by decide +kernel
theorem eL_732 : decode code 732 = .ok (.aload_n 2, 1) := by decide +kernel
theorem eL_733 : decode code 733 = .ok (.aload_n 0, 1) := by decide +kernel
theorem eL_734 : decode code 734 = .ok (.iload_n 3, 1) := by decide +kernel
theorem eL_735 : decode code 735 = .ok (.iconst 1, 1) := by decide +kernel
theorem eL_736 : decode code 736 = .ok (.iadd, 1) := by decide +kernel
theorem eL_737 : decode code 737 = .ok (.iaload, 1) := by decide +kernel
theorem eL_738 : decode code 738 = .ok (.invokevirtual 105, 3) := by decide +kernel
theorem eL_741 : decode code 741 = .ok (.if_icmp .eq 51, 3) := by decide +kernel
theorem eL_744 : decode code 744 = .ok (.iconst 0, 1) := by decide +kernel
theorem eL_745 : decode code 745 = .ok (.ireturn, 1) := by decide +kernel
theorem eL_746 : decode code 746 = .ok (.aload_n 1, 1) := by decide +kernel
theorem eL_747 : decode code 747 = .ok (.aload_n 0, 1) := by decide +kernel
theorem eL_748 : decode code 748 = .ok (.iload_n 3, 1) := by decide +kernel
theorem eL_749 : decode code 749 = .ok (.iconst 1, 1) := by decide +kernel
theorem eL_750 : decode code 750 = .ok (.iadd, 1) := by decide +kernel
theorem eL_751 : decode code 751 = .ok (.iaload, 1) := by decide +kernel
theorem eL_752 : decode code 752 = .ok (.invokevirtual 106, 3) := by decide +kernel
theorem eL_755 : decode code 755 = .ok (.aload_n 2, 1) := by decide +kernel
theorem eL_756 : decode code 756 = .ok (.aload_n 0, 1) := by decide +kernel
theorem eL_757 : decode code 757 = .ok (.iload_n 3, 1) := by decide +kernel
theorem eL_758 : decode code 758 = .ok (.iconst 1, 1) := by decide +kernel
theorem eL_759 : decode code 759 = .ok (.iadd, 1) := by decide +kernel
theorem eL_760 : decode code 760 = .ok (.iaload, 1) := by decide +kernel
theorem eL_761 : decode code 761 = .ok (.invokevirtual 109, 3) := by decide +kernel
theorem eL_764 : decode code 764 = .ok (.if_icmp .eq 28, 3) := by decide +kernel
theorem eL_767 : decode code 767 = .ok (.iconst 0, 1) := by decide +kernel
theorem eL_768 : decode code 768 = .ok (.ireturn, 1) := by decide +kernel
theorem eL_769 : decode code 769 = .ok (.aload_n 1, 1) := by decide +kernel
theorem eL_770 : decode code 770 = .ok (.aload_n 0, 1) := by decide +kernel
theorem eL_771 : decode code 771 = .ok (.iload_n 3, 1) := by decide +kernel
theorem eL_772 : decode code 772 = .ok (.iconst 1, 1) := by decide +kernel
theorem eL_773 : decode code 773 = .ok (.iadd, 1) := by decide +kernel
theorem eL_774 : decode code 774 = .ok (.iaload, 1) := by decide +kernel
theorem eL_775 : decode code 775 = .ok (.invokevirtual 110, 3) := by decide +kernel
theorem eL_778 : decode code 778 = .ok (.aload_n 2, 1) := by decide +kernel
theorem eL_779 : decode code 779 = .ok (.aload_n 0, 1) := by decide +kernel
theorem eL_780 : decode code 780 = .ok (.iload_n 3, 1) := by decide +kernel
theorem eL_781 : decode code 781 = .ok (.iconst 1, 1) := by decide +kernel
theorem eL_782 : decode code 782 = .ok (.iadd, 1) := by decide +kernel
theorem eL_783 : decode code 783 = .ok (.iaload, 1) := by decide +kernel
theorem eL_784 : decode code 784 = .ok (.invokevirtual 113, 3) := by decide +kernel
theorem eL_787 : decode code 787 = .ok (.if_icmp .eq 5, 3) := by decide +kernel
theorem eL_790 : decode code 790 = .ok (.iconst 0, 1) := by decide +kernel
theorem eL_791 : decode code 791 = .ok (.ireturn, 1) := by decide +kernel
theorem eL_792 : decode code 792 = .ok (.iinc 3 4, 3) := by decide +kernel
theorem eL_795 : decode code 795 = .ok (.goto (-777), 3) := by decide +kernel
theorem eL_798 : decode code 798 = .ok (.iconst 1, 1) := by decide +kernel
theorem eL_799 : decode code 799 = .ok (.ireturn, 1) := by decide +kernel
