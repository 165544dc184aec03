/-! the cases of the law -/
theorem bz_r (v : Int32) : -2147483648 ≤ bz v ∧ bz v ≤ 2147483647 := by unfold bz; split <;> omega
theorem ch_r (z : Int) : 0 ≤ z % 65536 ∧ z % 65536 ≤ 65535 := by omega
theorem dl_140 : decode code 140 = .ok (.aload_n 1, 1) := by decide +kernel
theorem dl_141 : decode code 141 = .ok (.aload_n 0, 1) := by decide +kernel
theorem dl_142 : decode code 142 = .ok (.iload_n 3, 1) := by decide +kernel
theorem dl_143 : decode code 143 = .ok (.iconst 1, 1) := by decide +kernel
theorem dl_144 : decode code 144 = .ok (.iadd, 1) := by decide +kernel
theorem dl_145 : decode code 145 = .ok (.iaload, 1) := by decide +kernel
theorem dl_146 : decode code 146 = .ok (.aload_n 0, 1) := by decide +kernel
theorem dl_147 : decode code 147 = .ok (.iload_n 3, 1) := by decide +kernel
theorem dl_148 : decode code 148 = .ok (.iconst 2, 1) := by decide +kernel
theorem dl_149 : decode code 149 = .ok (.iadd, 1) := by decide +kernel
theorem dl_150 : decode code 150 = .ok (.iaload, 1) := by decide +kernel
theorem dl_151 : decode code 151 = .ok (.invokevirtual 13, 3) := by decide +kernel
theorem dl_154 : decode code 154 = .ok (.aload_n 2, 1) := by decide +kernel
theorem dl_155 : decode code 155 = .ok (.aload_n 0, 1) := by decide +kernel
theorem dl_156 : decode code 156 = .ok (.iload_n 3, 1) := by decide +kernel
theorem dl_157 : decode code 157 = .ok (.iconst 1, 1) := by decide +kernel
theorem dl_158 : decode code 158 = .ok (.iadd, 1) := by decide +kernel
theorem dl_159 : decode code 159 = .ok (.iaload, 1) := by decide +kernel
theorem dl_160 : decode code 160 = .ok (.aload_n 0, 1) := by decide +kernel
theorem dl_161 : decode code 161 = .ok (.iload_n 3, 1) := by decide +kernel
theorem dl_162 : decode code 162 = .ok (.iconst 2, 1) := by decide +kernel
theorem dl_163 : decode code 163 = .ok (.iadd, 1) := by decide +kernel
theorem dl_164 : decode code 164 = .ok (.iaload, 1) := by decide +kernel
theorem dl_165 : decode code 165 = .ok (.invokevirtual 17, 3) := by decide +kernel
theorem dl_168 : decode code 168 = .ok (.if_icmp .eq 615, 3) := by decide +kernel
theorem dl_173 : decode code 173 = .ok (.aload_n 1, 1) := by decide +kernel
theorem dl_174 : decode code 174 = .ok (.aload_n 0, 1) := by decide +kernel
theorem dl_175 : decode code 175 = .ok (.iload_n 3, 1) := by decide +kernel
theorem dl_176 : decode code 176 = .ok (.iconst 1, 1) := by decide +kernel
theorem dl_177 : decode code 177 = .ok (.iadd, 1) := by decide +kernel
theorem dl_178 : decode code 178 = .ok (.iaload, 1) := by decide +kernel
theorem dl_179 : decode code 179 = .ok (.aload_n 0, 1) := by decide +kernel
theorem dl_180 : decode code 180 = .ok (.iload_n 3, 1) := by decide +kernel
theorem dl_181 : decode code 181 = .ok (.iconst 2, 1) := by decide +kernel
theorem dl_182 : decode code 182 = .ok (.iadd, 1) := by decide +kernel
theorem dl_183 : decode code 183 = .ok (.iaload, 1) := by decide +kernel
theorem dl_184 : decode code 184 = .ok (.aload_n 0, 1) := by decide +kernel
theorem dl_185 : decode code 185 = .ok (.iload_n 3, 1) := by decide +kernel
theorem dl_186 : decode code 186 = .ok (.iconst 3, 1) := by decide +kernel
theorem dl_187 : decode code 187 = .ok (.iadd, 1) := by decide +kernel
theorem dl_188 : decode code 188 = .ok (.iaload, 1) := by decide +kernel
theorem dl_189 : decode code 189 = .ok (.aload_n 0, 1) := by decide +kernel
theorem dl_190 : decode code 190 = .ok (.iload_n 3, 1) := by decide +kernel
theorem dl_191 : decode code 191 = .ok (.iconst 4, 1) := by decide +kernel
theorem dl_192 : decode code 192 = .ok (.iadd, 1) := by decide +kernel
theorem dl_193 : decode code 193 = .ok (.iaload, 1) := by decide +kernel
theorem dl_194 : decode code 194 = .ok (.invokevirtual 18, 3) := by decide +kernel
theorem dl_197 : decode code 197 = .ok (.aload_n 2, 1) := by decide +kernel
theorem dl_198 : decode code 198 = .ok (.aload_n 0, 1) := by decide +kernel
theorem dl_199 : decode code 199 = .ok (.iload_n 3, 1) := by decide +kernel
theorem dl_200 : decode code 200 = .ok (.iconst 1, 1) := by decide +kernel
theorem dl_201 : decode code 201 = .ok (.iadd, 1) := by decide +kernel
theorem dl_202 : decode code 202 = .ok (.iaload, 1) := by decide +kernel
theorem dl_203 : decode code 203 = .ok (.aload_n 0, 1) := by decide +kernel
theorem dl_204 : decode code 204 = .ok (.iload_n 3, 1) := by decide +kernel
theorem dl_205 : decode code 205 = .ok (.iconst 2, 1) := by decide +kernel
theorem dl_206 : decode code 206 = .ok (.iadd, 1) := by decide +kernel
theorem dl_207 : decode code 207 = .ok (.iaload, 1) := by decide +kernel
theorem dl_208 : decode code 208 = .ok (.aload_n 0, 1) := by decide +kernel
theorem dl_209 : decode code 209 = .ok (.iload_n 3, 1) := by decide +kernel
theorem dl_210 : decode code 210 = .ok (.iconst 3, 1) := by decide +kernel
theorem dl_211 : decode code 211 = .ok (.iadd, 1) := by decide +kernel
theorem dl_212 : decode code 212 = .ok (.iaload, 1) := by decide +kernel
theorem dl_213 : decode code 213 = .ok (.aload_n 0, 1) := by decide +kernel
theorem dl_214 : decode code 214 = .ok (.iload_n 3, 1) := by decide +kernel
theorem dl_215 : decode code 215 = .ok (.iconst 4, 1) := by decide +kernel
theorem dl_216 : decode code 216 = .ok (.iadd, 1) := by decide +kernel
theorem dl_217 : decode code 217 = .ok (.iaload, 1) := by decide +kernel
theorem dl_218 : decode code 218 = .ok (.invokevirtual 22, 3) := by decide +kernel
theorem dl_221 : decode code 221 = .ok (.if_icmp .eq 562, 3) := by decide +kernel
theorem dl_226 : decode code 226 = .ok (.aload_n 1, 1) := by decide +kernel
theorem dl_227 : decode code 227 = .ok (.invokevirtual 23, 3) := by decide +kernel
theorem dl_230 : decode code 230 = .ok (.aload_n 2, 1) := by decide +kernel
theorem dl_231 : decode code 231 = .ok (.invokevirtual 27, 3) := by decide +kernel
theorem dl_234 : decode code 234 = .ok (.if_icmp .eq 549, 3) := by decide +kernel
theorem dl_239 : decode code 239 = .ok (.aload_n 1, 1) := by decide +kernel
theorem dl_240 : decode code 240 = .ok (.aload_n 0, 1) := by decide +kernel
theorem dl_241 : decode code 241 = .ok (.iload_n 3, 1) := by decide +kernel
theorem dl_242 : decode code 242 = .ok (.iconst 1, 1) := by decide +kernel
theorem dl_243 : decode code 243 = .ok (.iadd, 1) := by decide +kernel
theorem dl_244 : decode code 244 = .ok (.iaload, 1) := by decide +kernel
theorem dl_245 : decode code 245 = .ok (.aload_n 0, 1) := by decide +kernel
theorem dl_246 : decode code 246 = .ok (.iload_n 3, 1) := by decide +kernel
theorem dl_247 : decode code 247 = .ok (.iconst 2, 1) := by decide +kernel
theorem dl_248 : decode code 248 = .ok (.iadd, 1) := by decide +kernel
theorem dl_249 : decode code 249 = .ok (.iaload, 1) := by decide +kernel
theorem dl_250 : decode code 250 = .ok (.aload_n 0, 1) := by decide +kernel
theorem dl_251 : decode code 251 = .ok (.iload_n 3, 1) := by decide +kernel
theorem dl_252 : decode code 252 = .ok (.iconst 3, 1) := by decide +kernel
theorem dl_253 : decode code 253 = .ok (.iadd, 1) := by decide +kernel
theorem dl_254 : decode code 254 = .ok (.iaload, 1) := by decide +kernel
theorem dl_255 : decode code 255 = .ok (.invokevirtual 28, 3) := by decide +kernel
theorem dl_258 : decode code 258 = .ok (.aload_n 2, 1) := by decide +kernel
theorem dl_259 : decode code 259 = .ok (.aload_n 0, 1) := by decide +kernel
theorem dl_260 : decode code 260 = .ok (.iload_n 3, 1) := by decide +kernel
theorem dl_261 : decode code 261 = .ok (.iconst 1, 1) := by decide +kernel
theorem dl_262 : decode code 262 = .ok (.iadd, 1) := by decide +kernel
theorem dl_263 : decode code 263 = .ok (.iaload, 1) := by decide +kernel
theorem dl_264 : decode code 264 = .ok (.aload_n 0, 1) := by decide +kernel
theorem dl_265 : decode code 265 = .ok (.iload_n 3, 1) := by decide +kernel
theorem dl_266 : decode code 266 = .ok (.iconst 2, 1) := by decide +kernel
theorem dl_267 : decode code 267 = .ok (.iadd, 1) := by decide +kernel
theorem dl_268 : decode code 268 = .ok (.iaload, 1) := by decide +kernel
theorem dl_269 : decode code 269 = .ok (.aload_n 0, 1) := by decide +kernel
theorem dl_270 : decode code 270 = .ok (.iload_n 3, 1) := by decide +kernel
theorem dl_271 : decode code 271 = .ok (.iconst 3, 1) := by decide +kernel
theorem dl_272 : decode code 272 = .ok (.iadd, 1) := by decide +kernel
theorem dl_273 : decode code 273 = .ok (.iaload, 1) := by decide +kernel
theorem dl_274 : decode code 274 = .ok (.invokevirtual 32, 3) := by decide +kernel
theorem dl_277 : decode code 277 = .ok (.if_icmp .eq 506, 3) := by decide +kernel
theorem dl_282 : decode code 282 = .ok (.aload_n 1, 1) := by decide +kernel
theorem dl_283 : decode code 283 = .ok (.aload_n 0, 1) := by decide +kernel
theorem dl_284 : decode code 284 = .ok (.iload_n 3, 1) := by decide +kernel
theorem dl_285 : decode code 285 = .ok (.iconst 1, 1) := by decide +kernel
theorem dl_286 : decode code 286 = .ok (.iadd, 1) := by decide +kernel
theorem dl_287 : decode code 287 = .ok (.iaload, 1) := by decide +kernel
theorem dl_288 : decode code 288 = .ok (.aload_n 0, 1) := by decide +kernel
theorem dl_289 : decode code 289 = .ok (.iload_n 3, 1) := by decide +kernel
theorem dl_290 : decode code 290 = .ok (.iconst 2, 1) := by decide +kernel
theorem dl_291 : decode code 291 = .ok (.iadd, 1) := by decide +kernel
theorem dl_292 : decode code 292 = .ok (.iaload, 1) := by decide +kernel
theorem dl_293 : decode code 293 = .ok (.invokevirtual 33, 3) := by decide +kernel
theorem dl_296 : decode code 296 = .ok (.aload_n 2, 1) := by decide +kernel
theorem dl_297 : decode code 297 = .ok (.aload_n 0, 1) := by decide +kernel
theorem dl_298 : decode code 298 = .ok (.iload_n 3, 1) := by decide +kernel
theorem dl_299 : decode code 299 = .ok (.iconst 1, 1) := by decide +kernel
theorem dl_300 : decode code 300 = .ok (.iadd, 1) := by decide +kernel
theorem dl_301 : decode code 301 = .ok (.iaload, 1) := by decide +kernel
theorem dl_302 : decode code 302 = .ok (.aload_n 0, 1) := by decide +kernel
theorem dl_303 : decode code 303 = .ok (.iload_n 3, 1) := by decide +kernel
theorem dl_304 : decode code 304 = .ok (.iconst 2, 1) := by decide +kernel
theorem dl_305 : decode code 305 = .ok (.iadd, 1) := by decide +kernel
theorem dl_306 : decode code 306 = .ok (.iaload, 1) := by decide +kernel
theorem dl_307 : decode code 307 = .ok (.invokevirtual 36, 3) := by decide +kernel
theorem dl_310 : decode code 310 = .ok (.if_icmp .eq 473, 3) := by decide +kernel
theorem dl_315 : decode code 315 = .ok (.aload_n 1, 1) := by decide +kernel
theorem dl_316 : decode code 316 = .ok (.aload_n 0, 1) := by decide +kernel
theorem dl_317 : decode code 317 = .ok (.iload_n 3, 1) := by decide +kernel
theorem dl_318 : decode code 318 = .ok (.iconst 1, 1) := by decide +kernel
theorem dl_319 : decode code 319 = .ok (.iadd, 1) := by decide +kernel
theorem dl_320 : decode code 320 = .ok (.iaload, 1) := by decide +kernel
theorem dl_321 : decode code 321 = .ok (.invokevirtual 37, 3) := by decide +kernel
theorem dl_324 : decode code 324 = .ok (.aload_n 2, 1) := by decide +kernel
theorem dl_325 : decode code 325 = .ok (.aload_n 0, 1) := by decide +kernel
theorem dl_326 : decode code 326 = .ok (.iload_n 3, 1) := by decide +kernel
theorem dl_327 : decode code 327 = .ok (.iconst 1, 1) := by decide +kernel
theorem dl_328 : decode code 328 = .ok (.iadd, 1) := by decide +kernel
theorem dl_329 : decode code 329 = .ok (.iaload, 1) := by decide +kernel
theorem dl_330 : decode code 330 = .ok (.invokevirtual 41, 3) := by decide +kernel
theorem dl_333 : decode code 333 = .ok (.if_icmp .eq 450, 3) := by decide +kernel
theorem dl_338 : decode code 338 = .ok (.aload_n 1, 1) := by decide +kernel
theorem dl_339 : decode code 339 = .ok (.invokevirtual 42, 3) := by decide +kernel
theorem dl_342 : decode code 342 = .ok (.aload_n 2, 1) := by decide +kernel
theorem dl_343 : decode code 343 = .ok (.invokevirtual 45, 3) := by decide +kernel
theorem dl_346 : decode code 346 = .ok (.if_icmp .eq 437, 3) := by decide +kernel
theorem dl_351 : decode code 351 = .ok (.aload_n 1, 1) := by decide +kernel
theorem dl_352 : decode code 352 = .ok (.aload_n 0, 1) := by decide +kernel
theorem dl_353 : decode code 353 = .ok (.iload_n 3, 1) := by decide +kernel
theorem dl_354 : decode code 354 = .ok (.iconst 1, 1) := by decide +kernel
theorem dl_355 : decode code 355 = .ok (.iadd, 1) := by decide +kernel
theorem dl_356 : decode code 356 = .ok (.iaload, 1) := by decide +kernel
theorem dl_357 : decode code 357 = .ok (.invokevirtual 46, 3) := by decide +kernel
theorem dl_360 : decode code 360 = .ok (.aload_n 2, 1) := by decide +kernel
theorem dl_361 : decode code 361 = .ok (.aload_n 0, 1) := by decide +kernel
theorem dl_362 : decode code 362 = .ok (.iload_n 3, 1) := by decide +kernel
theorem dl_363 : decode code 363 = .ok (.iconst 1, 1) := by decide +kernel
theorem dl_364 : decode code 364 = .ok (.iadd, 1) := by decide +kernel
theorem dl_365 : decode code 365 = .ok (.iaload, 1) := by decide +kernel
theorem dl_366 : decode code 366 = .ok (.invokevirtual 49, 3) := by decide +kernel
theorem dl_369 : decode code 369 = .ok (.if_icmp .eq 414, 3) := by decide +kernel
theorem dl_374 : decode code 374 = .ok (.aload_n 1, 1) := by decide +kernel
theorem dl_375 : decode code 375 = .ok (.aload_n 0, 1) := by decide +kernel
theorem dl_376 : decode code 376 = .ok (.iload_n 3, 1) := by decide +kernel
theorem dl_377 : decode code 377 = .ok (.iconst 1, 1) := by decide +kernel
theorem dl_378 : decode code 378 = .ok (.iadd, 1) := by decide +kernel
theorem dl_379 : decode code 379 = .ok (.iaload, 1) := by decide +kernel
theorem dl_380 : decode code 380 = .ok (.i2c, 1) := by decide +kernel
theorem dl_381 : decode code 381 = .ok (.invokevirtual 50, 3) := by decide +kernel
theorem dl_384 : decode code 384 = .ok (.aload_n 2, 1) := by decide +kernel
theorem dl_385 : decode code 385 = .ok (.aload_n 0, 1) := by decide +kernel
theorem dl_386 : decode code 386 = .ok (.iload_n 3, 1) := by decide +kernel
theorem dl_387 : decode code 387 = .ok (.iconst 1, 1) := by decide +kernel
theorem dl_388 : decode code 388 = .ok (.iadd, 1) := by decide +kernel
theorem dl_389 : decode code 389 = .ok (.iaload, 1) := by decide +kernel
theorem dl_390 : decode code 390 = .ok (.i2c, 1) := by decide +kernel
theorem dl_391 : decode code 391 = .ok (.invokevirtual 54, 3) := by decide +kernel
theorem dl_394 : decode code 394 = .ok (.if_icmp .eq 389, 3) := by decide +kernel
theorem dl_399 : decode code 399 = .ok (.aload_n 1, 1) := by decide +kernel
theorem dl_400 : decode code 400 = .ok (.invokevirtual 55, 3) := by decide +kernel
theorem dl_403 : decode code 403 = .ok (.aload_n 2, 1) := by decide +kernel
theorem dl_404 : decode code 404 = .ok (.invokevirtual 58, 3) := by decide +kernel
theorem dl_407 : decode code 407 = .ok (.if_icmp .eq 376, 3) := by decide +kernel
theorem dl_412 : decode code 412 = .ok (.aload_n 1, 1) := by decide +kernel
theorem dl_413 : decode code 413 = .ok (.aload_n 0, 1) := by decide +kernel
theorem dl_414 : decode code 414 = .ok (.iload_n 3, 1) := by decide +kernel
theorem dl_415 : decode code 415 = .ok (.iconst 1, 1) := by decide +kernel
theorem dl_416 : decode code 416 = .ok (.iadd, 1) := by decide +kernel
theorem dl_417 : decode code 417 = .ok (.iaload, 1) := by decide +kernel
theorem dl_418 : decode code 418 = .ok (.ifCond .eq 7, 3) := by decide +kernel
theorem dl_421 : decode code 421 = .ok (.iconst 1, 1) := by decide +kernel
theorem dl_422 : decode code 422 = .ok (.goto 4, 3) := by decide +kernel
theorem dl_425 : decode code 425 = .ok (.iconst 0, 1) := by decide +kernel
theorem dl_426 : decode code 426 = .ok (.invokevirtual 59, 3) := by decide +kernel
theorem dl_429 : decode code 429 = .ok (.aload_n 2, 1) := by decide +kernel
theorem dl_430 : decode code 430 = .ok (.aload_n 0, 1) := by decide +kernel
theorem dl_431 : decode code 431 = .ok (.iload_n 3, 1) := by decide +kernel
theorem dl_432 : decode code 432 = .ok (.iconst 1, 1) := by decide +kernel
theorem dl_433 : decode code 433 = .ok (.iadd, 1) := by decide +kernel
theorem dl_434 : decode code 434 = .ok (.iaload, 1) := by decide +kernel
theorem dl_435 : decode code 435 = .ok (.ifCond .eq 7, 3) := by decide +kernel
theorem dl_438 : decode code 438 = .ok (.iconst 1, 1) := by decide +kernel
theorem dl_439 : decode code 439 = .ok (.goto 4, 3) := by decide +kernel
theorem dl_442 : decode code 442 = .ok (.iconst 0, 1) := by decide +kernel
theorem dl_443 : decode code 443 = .ok (.invokevirtual 63, 3) := by decide +kernel
theorem dl_446 : decode code 446 = .ok (.if_icmp .eq 337, 3) := by decide +kernel
theorem dl_451 : decode code 451 = .ok (.aload_n 1, 1) := by decide +kernel
theorem dl_452 : decode code 452 = .ok (.invokevirtual 64, 3) := by decide +kernel
theorem dl_455 : decode code 455 = .ok (.aload_n 2, 1) := by decide +kernel
theorem dl_456 : decode code 456 = .ok (.invokevirtual 67, 3) := by decide +kernel
theorem dl_459 : decode code 459 = .ok (.if_icmp .eq 324, 3) := by decide +kernel
theorem dl_464 : decode code 464 = .ok (.aload_n 1, 1) := by decide +kernel
theorem dl_465 : decode code 465 = .ok (.invokevirtual 68, 3) := by decide +kernel
theorem dl_468 : decode code 468 = .ok (.aload_n 2, 1) := by decide +kernel
theorem dl_469 : decode code 469 = .ok (.invokevirtual 71, 3) := by decide +kernel
theorem dl_472 : decode code 472 = .ok (.if_icmp .eq 311, 3) := by decide +kernel
theorem dl_477 : decode code 477 = .ok (.aload_n 1, 1) := by decide +kernel
theorem dl_478 : decode code 478 = .ok (.invokevirtual 72, 3) := by decide +kernel
theorem dl_481 : decode code 481 = .ok (.aload_n 2, 1) := by decide +kernel
theorem dl_482 : decode code 482 = .ok (.invokevirtual 75, 3) := by decide +kernel
theorem dl_485 : decode code 485 = .ok (.if_icmp .eq 298, 3) := by decide +kernel
theorem dl_490 : decode code 490 = .ok (.aload_n 1, 1) := by decide +kernel
theorem dl_491 : decode code 491 = .ok (.aload_n 0, 1) := by decide +kernel
theorem dl_492 : decode code 492 = .ok (.iload_n 3, 1) := by decide +kernel
theorem dl_493 : decode code 493 = .ok (.iconst 1, 1) := by decide +kernel
theorem dl_494 : decode code 494 = .ok (.iadd, 1) := by decide +kernel
theorem dl_495 : decode code 495 = .ok (.iaload, 1) := by decide +kernel
theorem dl_496 : decode code 496 = .ok (.aload_n 0, 1) := by decide +kernel
theorem dl_497 : decode code 497 = .ok (.iload_n 3, 1) := by decide +kernel
theorem dl_498 : decode code 498 = .ok (.iconst 2, 1) := by decide +kernel
theorem dl_499 : decode code 499 = .ok (.iadd, 1) := by decide +kernel
theorem dl_500 : decode code 500 = .ok (.iaload, 1) := by decide +kernel
theorem dl_501 : decode code 501 = .ok (.invokevirtual 76, 3) := by decide +kernel
theorem dl_504 : decode code 504 = .ok (.aload_n 2, 1) := by decide +kernel
theorem dl_505 : decode code 505 = .ok (.aload_n 0, 1) := by decide +kernel
theorem dl_506 : decode code 506 = .ok (.iload_n 3, 1) := by decide +kernel
theorem dl_507 : decode code 507 = .ok (.iconst 1, 1) := by decide +kernel
theorem dl_508 : decode code 508 = .ok (.iadd, 1) := by decide +kernel
theorem dl_509 : decode code 509 = .ok (.iaload, 1) := by decide +kernel
theorem dl_510 : decode code 510 = .ok (.aload_n 0, 1) := by decide +kernel
theorem dl_511 : decode code 511 = .ok (.iload_n 3, 1) := by decide +kernel
theorem dl_512 : decode code 512 = .ok (.iconst 2, 1) := by decide +kernel
theorem dl_513 : decode code 513 = .ok (.iadd, 1) := by decide +kernel
theorem dl_514 : decode code 514 = .ok (.iaload, 1) := by decide +kernel
theorem dl_515 : decode code 515 = .ok (.invokevirtual 79, 3) := by decide +kernel
theorem dl_518 : decode code 518 = .ok (.if_icmp .eq 265, 3) := by decide +kernel
theorem dl_523 : decode code 523 = .ok (.aload_n 1, 1) := by decide +kernel
theorem dl_524 : decode code 524 = .ok (.aload_n 0, 1) := by decide +kernel
theorem dl_525 : decode code 525 = .ok (.iload_n 3, 1) := by decide +kernel
theorem dl_526 : decode code 526 = .ok (.iconst 1, 1) := by decide +kernel
theorem dl_527 : decode code 527 = .ok (.iadd, 1) := by decide +kernel
theorem dl_528 : decode code 528 = .ok (.iaload, 1) := by decide +kernel
theorem dl_529 : decode code 529 = .ok (.aload_n 0, 1) := by decide +kernel
theorem dl_530 : decode code 530 = .ok (.iload_n 3, 1) := by decide +kernel
theorem dl_531 : decode code 531 = .ok (.iconst 2, 1) := by decide +kernel
theorem dl_532 : decode code 532 = .ok (.iadd, 1) := by decide +kernel
theorem dl_533 : decode code 533 = .ok (.iaload, 1) := by decide +kernel
theorem dl_534 : decode code 534 = .ok (.aload_n 0, 1) := by decide +kernel
theorem dl_535 : decode code 535 = .ok (.iload_n 3, 1) := by decide +kernel
theorem dl_536 : decode code 536 = .ok (.iconst 3, 1) := by decide +kernel
theorem dl_537 : decode code 537 = .ok (.iadd, 1) := by decide +kernel
theorem dl_538 : decode code 538 = .ok (.iaload, 1) := by decide +kernel
theorem dl_539 : decode code 539 = .ok (.invokevirtual 80, 3) := by decide +kernel
theorem dl_542 : decode code 542 = .ok (.aload_n 2, 1) := by decide +kernel
theorem dl_543 : decode code 543 = .ok (.aload_n 0, 1) := by decide +kernel
theorem dl_544 : decode code 544 = .ok (.iload_n 3, 1) := by decide +kernel
theorem dl_545 : decode code 545 = .ok (.iconst 1, 1) := by decide +kernel
theorem dl_546 : decode code 546 = .ok (.iadd, 1) := by decide +kernel
theorem dl_547 : decode code 547 = .ok (.iaload, 1) := by decide +kernel
theorem dl_548 : decode code 548 = .ok (.aload_n 0, 1) := by decide +kernel
theorem dl_549 : decode code 549 = .ok (.iload_n 3, 1) := by decide +kernel
theorem dl_550 : decode code 550 = .ok (.iconst 2, 1) := by decide +kernel
theorem dl_551 : decode code 551 = .ok (.iadd, 1) := by decide +kernel
theorem dl_552 : decode code 552 = .ok (.iaload, 1) := by decide +kernel
theorem dl_553 : decode code 553 = .ok (.aload_n 0, 1) := by decide +kernel
theorem dl_554 : decode code 554 = .ok (.iload_n 3, 1) := by decide +kernel
theorem dl_555 : decode code 555 = .ok (.iconst 3, 1) := by decide +kernel
theorem dl_556 : decode code 556 = .ok (.iadd, 1) := by decide +kernel
theorem dl_557 : decode code 557 = .ok (.iaload, 1) := by decide +kernel
theorem dl_558 : decode code 558 = .ok (.invokevirtual 83, 3) := by decide +kernel
theorem dl_561 : decode code 561 = .ok (.if_icmp .eq 222, 3) := by decide +kernel
theorem dl_566 : decode code 566 = .ok (.aload_n 1, 1) := by decide +kernel
theorem dl_567 : decode code 567 = .ok (.aload_n 0, 1) := by decide +kernel
theorem dl_568 : decode code 568 = .ok (.iload_n 3, 1) := by decide +kernel
theorem dl_569 : decode code 569 = .ok (.iconst 1, 1) := by decide +kernel
theorem dl_570 : decode code 570 = .ok (.iadd, 1) := by decide +kernel
theorem dl_571 : decode code 571 = .ok (.iaload, 1) := by decide +kernel
theorem dl_572 : decode code 572 = .ok (.aload_n 0, 1) := by decide +kernel
theorem dl_573 : decode code 573 = .ok (.iload_n 3, 1) := by decide +kernel
theorem dl_574 : decode code 574 = .ok (.iconst 2, 1) := by decide +kernel
theorem dl_575 : decode code 575 = .ok (.iadd, 1) := by decide +kernel
theorem dl_576 : decode code 576 = .ok (.iaload, 1) := by decide +kernel
theorem dl_577 : decode code 577 = .ok (.invokevirtual 84, 3) := by decide +kernel
theorem dl_580 : decode code 580 = .ok (.aload_n 2, 1) := by decide +kernel
theorem dl_581 : decode code 581 = .ok (.aload_n 0, 1) := by decide +kernel
theorem dl_582 : decode code 582 = .ok (.iload_n 3, 1) := by decide +kernel
theorem dl_583 : decode code 583 = .ok (.iconst 1, 1) := by decide +kernel
theorem dl_584 : decode code 584 = .ok (.iadd, 1) := by decide +kernel
theorem dl_585 : decode code 585 = .ok (.iaload, 1) := by decide +kernel
theorem dl_586 : decode code 586 = .ok (.aload_n 0, 1) := by decide +kernel
theorem dl_587 : decode code 587 = .ok (.iload_n 3, 1) := by decide +kernel
theorem dl_588 : decode code 588 = .ok (.iconst 2, 1) := by decide +kernel
theorem dl_589 : decode code 589 = .ok (.iadd, 1) := by decide +kernel
theorem dl_590 : decode code 590 = .ok (.iaload, 1) := by decide +kernel
theorem dl_591 : decode code 591 = .ok (.invokevirtual 87, 3) := by decide +kernel
theorem dl_594 : decode code 594 = .ok (.if_icmp .eq 189, 3) := by decide +kernel
theorem dl_599 : decode code 599 = .ok (.aload_n 1, 1) := by decide +kernel
theorem dl_600 : decode code 600 = .ok (.aload_n 0, 1) := by decide +kernel
theorem dl_601 : decode code 601 = .ok (.iload_n 3, 1) := by decide +kernel
theorem dl_602 : decode code 602 = .ok (.iconst 1, 1) := by decide +kernel
theorem dl_603 : decode code 603 = .ok (.iadd, 1) := by decide +kernel
theorem dl_604 : decode code 604 = .ok (.iaload, 1) := by decide +kernel
theorem dl_605 : decode code 605 = .ok (.aload_n 0, 1) := by decide +kernel
theorem dl_606 : decode code 606 = .ok (.iload_n 3, 1) := by decide +kernel
theorem dl_607 : decode code 607 = .ok (.iconst 2, 1) := by decide +kernel
theorem dl_608 : decode code 608 = .ok (.iadd, 1) := by decide +kernel
theorem dl_609 : decode code 609 = .ok (.iaload, 1) := by decide +kernel
theorem dl_610 : decode code 610 = .ok (.invokevirtual 88, 3) := by decide +kernel
theorem dl_613 : decode code 613 = .ok (.aload_n 2, 1) := by decide +kernel
theorem dl_614 : decode code 614 = .ok (.aload_n 0, 1) := by decide +kernel
theorem dl_615 : decode code 615 = .ok (.iload_n 3, 1) := by decide +kernel
theorem dl_616 : decode code 616 = .ok (.iconst 1, 1) := by decide +kernel
theorem dl_617 : decode code 617 = .ok (.iadd, 1) := by decide +kernel
theorem dl_618 : decode code 618 = .ok (.iaload, 1) := by decide +kernel
theorem dl_619 : decode code 619 = .ok (.aload_n 0, 1) := by decide +kernel
theorem dl_620 : decode code 620 = .ok (.iload_n 3, 1) := by decide +kernel
theorem dl_621 : decode code 621 = .ok (.iconst 2, 1) := by decide +kernel
theorem dl_622 : decode code 622 = .ok (.iadd, 1) := by decide +kernel
theorem dl_623 : decode code 623 = .ok (.iaload, 1) := by decide +kernel
theorem dl_624 : decode code 624 = .ok (.invokevirtual 91, 3) := by decide +kernel
theorem dl_627 : decode code 627 = .ok (.if_icmp .eq 156, 3) := by decide +kernel
theorem dl_632 : decode code 632 = .ok (.aload_n 1, 1) := by decide +kernel
theorem dl_633 : decode code 633 = .ok (.aload_n 0, 1) := by decide +kernel
theorem dl_634 : decode code 634 = .ok (.iload_n 3, 1) := by decide +kernel
theorem dl_635 : decode code 635 = .ok (.iconst 1, 1) := by decide +kernel
theorem dl_636 : decode code 636 = .ok (.iadd, 1) := by decide +kernel
theorem dl_637 : decode code 637 = .ok (.iaload, 1) := by decide +kernel
theorem dl_638 : decode code 638 = .ok (.invokevirtual 92, 3) := by decide +kernel
theorem dl_641 : decode code 641 = .ok (.aload_n 2, 1) := by decide +kernel
theorem dl_642 : decode code 642 = .ok (.aload_n 0, 1) := by decide +kernel
theorem dl_643 : decode code 643 = .ok (.iload_n 3, 1) := by decide +kernel
theorem dl_644 : decode code 644 = .ok (.iconst 1, 1) := by decide +kernel
theorem dl_645 : decode code 645 = .ok (.iadd, 1) := by decide +kernel
theorem dl_646 : decode code 646 = .ok (.iaload, 1) := by decide +kernel
theorem dl_647 : decode code 647 = .ok (.invokevirtual 95, 3) := by decide +kernel
theorem dl_650 : decode code 650 = .ok (.if_icmp .eq 133, 3) := by decide +kernel
theorem dl_655 : decode code 655 = .ok (.aload_n 1, 1) := by decide +kernel
theorem dl_656 : decode code 656 = .ok (.aload_n 0, 1) := by decide +kernel
theorem dl_657 : decode code 657 = .ok (.iload_n 3, 1) := by decide +kernel
theorem dl_658 : decode code 658 = .ok (.iconst 1, 1) := by decide +kernel
theorem dl_659 : decode code 659 = .ok (.iadd, 1) := by decide +kernel
theorem dl_660 : decode code 660 = .ok (.iaload, 1) := by decide +kernel
theorem dl_661 : decode code 661 = .ok (.aload_n 0, 1) := by decide +kernel
theorem dl_662 : decode code 662 = .ok (.iload_n 3, 1) := by decide +kernel
theorem dl_663 : decode code 663 = .ok (.iconst 2, 1) := by decide +kernel
theorem dl_664 : decode code 664 = .ok (.iadd, 1) := by decide +kernel
theorem dl_665 : decode code 665 = .ok (.iaload, 1) := by decide +kernel
theorem dl_666 : decode code 666 = .ok (.invokevirtual 96, 3) := by decide +kernel
theorem dl_669 : decode code 669 = .ok (.aload_n 2, 1) := by decide +kernel
theorem dl_670 : decode code 670 = .ok (.aload_n 0, 1) := by decide +kernel
theorem dl_671 : decode code 671 = .ok (.iload_n 3, 1) := by decide +kernel
theorem dl_672 : decode code 672 = .ok (.iconst 1, 1) := by decide +kernel
theorem dl_673 : decode code 673 = .ok (.iadd, 1) := by decide +kernel
theorem dl_674 : decode code 674 = .ok (.iaload, 1) := by decide +kernel
theorem dl_675 : decode code 675 = .ok (.aload_n 0, 1) := by decide +kernel
theorem dl_676 : decode code 676 = .ok (.iload_n 3, 1) := by decide +kernel
theorem dl_677 : decode code 677 = .ok (.iconst 2, 1) := by decide +kernel
theorem dl_678 : decode code 678 = .ok (.iadd, 1) := by decide +kernel
theorem dl_679 : decode code 679 = .ok (.iaload, 1) := by decide +kernel
theorem dl_680 : decode code 680 = .ok (.invokevirtual 99, 3) := by decide +kernel
theorem dl_683 : decode code 683 = .ok (.if_icmp .eq 100, 3) := by decide +kernel
theorem dl_688 : decode code 688 = .ok (.aload_n 1, 1) := by decide +kernel
theorem dl_689 : decode code 689 = .ok (.aload_n 0, 1) := by decide +kernel
theorem dl_690 : decode code 690 = .ok (.iload_n 3, 1) := by decide +kernel
theorem dl_691 : decode code 691 = .ok (.iconst 1, 1) := by decide +kernel
theorem dl_692 : decode code 692 = .ok (.iadd, 1) := by decide +kernel
theorem dl_693 : decode code 693 = .ok (.iaload, 1) := by decide +kernel
theorem dl_694 : decode code 694 = .ok (.invokevirtual 100, 3) := by decide +kernel
theorem dl_697 : decode code 697 = .ok (.aload_n 2, 1) := by decide +kernel
theorem dl_698 : decode code 698 = .ok (.aload_n 0, 1) := by decide +kernel
theorem dl_699 : decode code 699 = .ok (.iload_n 3, 1) := by decide +kernel
theorem dl_700 : decode code 700 = .ok (.iconst 1, 1) := by decide +kernel
theorem dl_701 : decode code 701 = .ok (.iadd, 1) := by decide +kernel
theorem dl_702 : decode code 702 = .ok (.iaload, 1) := by decide +kernel
theorem dl_703 : decode code 703 = .ok (.invokevirtual 103, 3) := by decide +kernel
theorem dl_706 : decode code 706 = .ok (.if_icmp .eq 77, 3) := by decide +kernel
theorem dl_711 : decode code 711 = .ok (.aload_n 1, 1) := by decide +kernel
theorem dl_712 : decode code 712 = .ok (.aload_n 0, 1) := by decide +kernel
theorem dl_713 : decode code 713 = .ok (.iload_n 3, 1) := by decide +kernel
theorem dl_714 : decode code 714 = .ok (.iconst 1, 1) := by decide +kernel
theorem dl_715 : decode code 715 = .ok (.iadd, 1) := by decide +kernel
theorem dl_716 : decode code 716 = .ok (.iaload, 1) := by decide +kernel
theorem dl_717 : decode code 717 = .ok (.aload_n 0, 1) := by decide +kernel
theorem dl_718 : decode code 718 = .ok (.iload_n 3, 1) := by decide +kernel
theorem dl_719 : decode code 719 = .ok (.iconst 2, 1) := by decide +kernel
theorem dl_720 : decode code 720 = .ok (.iadd, 1) := by decide +kernel
theorem dl_721 : decode code 721 = .ok (.iaload, 1) := by decide +kernel
theorem dl_722 : decode code 722 = .ok (.ifCond .eq 7, 3) := by decide +kernel
theorem dl_725 : decode code 725 = .ok (.iconst 1, 1) := by decide +kernel
theorem dl_726 : decode code 726 = .ok (.goto 4, 3) := by decide +kernel
theorem dl_729 : decode code 729 = .ok (.iconst 0, 1) := by decide +kernel
theorem dl_730 : decode code 730 = .ok (.invokevirtual 104, 3) := by decide +kernel
theorem dl_733 : decode code 733 = .ok (.aload_n 2, 1) := by decide +kernel
theorem dl_734 : decode code 734 = .ok (.aload_n 0, 1) := by decide +kernel
theorem dl_735 : decode code 735 = .ok (.iload_n 3, 1) := by decide +kernel
theorem dl_736 : decode code 736 = .ok (.iconst 1, 1) := by decide +kernel
theorem dl_737 : decode code 737 = .ok (.iadd, 1) := by decide +kernel
theorem dl_738 : decode code 738 = .ok (.iaload, 1) := by decide +kernel
theorem dl_739 : decode code 739 = .ok (.aload_n 0, 1) := by decide +kernel
theorem dl_740 : decode code 740 = .ok (.iload_n 3, 1) := by decide +kernel
theorem dl_741 : decode code 741 = .ok (.iconst 2, 1) := by decide +kernel
theorem dl_742 : decode code 742 = .ok (.iadd, 1) := by decide +kernel
theorem dl_743 : decode code 743 = .ok (.iaload, 1) := by decide +kernel
theorem dl_744 : decode code 744 = .ok (.ifCond .eq 7, 3) := by decide +kernel
theorem dl_747 : decode code 747 = .ok (.iconst 1, 1) := by decide +kernel
theorem dl_748 : decode code 748 = .ok (.goto 4, 3) := by decide +kernel
theorem dl_751 : decode code 751 = .ok (.iconst 0, 1) := by decide +kernel
theorem dl_752 : decode code 752 = .ok (.invokevirtual 108, 3) := by decide +kernel
theorem dl_755 : decode code 755 = .ok (.if_icmp .eq 28, 3) := by decide +kernel
theorem dl_760 : decode code 760 = .ok (.aload_n 1, 1) := by decide +kernel
theorem dl_761 : decode code 761 = .ok (.aload_n 0, 1) := by decide +kernel
theorem dl_762 : decode code 762 = .ok (.iload_n 3, 1) := by decide +kernel
theorem dl_763 : decode code 763 = .ok (.iconst 1, 1) := by decide +kernel
theorem dl_764 : decode code 764 = .ok (.iadd, 1) := by decide +kernel
theorem dl_765 : decode code 765 = .ok (.iaload, 1) := by decide +kernel
theorem dl_766 : decode code 766 = .ok (.invokevirtual 109, 3) := by decide +kernel
theorem dl_769 : decode code 769 = .ok (.aload_n 2, 1) := by decide +kernel
theorem dl_770 : decode code 770 = .ok (.aload_n 0, 1) := by decide +kernel
theorem dl_771 : decode code 771 = .ok (.iload_n 3, 1) := by decide +kernel
theorem dl_772 : decode code 772 = .ok (.iconst 1, 1) := by decide +kernel
theorem dl_773 : decode code 773 = .ok (.iadd, 1) := by decide +kernel
theorem dl_774 : decode code 774 = .ok (.iaload, 1) := by decide +kernel
theorem dl_775 : decode code 775 = .ok (.invokevirtual 112, 3) := by decide +kernel
theorem dl_778 : decode code 778 = .ok (.if_icmp .eq 5, 3) := by decide +kernel
theorem lc_0 {G : zG} {p : Program} {l : Launch} {e : Env} {s : State} {m : MethodId} {below : List Frame} {meth : Method} {c : Code} {b L : Nat} {xs : Nat → Int32} {i : Nat} {μ : zM} (K : LC G p s m meth c b L xs) (hi : i + 4 < L) (B : zB μ) (R : Rz μ) (loop : ∀ μ' : zM, zB μ' → Rz μ' → LW G p l e s m below meth c b 120 7796 783 (LV G b i) [] zSh μ') : LW G p l e s m below meth c b 120 7796 140 (LV G b i) [] zSh μ := by
  refine LW.xo K dl_140 ?_
  refine LW.arg (k := 1) K dl_141 dl_142 dl_143 dl_144 dl_145 rfl (by omega) ?_
  refine LW.arg (k := 2) K dl_146 dl_147 dl_148 dl_149 dl_150 rfl (by omega) ?_
  refine LW.cV (mc := md_5_addWord) (k := 0) (n := 2) (As := [zi ((xs (i + 1)).toInt), zi ((xs (i + 2)).toInt)]) (rest := []) K dl_151 zw_170 ok_5_addWord rfl rfl rfl ⟨by decide, by decide⟩ trivial (xz_addWord B ((xs (i + 1)).toInt) ((xs (i + 2)).toInt) R.2.2.1 (z32_r _) (z32_r _)) rfl rfl ?_
  refine LW.mo K dl_154 ?_
  refine LW.arg (k := 1) K dl_155 dl_156 dl_157 dl_158 dl_159 rfl (by omega) ?_
  refine LW.arg (k := 2) K dl_160 dl_161 dl_162 dl_163 dl_164 rfl (by omega) ?_
  refine LW.cV (mc := md_6_addWord) (k := 113) (n := 2) (As := [zi ((xs (i + 1)).toInt), zi ((xs (i + 2)).toInt)]) (rest := [zi (xx_addWord μ ((xs (i + 1)).toInt) ((xs (i + 2)).toInt)).1]) K dl_165 zw_618 ok_6_addWord rfl rfl rfl ⟨by decide, by decide⟩ trivial (mz_addWord (xb_addWord B ((xs (i + 1)).toInt) ((xs (i + 2)).toInt) R.2.2.1 (z32_r _) (z32_r _)) ((xs (i + 1)).toInt) ((xs (i + 2)).toInt) (z32_r _) (z32_r _)) rfl rfl ?_
  exact LW.same K dl_168 (by decide) (b_addWord R ((xs (i + 1)).toInt) ((xs (i + 2)).toInt)).1 (loop _ (mb_addWord (xb_addWord B ((xs (i + 1)).toInt) ((xs (i + 2)).toInt) R.2.2.1 (z32_r _) (z32_r _)) ((xs (i + 1)).toInt) ((xs (i + 2)).toInt) (z32_r _) (z32_r _)) (b_addWord R ((xs (i + 1)).toInt) ((xs (i + 2)).toInt)).2)
theorem lc_1 {G : zG} {p : Program} {l : Launch} {e : Env} {s : State} {m : MethodId} {below : List Frame} {meth : Method} {c : Code} {b L : Nat} {xs : Nat → Int32} {i : Nat} {μ : zM} (K : LC G p s m meth c b L xs) (hi : i + 4 < L) (B : zB μ) (R : Rz μ) (loop : ∀ μ' : zM, zB μ' → Rz μ' → LW G p l e s m below meth c b 120 7796 783 (LV G b i) [] zSh μ') : LW G p l e s m below meth c b 120 7796 173 (LV G b i) [] zSh μ := by
  refine LW.xo K dl_173 ?_
  refine LW.arg (k := 1) K dl_174 dl_175 dl_176 dl_177 dl_178 rfl (by omega) ?_
  refine LW.arg (k := 2) K dl_179 dl_180 dl_181 dl_182 dl_183 rfl (by omega) ?_
  refine LW.arg (k := 3) K dl_184 dl_185 dl_186 dl_187 dl_188 rfl (by omega) ?_
  refine LW.arg (k := 4) K dl_189 dl_190 dl_191 dl_192 dl_193 rfl (by omega) ?_
  refine LW.cV (mc := md_5_setEnding) (k := 0) (n := 4) (As := [zi ((xs (i + 1)).toInt), zi ((xs (i + 2)).toInt), zi ((xs (i + 3)).toInt), zi ((xs (i + 4)).toInt)]) (rest := []) K dl_194 zw_239 ok_5_setEnding rfl rfl rfl ⟨by decide, by decide⟩ trivial (xz_setEnding B ((xs (i + 1)).toInt) ((xs (i + 2)).toInt) ((xs (i + 3)).toInt) ((xs (i + 4)).toInt) R.2.2.1 (z32_r _) (z32_r _) (z32_r _) (z32_r _)) rfl rfl ?_
  refine LW.mo K dl_197 ?_
  refine LW.arg (k := 1) K dl_198 dl_199 dl_200 dl_201 dl_202 rfl (by omega) ?_
  refine LW.arg (k := 2) K dl_203 dl_204 dl_205 dl_206 dl_207 rfl (by omega) ?_
  refine LW.arg (k := 3) K dl_208 dl_209 dl_210 dl_211 dl_212 rfl (by omega) ?_
  refine LW.arg (k := 4) K dl_213 dl_214 dl_215 dl_216 dl_217 rfl (by omega) ?_
  refine LW.cV (mc := md_6_setEnding) (k := 113) (n := 4) (As := [zi ((xs (i + 1)).toInt), zi ((xs (i + 2)).toInt), zi ((xs (i + 3)).toInt), zi ((xs (i + 4)).toInt)]) (rest := [zi (xx_setEnding μ ((xs (i + 1)).toInt) ((xs (i + 2)).toInt) ((xs (i + 3)).toInt) ((xs (i + 4)).toInt)).1]) K dl_218 zw_645 ok_6_setEnding rfl rfl rfl ⟨by decide, by decide⟩ trivial (mz_setEnding (xb_setEnding B ((xs (i + 1)).toInt) ((xs (i + 2)).toInt) ((xs (i + 3)).toInt) ((xs (i + 4)).toInt) R.2.2.1 (z32_r _) (z32_r _) (z32_r _) (z32_r _)) ((xs (i + 1)).toInt) ((xs (i + 2)).toInt) ((xs (i + 3)).toInt) ((xs (i + 4)).toInt) (z32_r _) (z32_r _) (z32_r _) (z32_r _)) rfl rfl ?_
  exact LW.same K dl_221 (by decide) (b_setEnding R ((xs (i + 1)).toInt) ((xs (i + 2)).toInt) ((xs (i + 3)).toInt) ((xs (i + 4)).toInt)).1 (loop _ (mb_setEnding (xb_setEnding B ((xs (i + 1)).toInt) ((xs (i + 2)).toInt) ((xs (i + 3)).toInt) ((xs (i + 4)).toInt) R.2.2.1 (z32_r _) (z32_r _) (z32_r _) (z32_r _)) ((xs (i + 1)).toInt) ((xs (i + 2)).toInt) ((xs (i + 3)).toInt) ((xs (i + 4)).toInt) (z32_r _) (z32_r _) (z32_r _) (z32_r _)) (b_setEnding R ((xs (i + 1)).toInt) ((xs (i + 2)).toInt) ((xs (i + 3)).toInt) ((xs (i + 4)).toInt)).2)
theorem lc_2 {G : zG} {p : Program} {l : Launch} {e : Env} {s : State} {m : MethodId} {below : List Frame} {meth : Method} {c : Code} {b L : Nat} {xs : Nat → Int32} {i : Nat} {μ : zM} (K : LC G p s m meth c b L xs) (hi : i + 4 < L) (B : zB μ) (R : Rz μ) (loop : ∀ μ' : zM, zB μ' → Rz μ' → LW G p l e s m below meth c b 120 7796 783 (LV G b i) [] zSh μ') : LW G p l e s m below meth c b 120 7796 226 (LV G b i) [] zSh μ := by
  refine LW.xo K dl_226 ?_
  refine LW.cV (mc := md_5_readTale) (k := 0) (n := 0) (As := []) (rest := []) K dl_227 zw_255 ok_5_readTale rfl rfl rfl ⟨by decide, by decide⟩ trivial (xz_readTale B R.2.2.1) rfl rfl ?_
  refine LW.mo K dl_230 ?_
  refine LW.cV (mc := md_6_readTale) (k := 113) (n := 0) (As := []) (rest := [zi (xx_readTale μ).1]) K dl_231 zw_654 ok_6_readTale rfl rfl rfl ⟨by decide, by decide⟩ trivial (mz_readTale (xb_readTale B R.2.2.1)) rfl rfl ?_
  exact LW.same K dl_234 (by decide) (b_readTale R).1 (loop _ (mb_readTale (xb_readTale B R.2.2.1)) (b_readTale R).2)
theorem lc_3 {G : zG} {p : Program} {l : Launch} {e : Env} {s : State} {m : MethodId} {below : List Frame} {meth : Method} {c : Code} {b L : Nat} {xs : Nat → Int32} {i : Nat} {μ : zM} (K : LC G p s m meth c b L xs) (hi : i + 4 < L) (B : zB μ) (R : Rz μ) (loop : ∀ μ' : zM, zB μ' → Rz μ' → LW G p l e s m below meth c b 120 7796 783 (LV G b i) [] zSh μ') : LW G p l e s m below meth c b 120 7796 239 (LV G b i) [] zSh μ := by
  refine LW.xo K dl_239 ?_
  refine LW.arg (k := 1) K dl_240 dl_241 dl_242 dl_243 dl_244 rfl (by omega) ?_
  refine LW.arg (k := 2) K dl_245 dl_246 dl_247 dl_248 dl_249 rfl (by omega) ?_
  refine LW.arg (k := 3) K dl_250 dl_251 dl_252 dl_253 dl_254 rfl (by omega) ?_
  refine LW.cV (mc := md_5_setTie) (k := 0) (n := 3) (As := [zi ((xs (i + 1)).toInt), zi ((xs (i + 2)).toInt), zi ((xs (i + 3)).toInt)]) (rest := []) K dl_255 zw_297 ok_5_setTie rfl rfl rfl ⟨by decide, by decide⟩ trivial (xz_setTie B ((xs (i + 1)).toInt) ((xs (i + 2)).toInt) ((xs (i + 3)).toInt) R.2.2.1 (z32_r _) (z32_r _) (z32_r _)) rfl rfl ?_
  refine LW.mo K dl_258 ?_
  refine LW.arg (k := 1) K dl_259 dl_260 dl_261 dl_262 dl_263 rfl (by omega) ?_
  refine LW.arg (k := 2) K dl_264 dl_265 dl_266 dl_267 dl_268 rfl (by omega) ?_
  refine LW.arg (k := 3) K dl_269 dl_270 dl_271 dl_272 dl_273 rfl (by omega) ?_
  refine LW.cV (mc := md_6_setTie) (k := 113) (n := 3) (As := [zi ((xs (i + 1)).toInt), zi ((xs (i + 2)).toInt), zi ((xs (i + 3)).toInt)]) (rest := [zi (xx_setTie μ ((xs (i + 1)).toInt) ((xs (i + 2)).toInt) ((xs (i + 3)).toInt)).1]) K dl_274 zw_686 ok_6_setTie rfl rfl rfl ⟨by decide, by decide⟩ trivial (mz_setTie (xb_setTie B ((xs (i + 1)).toInt) ((xs (i + 2)).toInt) ((xs (i + 3)).toInt) R.2.2.1 (z32_r _) (z32_r _) (z32_r _)) ((xs (i + 1)).toInt) ((xs (i + 2)).toInt) ((xs (i + 3)).toInt) (z32_r _) (z32_r _) (z32_r _)) rfl rfl ?_
  exact LW.same K dl_277 (by decide) (b_setTie R ((xs (i + 1)).toInt) ((xs (i + 2)).toInt) ((xs (i + 3)).toInt)).1 (loop _ (mb_setTie (xb_setTie B ((xs (i + 1)).toInt) ((xs (i + 2)).toInt) ((xs (i + 3)).toInt) R.2.2.1 (z32_r _) (z32_r _) (z32_r _)) ((xs (i + 1)).toInt) ((xs (i + 2)).toInt) ((xs (i + 3)).toInt) (z32_r _) (z32_r _) (z32_r _)) (b_setTie R ((xs (i + 1)).toInt) ((xs (i + 2)).toInt) ((xs (i + 3)).toInt)).2)
theorem lc_4 {G : zG} {p : Program} {l : Launch} {e : Env} {s : State} {m : MethodId} {below : List Frame} {meth : Method} {c : Code} {b L : Nat} {xs : Nat → Int32} {i : Nat} {μ : zM} (K : LC G p s m meth c b L xs) (hi : i + 4 < L) (B : zB μ) (R : Rz μ) (loop : ∀ μ' : zM, zB μ' → Rz μ' → LW G p l e s m below meth c b 120 7796 783 (LV G b i) [] zSh μ') : LW G p l e s m below meth c b 120 7796 282 (LV G b i) [] zSh μ := by
  refine LW.xo K dl_282 ?_
  refine LW.arg (k := 1) K dl_283 dl_284 dl_285 dl_286 dl_287 rfl (by omega) ?_
  refine LW.arg (k := 2) K dl_288 dl_289 dl_290 dl_291 dl_292 rfl (by omega) ?_
  refine LW.cV (mc := md_5_fill) (k := 0) (n := 2) (As := [zi ((xs (i + 1)).toInt), zi ((xs (i + 2)).toInt)]) (rest := []) K dl_293 zw_301 ok_5_fill rfl rfl rfl ⟨by decide, by decide⟩ trivial (xz_fill B ((xs (i + 1)).toInt) ((xs (i + 2)).toInt) R.2.2.1 (z32_r _) (z32_r _)) rfl rfl ?_
  refine LW.mo K dl_296 ?_
  refine LW.arg (k := 1) K dl_297 dl_298 dl_299 dl_300 dl_301 rfl (by omega) ?_
  refine LW.arg (k := 2) K dl_302 dl_303 dl_304 dl_305 dl_306 rfl (by omega) ?_
  refine LW.cV (mc := md_6_fill) (k := 113) (n := 2) (As := [zi ((xs (i + 1)).toInt), zi ((xs (i + 2)).toInt)]) (rest := [zi (xx_fill μ ((xs (i + 1)).toInt) ((xs (i + 2)).toInt)).1]) K dl_307 zw_702 ok_6_fill rfl rfl rfl ⟨by decide, by decide⟩ trivial (mz_fill (xb_fill B ((xs (i + 1)).toInt) ((xs (i + 2)).toInt) R.2.2.1 (z32_r _) (z32_r _)) ((xs (i + 1)).toInt) ((xs (i + 2)).toInt) (z32_r _) (z32_r _)) rfl rfl ?_
  exact LW.same K dl_310 (by decide) (b_fill R ((xs (i + 1)).toInt) ((xs (i + 2)).toInt)).1 (loop _ (mb_fill (xb_fill B ((xs (i + 1)).toInt) ((xs (i + 2)).toInt) R.2.2.1 (z32_r _) (z32_r _)) ((xs (i + 1)).toInt) ((xs (i + 2)).toInt) (z32_r _) (z32_r _)) (b_fill R ((xs (i + 1)).toInt) ((xs (i + 2)).toInt)).2)
theorem lc_5 {G : zG} {p : Program} {l : Launch} {e : Env} {s : State} {m : MethodId} {below : List Frame} {meth : Method} {c : Code} {b L : Nat} {xs : Nat → Int32} {i : Nat} {μ : zM} (K : LC G p s m meth c b L xs) (hi : i + 4 < L) (B : zB μ) (R : Rz μ) (loop : ∀ μ' : zM, zB μ' → Rz μ' → LW G p l e s m below meth c b 120 7796 783 (LV G b i) [] zSh μ') : LW G p l e s m below meth c b 120 7796 315 (LV G b i) [] zSh μ := by
  refine LW.xo K dl_315 ?_
  refine LW.arg (k := 1) K dl_316 dl_317 dl_318 dl_319 dl_320 rfl (by omega) ?_
  refine LW.cV (mc := md_5_empty) (k := 0) (n := 1) (As := [zi ((xs (i + 1)).toInt)]) (rest := []) K dl_321 zw_357 ok_5_empty rfl rfl rfl ⟨by decide, by decide⟩ trivial (xz_empty B ((xs (i + 1)).toInt) R.2.2.1 (z32_r _)) rfl rfl ?_
  refine LW.mo K dl_324 ?_
  refine LW.arg (k := 1) K dl_325 dl_326 dl_327 dl_328 dl_329 rfl (by omega) ?_
  refine LW.cV (mc := md_6_empty) (k := 113) (n := 1) (As := [zi ((xs (i + 1)).toInt)]) (rest := [zi (xx_empty μ ((xs (i + 1)).toInt)).1]) K dl_330 zw_738 ok_6_empty rfl rfl rfl ⟨by decide, by decide⟩ trivial (mz_empty (xb_empty B ((xs (i + 1)).toInt) R.2.2.1 (z32_r _)) ((xs (i + 1)).toInt) (z32_r _)) rfl rfl ?_
  exact LW.same K dl_333 (by decide) (b_empty R ((xs (i + 1)).toInt)).1 (loop _ (mb_empty (xb_empty B ((xs (i + 1)).toInt) R.2.2.1 (z32_r _)) ((xs (i + 1)).toInt) (z32_r _)) (b_empty R ((xs (i + 1)).toInt)).2)
theorem lc_6 {G : zG} {p : Program} {l : Launch} {e : Env} {s : State} {m : MethodId} {below : List Frame} {meth : Method} {c : Code} {b L : Nat} {xs : Nat → Int32} {i : Nat} {μ : zM} (K : LC G p s m meth c b L xs) (hi : i + 4 < L) (B : zB μ) (R : Rz μ) (loop : ∀ μ' : zM, zB μ' → Rz μ' → LW G p l e s m below meth c b 120 7796 783 (LV G b i) [] zSh μ') : LW G p l e s m below meth c b 120 7796 338 (LV G b i) [] zSh μ := by
  refine LW.xo K dl_338 ?_
  refine LW.cV (mc := md_5_fillAll) (k := 0) (n := 0) (As := []) (rest := []) K dl_339 zw_361 ok_5_fillAll rfl rfl rfl ⟨by decide, by decide⟩ trivial (xz_fillAll B R.2.2.1) rfl rfl ?_
  refine LW.mo K dl_342 ?_
  refine LW.cV (mc := md_6_fillAll) (k := 113) (n := 0) (As := []) (rest := [zi (xx_fillAll μ).1]) K dl_343 zw_742 ok_6_fillAll rfl rfl rfl ⟨by decide, by decide⟩ trivial (mz_fillAll (xb_fillAll B R.2.2.1)) rfl rfl ?_
  exact LW.same K dl_346 (by decide) (b_fillAll R).1 (loop _ (mb_fillAll (xb_fillAll B R.2.2.1)) (b_fillAll R).2)
theorem lc_7 {G : zG} {p : Program} {l : Launch} {e : Env} {s : State} {m : MethodId} {below : List Frame} {meth : Method} {c : Code} {b L : Nat} {xs : Nat → Int32} {i : Nat} {μ : zM} (K : LC G p s m meth c b L xs) (hi : i + 4 < L) (B : zB μ) (R : Rz μ) (loop : ∀ μ' : zM, zB μ' → Rz μ' → LW G p l e s m below meth c b 120 7796 783 (LV G b i) [] zSh μ') : LW G p l e s m below meth c b 120 7796 351 (LV G b i) [] zSh μ := by
  refine LW.xo K dl_351 ?_
  refine LW.arg (k := 1) K dl_352 dl_353 dl_354 dl_355 dl_356 rfl (by omega) ?_
  refine LW.cV (mc := md_5_set) (k := 0) (n := 1) (As := [zi ((xs (i + 1)).toInt)]) (rest := []) K dl_357 zw_383 ok_5_set rfl rfl rfl ⟨by decide, by decide⟩ trivial (xz_set B ((xs (i + 1)).toInt) R.2.2.1 (z32_r _)) rfl rfl ?_
  refine LW.mo K dl_360 ?_
  refine LW.arg (k := 1) K dl_361 dl_362 dl_363 dl_364 dl_365 rfl (by omega) ?_
  refine LW.cV (mc := md_6_set) (k := 113) (n := 1) (As := [zi ((xs (i + 1)).toInt)]) (rest := [zi (xx_set μ ((xs (i + 1)).toInt)).1]) K dl_366 zw_750 ok_6_set rfl rfl rfl ⟨by decide, by decide⟩ trivial (mz_set (xb_set B ((xs (i + 1)).toInt) R.2.2.1 (z32_r _)) ((xs (i + 1)).toInt) (z32_r _)) rfl rfl ?_
  exact LW.same K dl_369 (by decide) (b_set B R ((xs (i + 1)).toInt)).1 (loop _ (mb_set (xb_set B ((xs (i + 1)).toInt) R.2.2.1 (z32_r _)) ((xs (i + 1)).toInt) (z32_r _)) (b_set B R ((xs (i + 1)).toInt)).2)
theorem lc_8 {G : zG} {p : Program} {l : Launch} {e : Env} {s : State} {m : MethodId} {below : List Frame} {meth : Method} {c : Code} {b L : Nat} {xs : Nat → Int32} {i : Nat} {μ : zM} (K : LC G p s m meth c b L xs) (hi : i + 4 < L) (B : zB μ) (R : Rz μ) (loop : ∀ μ' : zM, zB μ' → Rz μ' → LW G p l e s m below meth c b 120 7796 783 (LV G b i) [] zSh μ') : LW G p l e s m below meth c b 120 7796 374 (LV G b i) [] zSh μ := by
  refine LW.xo K dl_374 ?_
  refine LW.arg (k := 1) K dl_375 dl_376 dl_377 dl_378 dl_379 rfl (by omega) ?_
  refine LW.char K dl_380 ?_
  refine LW.cV (mc := md_5_type) (k := 0) (n := 1) (As := [zi ((xs (i + 1)).toInt % 65536)]) (rest := []) K dl_381 zw_387 ok_5_type rfl rfl rfl ⟨by decide, by decide⟩ trivial (xz_type B ((xs (i + 1)).toInt % 65536) R.2.2.1 (ch_r _)) rfl rfl ?_
  refine LW.mo K dl_384 ?_
  refine LW.arg (k := 1) K dl_385 dl_386 dl_387 dl_388 dl_389 rfl (by omega) ?_
  refine LW.char K dl_390 ?_
  refine LW.cV (mc := md_6_type) (k := 113) (n := 1) (As := [zi ((xs (i + 1)).toInt % 65536)]) (rest := [zi (xx_type μ ((xs (i + 1)).toInt % 65536)).1]) K dl_391 zw_754 ok_6_type rfl rfl rfl ⟨by decide, by decide⟩ trivial (mz_type (xb_type B ((xs (i + 1)).toInt % 65536) R.2.2.1 (ch_r _)) ((xs (i + 1)).toInt % 65536) (ch_r _)) rfl rfl ?_
  exact LW.same K dl_394 (by decide) (b_type R ((xs (i + 1)).toInt % 65536)).1 (loop _ (mb_type (xb_type B ((xs (i + 1)).toInt % 65536) R.2.2.1 (ch_r _)) ((xs (i + 1)).toInt % 65536) (ch_r _)) (b_type R ((xs (i + 1)).toInt % 65536)).2)
theorem lc_9 {G : zG} {p : Program} {l : Launch} {e : Env} {s : State} {m : MethodId} {below : List Frame} {meth : Method} {c : Code} {b L : Nat} {xs : Nat → Int32} {i : Nat} {μ : zM} (K : LC G p s m meth c b L xs) (hi : i + 4 < L) (B : zB μ) (R : Rz μ) (loop : ∀ μ' : zM, zB μ' → Rz μ' → LW G p l e s m below meth c b 120 7796 783 (LV G b i) [] zSh μ') : LW G p l e s m below meth c b 120 7796 399 (LV G b i) [] zSh μ := by
  refine LW.xo K dl_399 ?_
  refine LW.cV (mc := md_5_clearText) (k := 0) (n := 0) (As := []) (rest := []) K dl_400 zw_395 ok_5_clearText rfl rfl rfl ⟨by decide, by decide⟩ trivial (xz_clearText B R.2.2.1) rfl rfl ?_
  refine LW.mo K dl_403 ?_
  refine LW.cV (mc := md_6_clearText) (k := 113) (n := 0) (As := []) (rest := [zi (xx_clearText μ).1]) K dl_404 zw_758 ok_6_clearText rfl rfl rfl ⟨by decide, by decide⟩ trivial (mz_clearText (xb_clearText B R.2.2.1)) rfl rfl ?_
  exact LW.same K dl_407 (by decide) (b_clearText R).1 (loop _ (mb_clearText (xb_clearText B R.2.2.1)) (b_clearText R).2)
theorem lc_10 {G : zG} {p : Program} {l : Launch} {e : Env} {s : State} {m : MethodId} {below : List Frame} {meth : Method} {c : Code} {b L : Nat} {xs : Nat → Int32} {i : Nat} {μ : zM} (K : LC G p s m meth c b L xs) (hi : i + 4 < L) (B : zB μ) (R : Rz μ) (loop : ∀ μ' : zM, zB μ' → Rz μ' → LW G p l e s m below meth c b 120 7796 783 (LV G b i) [] zSh μ') : LW G p l e s m below meth c b 120 7796 412 (LV G b i) [] zSh μ := by
  refine LW.xo K dl_412 ?_
  refine LW.arg (k := 1) K dl_413 dl_414 dl_415 dl_416 dl_417 rfl (by omega) ?_
  refine LW.bool K dl_418 dl_421 dl_422 dl_425 ?_
  refine LW.cV (mc := md_5_fault) (k := 0) (n := 1) (As := [zi (bz (xs (i + 1)))]) (rest := []) K dl_426 zw_399 ok_5_fault rfl rfl rfl ⟨by decide, by decide⟩ trivial (xz_fault B (bz (xs (i + 1))) (bz_r _)) rfl rfl ?_
  refine LW.mo K dl_429 ?_
  refine LW.arg (k := 1) K dl_430 dl_431 dl_432 dl_433 dl_434 rfl (by omega) ?_
  refine LW.bool K dl_435 dl_438 dl_439 dl_442 ?_
  refine LW.cV (mc := md_6_fault) (k := 113) (n := 1) (As := [zi (bz (xs (i + 1)))]) (rest := [zi (xx_fault μ (bz (xs (i + 1))))]) K dl_443 zw_762 ok_6_fault rfl rfl rfl ⟨by decide, by decide⟩ trivial (mz_fault B (bz (xs (i + 1))) (bz_r _)) rfl rfl ?_
  exact LW.same K dl_446 (by decide) (b_fault R (bz (xs (i + 1)))).1 (loop _ (mb_fault B (bz (xs (i + 1))) (bz_r _)) (b_fault R (bz (xs (i + 1)))).2)
theorem lc_11 {G : zG} {p : Program} {l : Launch} {e : Env} {s : State} {m : MethodId} {below : List Frame} {meth : Method} {c : Code} {b L : Nat} {xs : Nat → Int32} {i : Nat} {μ : zM} (K : LC G p s m meth c b L xs) (hi : i + 4 < L) (B : zB μ) (R : Rz μ) (loop : ∀ μ' : zM, zB μ' → Rz μ' → LW G p l e s m below meth c b 120 7796 783 (LV G b i) [] zSh μ') : LW G p l e s m below meth c b 120 7796 451 (LV G b i) [] zSh μ := by
  refine LW.xo K dl_451 ?_
  refine LW.cV (mc := md_5_undo) (k := 0) (n := 0) (As := []) (rest := []) K dl_452 zw_403 ok_5_undo rfl rfl rfl ⟨by decide, by decide⟩ trivial (xz_undo B R.2.2.1) rfl rfl ?_
  refine LW.mo K dl_455 ?_
  refine LW.cV (mc := md_6_undo) (k := 113) (n := 0) (As := []) (rest := [zi (xx_undo μ).1]) K dl_456 zw_766 ok_6_undo rfl rfl rfl ⟨by decide, by decide⟩ trivial (mz_undo (xb_undo B R.2.2.1)) rfl rfl ?_
  exact LW.same K dl_459 (by decide) (b_undo R).1 (loop _ (mb_undo (xb_undo B R.2.2.1)) (b_undo R).2)
theorem lc_12 {G : zG} {p : Program} {l : Launch} {e : Env} {s : State} {m : MethodId} {below : List Frame} {meth : Method} {c : Code} {b L : Nat} {xs : Nat → Int32} {i : Nat} {μ : zM} (K : LC G p s m meth c b L xs) (hi : i + 4 < L) (B : zB μ) (R : Rz μ) (loop : ∀ μ' : zM, zB μ' → Rz μ' → LW G p l e s m below meth c b 120 7796 783 (LV G b i) [] zSh μ') : LW G p l e s m below meth c b 120 7796 464 (LV G b i) [] zSh μ := by
  refine LW.xo K dl_464 ?_
  refine LW.cV (mc := md_5_keep) (k := 0) (n := 0) (As := []) (rest := []) K dl_465 zw_411 ok_5_keep rfl rfl rfl ⟨by decide, by decide⟩ trivial (xz_keep B R.2.2.1) rfl rfl ?_
  refine LW.mo K dl_468 ?_
  refine LW.cV (mc := md_6_keep) (k := 113) (n := 0) (As := []) (rest := [zi (xx_keep μ).1]) K dl_469 zw_770 ok_6_keep rfl rfl rfl ⟨by decide, by decide⟩ trivial (mz_keep (xb_keep B R.2.2.1)) rfl rfl ?_
  exact LW.same K dl_472 (by decide) (b_keep R).1 (loop _ (mb_keep (xb_keep B R.2.2.1)) (b_keep R).2)
theorem lc_13 {G : zG} {p : Program} {l : Launch} {e : Env} {s : State} {m : MethodId} {below : List Frame} {meth : Method} {c : Code} {b L : Nat} {xs : Nat → Int32} {i : Nat} {μ : zM} (K : LC G p s m meth c b L xs) (hi : i + 4 < L) (B : zB μ) (R : Rz μ) (loop : ∀ μ' : zM, zB μ' → Rz μ' → LW G p l e s m below meth c b 120 7796 783 (LV G b i) [] zSh μ') : LW G p l e s m below meth c b 120 7796 477 (LV G b i) [] zSh μ := by
  refine LW.xo K dl_477 ?_
  refine LW.cV (mc := md_5_restore) (k := 0) (n := 0) (As := []) (rest := []) K dl_478 zw_416 ok_5_restore rfl rfl rfl ⟨by decide, by decide⟩ trivial (xz_restore B R.2.2.1) rfl rfl ?_
  refine LW.mo K dl_481 ?_
  refine LW.cV (mc := md_6_restore) (k := 113) (n := 0) (As := []) (rest := [zi (xx_restore μ).1]) K dl_482 zw_774 ok_6_restore rfl rfl rfl ⟨by decide, by decide⟩ trivial (mz_restore (xb_restore B R.2.2.1)) rfl rfl ?_
  exact LW.same K dl_485 (by decide) (b_restore R).1 (loop _ (mb_restore (xb_restore B R.2.2.1)) (b_restore R).2)
theorem lc_14 {G : zG} {p : Program} {l : Launch} {e : Env} {s : State} {m : MethodId} {below : List Frame} {meth : Method} {c : Code} {b L : Nat} {xs : Nat → Int32} {i : Nat} {μ : zM} (K : LC G p s m meth c b L xs) (hi : i + 4 < L) (B : zB μ) (R : Rz μ) (loop : ∀ μ' : zM, zB μ' → Rz μ' → LW G p l e s m below meth c b 120 7796 783 (LV G b i) [] zSh μ') : LW G p l e s m below meth c b 120 7796 490 (LV G b i) [] zSh μ := by
  refine LW.xo K dl_490 ?_
  refine LW.arg (k := 1) K dl_491 dl_492 dl_493 dl_494 dl_495 rfl (by omega) ?_
  refine LW.arg (k := 2) K dl_496 dl_497 dl_498 dl_499 dl_500 rfl (by omega) ?_
  refine LW.cV (mc := md_5_word) (k := 0) (n := 2) (As := [zi ((xs (i + 1)).toInt), zi ((xs (i + 2)).toInt)]) (rest := []) K dl_501 zw_420 ok_5_word rfl rfl rfl ⟨by decide, by decide⟩ trivial (xz_word B ((xs (i + 1)).toInt) ((xs (i + 2)).toInt) (z32_r _) (z32_r _)) rfl rfl ?_
  refine LW.mo K dl_504 ?_
  refine LW.arg (k := 1) K dl_505 dl_506 dl_507 dl_508 dl_509 rfl (by omega) ?_
  refine LW.arg (k := 2) K dl_510 dl_511 dl_512 dl_513 dl_514 rfl (by omega) ?_
  refine LW.cV (mc := md_6_word) (k := 113) (n := 2) (As := [zi ((xs (i + 1)).toInt), zi ((xs (i + 2)).toInt)]) (rest := [zi (xx_word μ ((xs (i + 1)).toInt) ((xs (i + 2)).toInt))]) K dl_515 zw_778 ok_6_word rfl rfl rfl ⟨by decide, by decide⟩ trivial (mz_word B ((xs (i + 1)).toInt) ((xs (i + 2)).toInt) (z32_r _) (z32_r _)) rfl rfl ?_
  exact LW.same K dl_518 (by decide) (a_word R.1 ((xs (i + 1)).toInt) ((xs (i + 2)).toInt)) (loop _ B R)
theorem lc_15 {G : zG} {p : Program} {l : Launch} {e : Env} {s : State} {m : MethodId} {below : List Frame} {meth : Method} {c : Code} {b L : Nat} {xs : Nat → Int32} {i : Nat} {μ : zM} (K : LC G p s m meth c b L xs) (hi : i + 4 < L) (B : zB μ) (R : Rz μ) (loop : ∀ μ' : zM, zB μ' → Rz μ' → LW G p l e s m below meth c b 120 7796 783 (LV G b i) [] zSh μ') : LW G p l e s m below meth c b 120 7796 523 (LV G b i) [] zSh μ := by
  refine LW.xo K dl_523 ?_
  refine LW.arg (k := 1) K dl_524 dl_525 dl_526 dl_527 dl_528 rfl (by omega) ?_
  refine LW.arg (k := 2) K dl_529 dl_530 dl_531 dl_532 dl_533 rfl (by omega) ?_
  refine LW.arg (k := 3) K dl_534 dl_535 dl_536 dl_537 dl_538 rfl (by omega) ?_
  refine LW.cV (mc := md_5_letter) (k := 0) (n := 3) (As := [zi ((xs (i + 1)).toInt), zi ((xs (i + 2)).toInt), zi ((xs (i + 3)).toInt)]) (rest := []) K dl_539 zw_431 ok_5_letter rfl rfl rfl ⟨by decide, by decide⟩ trivial (xz_letter B ((xs (i + 1)).toInt) ((xs (i + 2)).toInt) ((xs (i + 3)).toInt) (z32_r _) (z32_r _) (z32_r _)) rfl rfl ?_
  refine LW.mo K dl_542 ?_
  refine LW.arg (k := 1) K dl_543 dl_544 dl_545 dl_546 dl_547 rfl (by omega) ?_
  refine LW.arg (k := 2) K dl_548 dl_549 dl_550 dl_551 dl_552 rfl (by omega) ?_
  refine LW.arg (k := 3) K dl_553 dl_554 dl_555 dl_556 dl_557 rfl (by omega) ?_
  refine LW.cV (mc := md_6_letter) (k := 113) (n := 3) (As := [zi ((xs (i + 1)).toInt), zi ((xs (i + 2)).toInt), zi ((xs (i + 3)).toInt)]) (rest := [zi (xx_letter μ ((xs (i + 1)).toInt) ((xs (i + 2)).toInt) ((xs (i + 3)).toInt))]) K dl_558 zw_782 ok_6_letter rfl rfl rfl ⟨by decide, by decide⟩ trivial (mz_letter B ((xs (i + 1)).toInt) ((xs (i + 2)).toInt) ((xs (i + 3)).toInt) (z32_r _) (z32_r _) (z32_r _)) rfl rfl ?_
  exact LW.same K dl_561 (by decide) (a_letter R.1 ((xs (i + 1)).toInt) ((xs (i + 2)).toInt) ((xs (i + 3)).toInt)) (loop _ B R)
theorem lc_16 {G : zG} {p : Program} {l : Launch} {e : Env} {s : State} {m : MethodId} {below : List Frame} {meth : Method} {c : Code} {b L : Nat} {xs : Nat → Int32} {i : Nat} {μ : zM} (K : LC G p s m meth c b L xs) (hi : i + 4 < L) (B : zB μ) (R : Rz μ) (loop : ∀ μ' : zM, zB μ' → Rz μ' → LW G p l e s m below meth c b 120 7796 783 (LV G b i) [] zSh μ') : LW G p l e s m below meth c b 120 7796 566 (LV G b i) [] zSh μ := by
  refine LW.xo K dl_566 ?_
  refine LW.arg (k := 1) K dl_567 dl_568 dl_569 dl_570 dl_571 rfl (by omega) ?_
  refine LW.arg (k := 2) K dl_572 dl_573 dl_574 dl_575 dl_576 rfl (by omega) ?_
  refine LW.cV (mc := md_5_hole) (k := 0) (n := 2) (As := [zi ((xs (i + 1)).toInt), zi ((xs (i + 2)).toInt)]) (rest := []) K dl_577 zw_442 ok_5_hole rfl rfl rfl ⟨by decide, by decide⟩ trivial (xz_hole B ((xs (i + 1)).toInt) ((xs (i + 2)).toInt) (z32_r _) (z32_r _)) rfl rfl ?_
  refine LW.mo K dl_580 ?_
  refine LW.arg (k := 1) K dl_581 dl_582 dl_583 dl_584 dl_585 rfl (by omega) ?_
  refine LW.arg (k := 2) K dl_586 dl_587 dl_588 dl_589 dl_590 rfl (by omega) ?_
  refine LW.cV (mc := md_6_hole) (k := 113) (n := 2) (As := [zi ((xs (i + 1)).toInt), zi ((xs (i + 2)).toInt)]) (rest := [zi (xx_hole μ ((xs (i + 1)).toInt) ((xs (i + 2)).toInt))]) K dl_591 zw_798 ok_6_hole rfl rfl rfl ⟨by decide, by decide⟩ trivial (mz_hole B ((xs (i + 1)).toInt) ((xs (i + 2)).toInt) (z32_r _) (z32_r _)) rfl rfl ?_
  exact LW.same K dl_594 (by decide) (a_hole R.1 ((xs (i + 1)).toInt) ((xs (i + 2)).toInt)) (loop _ B R)
theorem lc_17 {G : zG} {p : Program} {l : Launch} {e : Env} {s : State} {m : MethodId} {below : List Frame} {meth : Method} {c : Code} {b L : Nat} {xs : Nat → Int32} {i : Nat} {μ : zM} (K : LC G p s m meth c b L xs) (hi : i + 4 < L) (B : zB μ) (R : Rz μ) (loop : ∀ μ' : zM, zB μ' → Rz μ' → LW G p l e s m below meth c b 120 7796 783 (LV G b i) [] zSh μ') : LW G p l e s m below meth c b 120 7796 599 (LV G b i) [] zSh μ := by
  refine LW.xo K dl_599 ?_
  refine LW.arg (k := 1) K dl_600 dl_601 dl_602 dl_603 dl_604 rfl (by omega) ?_
  refine LW.arg (k := 2) K dl_605 dl_606 dl_607 dl_608 dl_609 rfl (by omega) ?_
  refine LW.cV (mc := md_5_tie) (k := 0) (n := 2) (As := [zi ((xs (i + 1)).toInt), zi ((xs (i + 2)).toInt)]) (rest := []) K dl_610 zw_480 ok_5_tie rfl rfl rfl ⟨by decide, by decide⟩ trivial (xz_tie B ((xs (i + 1)).toInt) ((xs (i + 2)).toInt) (z32_r _) (z32_r _)) rfl rfl ?_
  refine LW.mo K dl_613 ?_
  refine LW.arg (k := 1) K dl_614 dl_615 dl_616 dl_617 dl_618 rfl (by omega) ?_
  refine LW.arg (k := 2) K dl_619 dl_620 dl_621 dl_622 dl_623 rfl (by omega) ?_
  refine LW.cV (mc := md_6_tie) (k := 113) (n := 2) (As := [zi ((xs (i + 1)).toInt), zi ((xs (i + 2)).toInt)]) (rest := [zi (xx_tie μ ((xs (i + 1)).toInt) ((xs (i + 2)).toInt))]) K dl_624 zw_818 ok_6_tie rfl rfl rfl ⟨by decide, by decide⟩ trivial (mz_tie B ((xs (i + 1)).toInt) ((xs (i + 2)).toInt) (z32_r _) (z32_r _)) rfl rfl ?_
  exact LW.same K dl_627 (by decide) (a_tie R.1 ((xs (i + 1)).toInt) ((xs (i + 2)).toInt)) (loop _ B R)
theorem lc_18 {G : zG} {p : Program} {l : Launch} {e : Env} {s : State} {m : MethodId} {below : List Frame} {meth : Method} {c : Code} {b L : Nat} {xs : Nat → Int32} {i : Nat} {μ : zM} (K : LC G p s m meth c b L xs) (hi : i + 4 < L) (B : zB μ) (R : Rz μ) (loop : ∀ μ' : zM, zB μ' → Rz μ' → LW G p l e s m below meth c b 120 7796 783 (LV G b i) [] zSh μ') : LW G p l e s m below meth c b 120 7796 632 (LV G b i) [] zSh μ := by
  refine LW.xo K dl_632 ?_
  refine LW.arg (k := 1) K dl_633 dl_634 dl_635 dl_636 dl_637 rfl (by omega) ?_
  refine LW.cV (mc := md_5_told) (k := 0) (n := 1) (As := [zi ((xs (i + 1)).toInt)]) (rest := []) K dl_638 zw_492 ok_5_told rfl rfl rfl ⟨by decide, by decide⟩ trivial (xz_told B ((xs (i + 1)).toInt) (z32_r _)) rfl rfl ?_
  refine LW.mo K dl_641 ?_
  refine LW.arg (k := 1) K dl_642 dl_643 dl_644 dl_645 dl_646 rfl (by omega) ?_
  refine LW.cV (mc := md_6_told) (k := 113) (n := 1) (As := [zi ((xs (i + 1)).toInt)]) (rest := [zi (xx_told μ ((xs (i + 1)).toInt))]) K dl_647 zw_822 ok_6_told rfl rfl rfl ⟨by decide, by decide⟩ trivial (mz_told B ((xs (i + 1)).toInt) (z32_r _)) rfl rfl ?_
  exact LW.same K dl_650 (by decide) (a_told R.1 ((xs (i + 1)).toInt)) (loop _ B R)
theorem lc_19 {G : zG} {p : Program} {l : Launch} {e : Env} {s : State} {m : MethodId} {below : List Frame} {meth : Method} {c : Code} {b L : Nat} {xs : Nat → Int32} {i : Nat} {μ : zM} (K : LC G p s m meth c b L xs) (hi : i + 4 < L) (B : zB μ) (R : Rz μ) (loop : ∀ μ' : zM, zB μ' → Rz μ' → LW G p l e s m below meth c b 120 7796 783 (LV G b i) [] zSh μ') : LW G p l e s m below meth c b 120 7796 655 (LV G b i) [] zSh μ := by
  refine LW.xo K dl_655 ?_
  refine LW.arg (k := 1) K dl_656 dl_657 dl_658 dl_659 dl_660 rfl (by omega) ?_
  refine LW.arg (k := 2) K dl_661 dl_662 dl_663 dl_664 dl_665 rfl (by omega) ?_
  refine LW.cV (mc := md_5_reason) (k := 0) (n := 2) (As := [zi ((xs (i + 1)).toInt), zi ((xs (i + 2)).toInt)]) (rest := []) K dl_666 zw_525 ok_5_reason rfl rfl rfl ⟨by decide, by decide⟩ trivial (xz_reason B ((xs (i + 1)).toInt) ((xs (i + 2)).toInt) (z32_r _) (z32_r _)) rfl rfl ?_
  refine LW.mo K dl_669 ?_
  refine LW.arg (k := 1) K dl_670 dl_671 dl_672 dl_673 dl_674 rfl (by omega) ?_
  refine LW.arg (k := 2) K dl_675 dl_676 dl_677 dl_678 dl_679 rfl (by omega) ?_
  refine LW.cV (mc := md_6_reason) (k := 113) (n := 2) (As := [zi ((xs (i + 1)).toInt), zi ((xs (i + 2)).toInt)]) (rest := [zi (xx_reason μ ((xs (i + 1)).toInt) ((xs (i + 2)).toInt))]) K dl_680 zw_834 ok_6_reason rfl rfl rfl ⟨by decide, by decide⟩ trivial (mz_reason B ((xs (i + 1)).toInt) ((xs (i + 2)).toInt) (z32_r _) (z32_r _)) rfl rfl ?_
  exact LW.same K dl_683 (by decide) (a_reason R.1 ((xs (i + 1)).toInt) ((xs (i + 2)).toInt)) (loop _ B R)
theorem lc_20 {G : zG} {p : Program} {l : Launch} {e : Env} {s : State} {m : MethodId} {below : List Frame} {meth : Method} {c : Code} {b L : Nat} {xs : Nat → Int32} {i : Nat} {μ : zM} (K : LC G p s m meth c b L xs) (hi : i + 4 < L) (B : zB μ) (R : Rz μ) (loop : ∀ μ' : zM, zB μ' → Rz μ' → LW G p l e s m below meth c b 120 7796 783 (LV G b i) [] zSh μ') : LW G p l e s m below meth c b 120 7796 688 (LV G b i) [] zSh μ := by
  refine LW.xo K dl_688 ?_
  refine LW.arg (k := 1) K dl_689 dl_690 dl_691 dl_692 dl_693 rfl (by omega) ?_
  refine LW.cV (mc := md_5_fits) (k := 0) (n := 1) (As := [zi ((xs (i + 1)).toInt)]) (rest := []) K dl_694 zw_529 ok_5_fits rfl rfl rfl ⟨by decide, by decide⟩ trivial (xz_fits B ((xs (i + 1)).toInt) (z32_r _)) rfl rfl ?_
  refine LW.mo K dl_697 ?_
  refine LW.arg (k := 1) K dl_698 dl_699 dl_700 dl_701 dl_702 rfl (by omega) ?_
  refine LW.cV (mc := md_6_fits) (k := 113) (n := 1) (As := [zi ((xs (i + 1)).toInt)]) (rest := [zi (xx_fits μ ((xs (i + 1)).toInt))]) K dl_703 zw_838 ok_6_fits rfl rfl rfl ⟨by decide, by decide⟩ trivial (mz_fits B ((xs (i + 1)).toInt) (z32_r _)) rfl rfl ?_
  exact LW.same K dl_706 (by decide) (a_fits R.1 ((xs (i + 1)).toInt)) (loop _ B R)
theorem lc_21 {G : zG} {p : Program} {l : Launch} {e : Env} {s : State} {m : MethodId} {below : List Frame} {meth : Method} {c : Code} {b L : Nat} {xs : Nat → Int32} {i : Nat} {μ : zM} (K : LC G p s m meth c b L xs) (hi : i + 4 < L) (B : zB μ) (R : Rz μ) (loop : ∀ μ' : zM, zB μ' → Rz μ' → LW G p l e s m below meth c b 120 7796 783 (LV G b i) [] zSh μ') : LW G p l e s m below meth c b 120 7796 711 (LV G b i) [] zSh μ := by
  refine LW.xo K dl_711 ?_
  refine LW.arg (k := 1) K dl_712 dl_713 dl_714 dl_715 dl_716 rfl (by omega) ?_
  refine LW.arg (k := 2) K dl_717 dl_718 dl_719 dl_720 dl_721 rfl (by omega) ?_
  refine LW.bool K dl_722 dl_725 dl_726 dl_729 ?_
  refine LW.cV (mc := md_5_tieCould) (k := 0) (n := 2) (As := [zi ((xs (i + 1)).toInt), zi (bz (xs (i + 2)))]) (rest := []) K dl_730 zw_533 ok_5_tieCould rfl rfl rfl ⟨by decide, by decide⟩ trivial (xz_tieCould B ((xs (i + 1)).toInt) (bz (xs (i + 2))) (z32_r _) (bz_r _)) rfl rfl ?_
  refine LW.mo K dl_733 ?_
  refine LW.arg (k := 1) K dl_734 dl_735 dl_736 dl_737 dl_738 rfl (by omega) ?_
  refine LW.arg (k := 2) K dl_739 dl_740 dl_741 dl_742 dl_743 rfl (by omega) ?_
  refine LW.bool K dl_744 dl_747 dl_748 dl_751 ?_
  refine LW.cV (mc := md_6_tieCould) (k := 113) (n := 2) (As := [zi ((xs (i + 1)).toInt), zi (bz (xs (i + 2)))]) (rest := [zi (xx_tieCould μ ((xs (i + 1)).toInt) (bz (xs (i + 2))))]) K dl_752 zw_842 ok_6_tieCould rfl rfl rfl ⟨by decide, by decide⟩ trivial (mz_tieCould B ((xs (i + 1)).toInt) (bz (xs (i + 2))) (z32_r _) (bz_r _)) rfl rfl ?_
  exact LW.same K dl_755 (by decide) (a_tieCould R.1 ((xs (i + 1)).toInt) (bz (xs (i + 2)))) (loop _ B R)
theorem lc_22 {G : zG} {p : Program} {l : Launch} {e : Env} {s : State} {m : MethodId} {below : List Frame} {meth : Method} {c : Code} {b L : Nat} {xs : Nat → Int32} {i : Nat} {μ : zM} (K : LC G p s m meth c b L xs) (hi : i + 4 < L) (B : zB μ) (R : Rz μ) (loop : ∀ μ' : zM, zB μ' → Rz μ' → LW G p l e s m below meth c b 120 7796 783 (LV G b i) [] zSh μ') : LW G p l e s m below meth c b 120 7796 760 (LV G b i) [] zSh μ := by
  refine LW.xo K dl_760 ?_
  refine LW.arg (k := 1) K dl_761 dl_762 dl_763 dl_764 dl_765 rfl (by omega) ?_
  refine LW.cV (mc := md_5_count) (k := 0) (n := 1) (As := [zi ((xs (i + 1)).toInt)]) (rest := []) K dl_766 zw_559 ok_5_count rfl rfl rfl ⟨by decide, by decide⟩ trivial (xz_count B ((xs (i + 1)).toInt) (z32_r _)) rfl rfl ?_
  refine LW.mo K dl_769 ?_
  refine LW.arg (k := 1) K dl_770 dl_771 dl_772 dl_773 dl_774 rfl (by omega) ?_
  refine LW.cV (mc := md_6_count) (k := 113) (n := 1) (As := [zi ((xs (i + 1)).toInt)]) (rest := [zi (xx_count μ ((xs (i + 1)).toInt))]) K dl_775 zw_858 ok_6_count rfl rfl rfl ⟨by decide, by decide⟩ trivial (mz_count B ((xs (i + 1)).toInt) (z32_r _)) rfl rfl ?_
  exact LW.same K dl_778 (by decide) (a_count R.1 R.2.2.2.2.1 R.2.1.1 ((xs (i + 1)).toInt)) (loop _ B R)
