theorem dL_refuses_78 : decode cL_refuses 78 = .ok (.irem, 1) := by decide +kernel
theorem dL_refuses_79 : decode cL_refuses 79 = .ok (.iload_n 1, 1) := by decide +kernel
theorem dL_refuses_80 : decode cL_refuses 80 = .ok (.bipush 24, 2) := by decide +kernel
theorem dL_refuses_82 : decode cL_refuses 82 = .ok (.irem, 1) := by decide +kernel
theorem dL_refuses_83 : decode cL_refuses 83 = .ok (.invokevirtual 19, 3) := by decide +kernel
theorem dL_refuses_86 : decode cL_refuses 86 = .ok (.bipush (-5), 2) := by decide +kernel
theorem dL_refuses_88 : decode cL_refuses 88 = .ok (.if_icmp .ne 291, 3) := by decide +kernel
theorem dL_refuses_91 : decode cL_refuses 91 = .ok (.aload_n 0, 1) := by decide +kernel
theorem dL_refuses_92 : decode cL_refuses 92 = .ok (.iconst (-1), 1) := by decide +kernel
theorem dL_refuses_93 : decode cL_refuses 93 = .ok (.iload_n 1, 1) := by decide +kernel
theorem dL_refuses_94 : decode cL_refuses 94 = .ok (.isub, 1) := by decide +kernel
theorem dL_refuses_95 : decode cL_refuses 95 = .ok (.invokevirtual 16, 3) := by decide +kernel
theorem dL_refuses_98 : decode cL_refuses 98 = .ok (.bipush (-2), 2) := by decide +kernel
theorem dL_refuses_100 : decode cL_refuses 100 = .ok (.if_icmp .ne 279, 3) := by decide +kernel
theorem dL_refuses_103 : decode cL_refuses 103 = .ok (.aload_n 0, 1) := by decide +kernel
theorem dL_refuses_104 : decode cL_refuses 104 = .ok (.ldc 78, 2) := by decide +kernel
theorem dL_refuses_106 : decode cL_refuses 106 = .ok (.iload_n 1, 1) := by decide +kernel
theorem dL_refuses_107 : decode cL_refuses 107 = .ok (.iadd, 1) := by decide +kernel
theorem dL_refuses_108 : decode cL_refuses 108 = .ok (.invokevirtual 16, 3) := by decide +kernel
theorem dL_refuses_111 : decode cL_refuses 111 = .ok (.bipush (-2), 2) := by decide +kernel
theorem dL_refuses_113 : decode cL_refuses 113 = .ok (.if_icmp .ne 266, 3) := by decide +kernel
theorem dL_refuses_116 : decode cL_refuses 116 = .ok (.aload_n 0, 1) := by decide +kernel
theorem dL_refuses_117 : decode cL_refuses 117 = .ok (.iload_n 3, 1) := by decide +kernel
theorem dL_refuses_118 : decode cL_refuses 118 = .ok (.iconst 0, 1) := by decide +kernel
theorem dL_refuses_119 : decode cL_refuses 119 = .ok (.invokevirtual 27, 3) := by decide +kernel
theorem dL_refuses_122 : decode cL_refuses 122 = .ok (.iconst (-1), 1) := by decide +kernel
theorem dL_refuses_123 : decode cL_refuses 123 = .ok (.if_icmp .ne 256, 3) := by decide +kernel
theorem dL_refuses_126 : decode cL_refuses 126 = .ok (.aload_n 0, 1) := by decide +kernel
theorem dL_refuses_127 : decode cL_refuses 127 = .ok (.iload_n 3, 1) := by decide +kernel
theorem dL_refuses_128 : decode cL_refuses 128 = .ok (.iconst 0, 1) := by decide +kernel
theorem dL_refuses_129 : decode cL_refuses 129 = .ok (.iconst 1, 1) := by decide +kernel
theorem dL_refuses_130 : decode cL_refuses 130 = .ok (.invokevirtual 30, 3) := by decide +kernel
theorem dL_refuses_133 : decode cL_refuses 133 = .ok (.iconst (-1), 1) := by decide +kernel
theorem dL_refuses_134 : decode cL_refuses 134 = .ok (.if_icmp .ne 245, 3) := by decide +kernel
theorem dL_refuses_137 : decode cL_refuses 137 = .ok (.aload_n 0, 1) := by decide +kernel
theorem dL_refuses_138 : decode cL_refuses 138 = .ok (.iload_n 3, 1) := by decide +kernel
theorem dL_refuses_139 : decode cL_refuses 139 = .ok (.invokevirtual 34, 3) := by decide +kernel
theorem dL_refuses_142 : decode cL_refuses 142 = .ok (.iconst (-1), 1) := by decide +kernel
theorem dL_refuses_143 : decode cL_refuses 143 = .ok (.if_icmp .ne 236, 3) := by decide +kernel
theorem dL_refuses_146 : decode cL_refuses 146 = .ok (.aload_n 0, 1) := by decide +kernel
theorem dL_refuses_147 : decode cL_refuses 147 = .ok (.iload_n 3, 1) := by decide +kernel
theorem dL_refuses_148 : decode cL_refuses 148 = .ok (.ldc 99, 2) := by decide +kernel
theorem dL_refuses_150 : decode cL_refuses 150 = .ok (.invokevirtual 37, 3) := by decide +kernel
theorem dL_refuses_153 : decode cL_refuses 153 = .ok (.iconst (-1), 1) := by decide +kernel
theorem dL_refuses_154 : decode cL_refuses 154 = .ok (.if_icmp .ne 225, 3) := by decide +kernel
theorem dL_refuses_157 : decode cL_refuses 157 = .ok (.aload_n 0, 1) := by decide +kernel
theorem dL_refuses_158 : decode cL_refuses 158 = .ok (.iload_n 3, 1) := by decide +kernel
theorem dL_refuses_159 : decode cL_refuses 159 = .ok (.iconst 1, 1) := by decide +kernel
theorem dL_refuses_160 : decode cL_refuses 160 = .ok (.invokevirtual 40, 3) := by decide +kernel
theorem dL_refuses_163 : decode cL_refuses 163 = .ok (.iconst (-1), 1) := by decide +kernel
theorem dL_refuses_164 : decode cL_refuses 164 = .ok (.if_icmp .ne 215, 3) := by decide +kernel
theorem dL_refuses_167 : decode cL_refuses 167 = .ok (.aload_n 0, 1) := by decide +kernel
theorem dL_refuses_168 : decode cL_refuses 168 = .ok (.sipush 10000, 3) := by decide +kernel
theorem dL_refuses_171 : decode cL_refuses 171 = .ok (.iload_n 1, 1) := by decide +kernel
theorem dL_refuses_172 : decode cL_refuses 172 = .ok (.iadd, 1) := by decide +kernel
theorem dL_refuses_173 : decode cL_refuses 173 = .ok (.invokevirtual 44, 3) := by decide +kernel
theorem dL_refuses_176 : decode cL_refuses 176 = .ok (.bipush (-2), 2) := by decide +kernel
theorem dL_refuses_178 : decode cL_refuses 178 = .ok (.if_icmp .ne 201, 3) := by decide +kernel
theorem dL_refuses_181 : decode cL_refuses 181 = .ok (.aload_n 0, 1) := by decide +kernel
theorem dL_refuses_182 : decode cL_refuses 182 = .ok (.sipush (-10000), 3) := by decide +kernel
theorem dL_refuses_185 : decode cL_refuses 185 = .ok (.iload_n 1, 1) := by decide +kernel
theorem dL_refuses_186 : decode cL_refuses 186 = .ok (.isub, 1) := by decide +kernel
theorem dL_refuses_187 : decode cL_refuses 187 = .ok (.invokevirtual 44, 3) := by decide +kernel
theorem dL_refuses_190 : decode cL_refuses 190 = .ok (.bipush (-2), 2) := by decide +kernel
theorem dL_refuses_192 : decode cL_refuses 192 = .ok (.if_icmp .ne 187, 3) := by decide +kernel
theorem dL_refuses_195 : decode cL_refuses 195 = .ok (.aload_n 0, 1) := by decide +kernel
theorem dL_refuses_196 : decode cL_refuses 196 = .ok (.iconst 0, 1) := by decide +kernel
theorem dL_refuses_197 : decode cL_refuses 197 = .ok (.invokevirtual 44, 3) := by decide +kernel
theorem dL_refuses_200 : decode cL_refuses 200 = .ok (.bipush (-5), 2) := by decide +kernel
theorem dL_refuses_202 : decode cL_refuses 202 = .ok (.if_icmp .ne 177, 3) := by decide +kernel
theorem dL_refuses_205 : decode cL_refuses 205 = .ok (.aload_n 0, 1) := by decide +kernel
theorem dL_refuses_206 : decode cL_refuses 206 = .ok (.iload 4, 2) := by decide +kernel
theorem dL_refuses_208 : decode cL_refuses 208 = .ok (.iconst 0, 1) := by decide +kernel
theorem dL_refuses_209 : decode cL_refuses 209 = .ok (.invokevirtual 69, 3) := by decide +kernel
theorem dL_refuses_212 : decode cL_refuses 212 = .ok (.iconst (-1), 1) := by decide +kernel
theorem dL_refuses_213 : decode cL_refuses 213 = .ok (.if_icmp .ne 166, 3) := by decide +kernel
theorem dL_refuses_216 : decode cL_refuses 216 = .ok (.aload_n 0, 1) := by decide +kernel
theorem dL_refuses_217 : decode cL_refuses 217 = .ok (.iconst 0, 1) := by decide +kernel
theorem dL_refuses_218 : decode cL_refuses 218 = .ok (.iconst 5, 1) := by decide +kernel
theorem dL_refuses_219 : decode cL_refuses 219 = .ok (.iload_n 1, 1) := by decide +kernel
theorem dL_refuses_220 : decode cL_refuses 220 = .ok (.iadd, 1) := by decide +kernel
theorem dL_refuses_221 : decode cL_refuses 221 = .ok (.invokevirtual 69, 3) := by decide +kernel
theorem dL_refuses_224 : decode cL_refuses 224 = .ok (.bipush (-2), 2) := by decide +kernel
theorem dL_refuses_226 : decode cL_refuses 226 = .ok (.if_icmp .ne 153, 3) := by decide +kernel
theorem dL_refuses_229 : decode cL_refuses 229 = .ok (.aload_n 0, 1) := by decide +kernel
theorem dL_refuses_230 : decode cL_refuses 230 = .ok (.iconst 5, 1) := by decide +kernel
theorem dL_refuses_231 : decode cL_refuses 231 = .ok (.iload_n 1, 1) := by decide +kernel
theorem dL_refuses_232 : decode cL_refuses 232 = .ok (.iadd, 1) := by decide +kernel
theorem dL_refuses_233 : decode cL_refuses 233 = .ok (.invokevirtual 66, 3) := by decide +kernel
theorem dL_refuses_236 : decode cL_refuses 236 = .ok (.bipush (-2), 2) := by decide +kernel
theorem dL_refuses_238 : decode cL_refuses 238 = .ok (.if_icmp .ne 141, 3) := by decide +kernel
theorem dL_refuses_241 : decode cL_refuses 241 = .ok (.aload_n 0, 1) := by decide +kernel
theorem dL_refuses_242 : decode cL_refuses 242 = .ok (.iconst (-1), 1) := by decide +kernel
theorem dL_refuses_243 : decode cL_refuses 243 = .ok (.iload_n 1, 1) := by decide +kernel
theorem dL_refuses_244 : decode cL_refuses 244 = .ok (.isub, 1) := by decide +kernel
theorem dL_refuses_245 : decode cL_refuses 245 = .ok (.invokevirtual 66, 3) := by decide +kernel
theorem dL_refuses_248 : decode cL_refuses 248 = .ok (.bipush (-2), 2) := by decide +kernel
theorem dL_refuses_250 : decode cL_refuses 250 = .ok (.if_icmp .ne 129, 3) := by decide +kernel
theorem dL_refuses_253 : decode cL_refuses 253 = .ok (.aload_n 0, 1) := by decide +kernel
theorem dL_refuses_254 : decode cL_refuses 254 = .ok (.iload 4, 2) := by decide +kernel
theorem dL_refuses_256 : decode cL_refuses 256 = .ok (.iconst 0, 1) := by decide +kernel
theorem dL_refuses_257 : decode cL_refuses 257 = .ok (.invokevirtual 100, 3) := by decide +kernel
theorem dL_refuses_260 : decode cL_refuses 260 = .ok (.iconst (-1), 1) := by decide +kernel
theorem dL_refuses_261 : decode cL_refuses 261 = .ok (.if_icmp .ne 118, 3) := by decide +kernel
theorem dL_refuses_264 : decode cL_refuses 264 = .ok (.aload_n 0, 1) := by decide +kernel
theorem dL_refuses_265 : decode cL_refuses 265 = .ok (.iconst 0, 1) := by decide +kernel
theorem dL_refuses_266 : decode cL_refuses 266 = .ok (.sipush 10000, 3) := by decide +kernel
theorem dL_refuses_269 : decode cL_refuses 269 = .ok (.iload_n 1, 1) := by decide +kernel
theorem dL_refuses_270 : decode cL_refuses 270 = .ok (.iadd, 1) := by decide +kernel
theorem dL_refuses_271 : decode cL_refuses 271 = .ok (.invokevirtual 100, 3) := by decide +kernel
theorem dL_refuses_274 : decode cL_refuses 274 = .ok (.bipush (-2), 2) := by decide +kernel
theorem dL_refuses_276 : decode cL_refuses 276 = .ok (.if_icmp .ne 103, 3) := by decide +kernel
theorem dL_refuses_279 : decode cL_refuses 279 = .ok (.aload_n 0, 1) := by decide +kernel
theorem dL_refuses_280 : decode cL_refuses 280 = .ok (.iload_n 3, 1) := by decide +kernel
theorem dL_refuses_281 : decode cL_refuses 281 = .ok (.iconst 0, 1) := by decide +kernel
theorem dL_refuses_282 : decode cL_refuses 282 = .ok (.invokevirtual 75, 3) := by decide +kernel
theorem dL_refuses_285 : decode cL_refuses 285 = .ok (.iconst (-1), 1) := by decide +kernel
theorem dL_refuses_286 : decode cL_refuses 286 = .ok (.if_icmp .ne 93, 3) := by decide +kernel
theorem dL_refuses_289 : decode cL_refuses 289 = .ok (.aload_n 0, 1) := by decide +kernel
theorem dL_refuses_290 : decode cL_refuses 290 = .ok (.iload_n 3, 1) := by decide +kernel
theorem dL_refuses_291 : decode cL_refuses 291 = .ok (.iconst 0, 1) := by decide +kernel
theorem dL_refuses_292 : decode cL_refuses 292 = .ok (.invokevirtual 84, 3) := by decide +kernel
theorem dL_refuses_295 : decode cL_refuses 295 = .ok (.iconst (-1), 1) := by decide +kernel
theorem dL_refuses_296 : decode cL_refuses 296 = .ok (.if_icmp .ne 83, 3) := by decide +kernel
theorem dL_refuses_299 : decode cL_refuses 299 = .ok (.aload_n 0, 1) := by decide +kernel
theorem dL_refuses_300 : decode cL_refuses 300 = .ok (.iload_n 3, 1) := by decide +kernel
theorem dL_refuses_301 : decode cL_refuses 301 = .ok (.iload_n 3, 1) := by decide +kernel
theorem dL_refuses_302 : decode cL_refuses 302 = .ok (.invokevirtual 93, 3) := by decide +kernel
theorem dL_refuses_305 : decode cL_refuses 305 = .ok (.iconst (-1), 1) := by decide +kernel
theorem dL_refuses_306 : decode cL_refuses 306 = .ok (.if_icmp .ne 73, 3) := by decide +kernel
theorem dL_refuses_309 : decode cL_refuses 309 = .ok (.aload_n 0, 1) := by decide +kernel
theorem dL_refuses_310 : decode cL_refuses 310 = .ok (.iload_n 3, 1) := by decide +kernel
theorem dL_refuses_311 : decode cL_refuses 311 = .ok (.iconst 0, 1) := by decide +kernel
theorem dL_refuses_312 : decode cL_refuses 312 = .ok (.invokevirtual 87, 3) := by decide +kernel
theorem dL_refuses_315 : decode cL_refuses 315 = .ok (.iconst (-1), 1) := by decide +kernel
theorem dL_refuses_316 : decode cL_refuses 316 = .ok (.if_icmp .ne 63, 3) := by decide +kernel
theorem dL_refuses_319 : decode cL_refuses 319 = .ok (.aload_n 0, 1) := by decide +kernel
theorem dL_refuses_320 : decode cL_refuses 320 = .ok (.iload_n 3, 1) := by decide +kernel
theorem dL_refuses_321 : decode cL_refuses 321 = .ok (.invokevirtual 90, 3) := by decide +kernel
theorem dL_refuses_324 : decode cL_refuses 324 = .ok (.iconst (-1), 1) := by decide +kernel
theorem dL_refuses_325 : decode cL_refuses 325 = .ok (.if_icmp .ne 54, 3) := by decide +kernel
theorem dL_refuses_328 : decode cL_refuses 328 = .ok (.aload_n 0, 1) := by decide +kernel
theorem dL_refuses_329 : decode cL_refuses 329 = .ok (.iload_n 3, 1) := by decide +kernel
theorem dL_refuses_330 : decode cL_refuses 330 = .ok (.iconst 0, 1) := by decide +kernel
theorem dL_refuses_331 : decode cL_refuses 331 = .ok (.invokevirtual 96, 3) := by decide +kernel
theorem dL_refuses_334 : decode cL_refuses 334 = .ok (.iconst (-1), 1) := by decide +kernel
theorem dL_refuses_335 : decode cL_refuses 335 = .ok (.if_icmp .ne 44, 3) := by decide +kernel
theorem dL_refuses_338 : decode cL_refuses 338 = .ok (.aload_n 0, 1) := by decide +kernel
theorem dL_refuses_339 : decode cL_refuses 339 = .ok (.bipush 11, 2) := by decide +kernel
theorem dL_refuses_341 : decode cL_refuses 341 = .ok (.iload_n 1, 1) := by decide +kernel
theorem dL_refuses_342 : decode cL_refuses 342 = .ok (.iadd, 1) := by decide +kernel
theorem dL_refuses_343 : decode cL_refuses 343 = .ok (.invokevirtual 9, 3) := by decide +kernel
theorem dL_refuses_346 : decode cL_refuses 346 = .ok (.bipush (-2), 2) := by decide +kernel
theorem dL_refuses_348 : decode cL_refuses 348 = .ok (.if_icmp .ne 31, 3) := by decide +kernel
theorem dL_refuses_351 : decode cL_refuses 351 = .ok (.aload_n 0, 1) := by decide +kernel
theorem dL_refuses_352 : decode cL_refuses 352 = .ok (.iconst 2, 1) := by decide +kernel
theorem dL_refuses_353 : decode cL_refuses 353 = .ok (.iload_n 1, 1) := by decide +kernel
theorem dL_refuses_354 : decode cL_refuses 354 = .ok (.iadd, 1) := by decide +kernel
theorem dL_refuses_355 : decode cL_refuses 355 = .ok (.invokevirtual 103, 3) := by decide +kernel
theorem dL_refuses_358 : decode cL_refuses 358 = .ok (.bipush (-2), 2) := by decide +kernel
theorem dL_refuses_360 : decode cL_refuses 360 = .ok (.if_icmp .ne 19, 3) := by decide +kernel
theorem dL_refuses_363 : decode cL_refuses 363 = .ok (.aload_n 0, 1) := by decide +kernel
theorem dL_refuses_364 : decode cL_refuses 364 = .ok (.iconst (-1), 1) := by decide +kernel
theorem dL_refuses_365 : decode cL_refuses 365 = .ok (.iload_n 1, 1) := by decide +kernel
theorem dL_refuses_366 : decode cL_refuses 366 = .ok (.isub, 1) := by decide +kernel
theorem dL_refuses_367 : decode cL_refuses 367 = .ok (.invokevirtual 103, 3) := by decide +kernel
theorem dL_refuses_370 : decode cL_refuses 370 = .ok (.bipush (-2), 2) := by decide +kernel
theorem dL_refuses_372 : decode cL_refuses 372 = .ok (.if_icmp .ne 7, 3) := by decide +kernel
theorem dL_refuses_375 : decode cL_refuses 375 = .ok (.iconst 1, 1) := by decide +kernel
theorem dL_refuses_376 : decode cL_refuses 376 = .ok (.goto 4, 3) := by decide +kernel
theorem dL_refuses_379 : decode cL_refuses 379 = .ok (.iconst 0, 1) := by decide +kernel
theorem dL_refuses_380 : decode cL_refuses 380 = .ok (.istore 5, 2) := by decide +kernel
theorem dL_refuses_382 : decode cL_refuses 382 = .ok (.iload 5, 2) := by decide +kernel
theorem dL_refuses_384 : decode cL_refuses 384 = .ok (.ifCond .eq 163, 3) := by decide +kernel
theorem dL_refuses_387 : decode cL_refuses 387 = .ok (.iload_n 2, 1) := by decide +kernel
theorem dL_refuses_388 : decode cL_refuses 388 = .ok (.ifCond .eq 155, 3) := by decide +kernel
theorem dL_refuses_391 : decode cL_refuses 391 = .ok (.aload_n 0, 1) := by decide +kernel
theorem dL_refuses_392 : decode cL_refuses 392 = .ok (.iconst 0, 1) := by decide +kernel
theorem dL_refuses_393 : decode cL_refuses 393 = .ok (.iload 4, 2) := by decide +kernel
theorem dL_refuses_395 : decode cL_refuses 395 = .ok (.invokevirtual 27, 3) := by decide +kernel
theorem dL_refuses_398 : decode cL_refuses 398 = .ok (.iconst (-1), 1) := by decide +kernel
theorem dL_refuses_399 : decode cL_refuses 399 = .ok (.if_icmp .ne 148, 3) := by decide +kernel
theorem dL_refuses_402 : decode cL_refuses 402 = .ok (.aload_n 0, 1) := by decide +kernel
theorem dL_refuses_403 : decode cL_refuses 403 = .ok (.iconst 0, 1) := by decide +kernel
theorem dL_refuses_404 : decode cL_refuses 404 = .ok (.iload 4, 2) := by decide +kernel
theorem dL_refuses_406 : decode cL_refuses 406 = .ok (.iconst 0, 1) := by decide +kernel
theorem dL_refuses_407 : decode cL_refuses 407 = .ok (.invokevirtual 30, 3) := by decide +kernel
theorem dL_refuses_410 : decode cL_refuses 410 = .ok (.iconst (-1), 1) := by decide +kernel
theorem dL_refuses_411 : decode cL_refuses 411 = .ok (.if_icmp .ne 136, 3) := by decide +kernel
theorem dL_refuses_414 : decode cL_refuses 414 = .ok (.aload_n 0, 1) := by decide +kernel
theorem dL_refuses_415 : decode cL_refuses 415 = .ok (.iconst 0, 1) := by decide +kernel
theorem dL_refuses_416 : decode cL_refuses 416 = .ok (.sipush 10000, 3) := by decide +kernel
theorem dL_refuses_419 : decode cL_refuses 419 = .ok (.iload_n 1, 1) := by decide +kernel
theorem dL_refuses_420 : decode cL_refuses 420 = .ok (.iadd, 1) := by decide +kernel
theorem dL_refuses_421 : decode cL_refuses 421 = .ok (.invokevirtual 37, 3) := by decide +kernel
theorem dL_refuses_424 : decode cL_refuses 424 = .ok (.bipush (-2), 2) := by decide +kernel
theorem dL_refuses_426 : decode cL_refuses 426 = .ok (.if_icmp .ne 121, 3) := by decide +kernel
theorem dL_refuses_429 : decode cL_refuses 429 = .ok (.aload_n 0, 1) := by decide +kernel
theorem dL_refuses_430 : decode cL_refuses 430 = .ok (.iconst 0, 1) := by decide +kernel
theorem dL_refuses_431 : decode cL_refuses 431 = .ok (.iconst 0, 1) := by decide +kernel
theorem dL_refuses_432 : decode cL_refuses 432 = .ok (.invokevirtual 37, 3) := by decide +kernel
theorem dL_refuses_435 : decode cL_refuses 435 = .ok (.bipush (-5), 2) := by decide +kernel
theorem dL_refuses_437 : decode cL_refuses 437 = .ok (.if_icmp .ne 110, 3) := by decide +kernel
theorem dL_refuses_440 : decode cL_refuses 440 = .ok (.aload_n 0, 1) := by decide +kernel
theorem dL_refuses_441 : decode cL_refuses 441 = .ok (.iconst 0, 1) := by decide +kernel
theorem dL_refuses_442 : decode cL_refuses 442 = .ok (.bipush 9, 2) := by decide +kernel
theorem dL_refuses_444 : decode cL_refuses 444 = .ok (.iload_n 1, 1) := by decide +kernel
theorem dL_refuses_445 : decode cL_refuses 445 = .ok (.iadd, 1) := by decide +kernel
theorem dL_refuses_446 : decode cL_refuses 446 = .ok (.invokevirtual 75, 3) := by decide +kernel
theorem dL_refuses_449 : decode cL_refuses 449 = .ok (.bipush (-2), 2) := by decide +kernel
theorem dL_refuses_451 : decode cL_refuses 451 = .ok (.if_icmp .ne 96, 3) := by decide +kernel
theorem dL_refuses_454 : decode cL_refuses 454 = .ok (.aload_n 0, 1) := by decide +kernel
theorem dL_refuses_455 : decode cL_refuses 455 = .ok (.iconst 0, 1) := by decide +kernel
theorem dL_refuses_456 : decode cL_refuses 456 = .ok (.iconst 3, 1) := by decide +kernel
theorem dL_refuses_457 : decode cL_refuses 457 = .ok (.aload_n 0, 1) := by decide +kernel
theorem dL_refuses_458 : decode cL_refuses 458 = .ok (.iconst 0, 1) := by decide +kernel
theorem dL_refuses_459 : decode cL_refuses 459 = .ok (.iconst 0, 1) := by decide +kernel
theorem dL_refuses_460 : decode cL_refuses 460 = .ok (.invokevirtual 75, 3) := by decide +kernel
theorem dL_refuses_463 : decode cL_refuses 463 = .ok (.iconst 3, 1) := by decide +kernel
theorem dL_refuses_464 : decode cL_refuses 464 = .ok (.ishr, 1) := by decide +kernel
theorem dL_refuses_465 : decode cL_refuses 465 = .ok (.iconst 1, 1) := by decide +kernel
theorem dL_refuses_466 : decode cL_refuses 466 = .ok (.iand, 1) := by decide +kernel
theorem dL_refuses_467 : decode cL_refuses 467 = .ok (.iconst 1, 1) := by decide +kernel
theorem dL_refuses_468 : decode cL_refuses 468 = .ok (.if_icmp .ne 7, 3) := by decide +kernel
theorem dL_refuses_471 : decode cL_refuses 471 = .ok (.iconst 1, 1) := by decide +kernel
theorem dL_refuses_472 : decode cL_refuses 472 = .ok (.goto 4, 3) := by decide +kernel
theorem dL_refuses_475 : decode cL_refuses 475 = .ok (.iconst 0, 1) := by decide +kernel
theorem dL_refuses_476 : decode cL_refuses 476 = .ok (.invokevirtual 30, 3) := by decide +kernel
theorem dL_refuses_479 : decode cL_refuses 479 = .ok (.bipush (-5), 2) := by decide +kernel
theorem dL_refuses_481 : decode cL_refuses 481 = .ok (.if_icmp .ne 66, 3) := by decide +kernel
theorem dL_refuses_484 : decode cL_refuses 484 = .ok (.aload_n 0, 1) := by decide +kernel
theorem dL_refuses_485 : decode cL_refuses 485 = .ok (.iconst 0, 1) := by decide +kernel
theorem dL_refuses_486 : decode cL_refuses 486 = .ok (.aload_n 0, 1) := by decide +kernel
theorem dL_refuses_487 : decode cL_refuses 487 = .ok (.iconst 0, 1) := by decide +kernel
theorem dL_refuses_488 : decode cL_refuses 488 = .ok (.bipush 7, 2) := by decide +kernel
theorem dL_refuses_490 : decode cL_refuses 490 = .ok (.invokevirtual 75, 3) := by decide +kernel
theorem dL_refuses_493 : decode cL_refuses 493 = .ok (.iconst 1, 1) := by decide +kernel
theorem dL_refuses_494 : decode cL_refuses 494 = .ok (.if_icmp .ne 7, 3) := by decide +kernel
theorem dL_refuses_497 : decode cL_refuses 497 = .ok (.iconst 1, 1) := by decide +kernel
theorem dL_refuses_498 : decode cL_refuses 498 = .ok (.goto 4, 3) := by decide +kernel
theorem dL_refuses_501 : decode cL_refuses 501 = .ok (.iconst 0, 1) := by decide +kernel
theorem dL_refuses_502 : decode cL_refuses 502 = .ok (.invokevirtual 40, 3) := by decide +kernel
theorem dL_refuses_505 : decode cL_refuses 505 = .ok (.bipush (-5), 2) := by decide +kernel
theorem dL_refuses_507 : decode cL_refuses 507 = .ok (.if_icmp .ne 40, 3) := by decide +kernel
theorem dL_refuses_510 : decode cL_refuses 510 = .ok (.aload_n 0, 1) := by decide +kernel
theorem dL_refuses_511 : decode cL_refuses 511 = .ok (.iconst 0, 1) := by decide +kernel
theorem dL_refuses_512 : decode cL_refuses 512 = .ok (.iconst 2, 1) := by decide +kernel
theorem dL_refuses_513 : decode cL_refuses 513 = .ok (.iload_n 1, 1) := by decide +kernel
theorem dL_refuses_514 : decode cL_refuses 514 = .ok (.iadd, 1) := by decide +kernel
theorem dL_refuses_515 : decode cL_refuses 515 = .ok (.invokevirtual 96, 3) := by decide +kernel
theorem dL_refuses_518 : decode cL_refuses 518 = .ok (.bipush (-2), 2) := by decide +kernel
theorem dL_refuses_520 : decode cL_refuses 520 = .ok (.if_icmp .ne 27, 3) := by decide +kernel
theorem dL_refuses_523 : decode cL_refuses 523 = .ok (.aload_n 0, 1) := by decide +kernel
theorem dL_refuses_524 : decode cL_refuses 524 = .ok (.iconst 0, 1) := by decide +kernel
theorem dL_refuses_525 : decode cL_refuses 525 = .ok (.iconst 5, 1) := by decide +kernel
theorem dL_refuses_526 : decode cL_refuses 526 = .ok (.invokevirtual 75, 3) := by decide +kernel
theorem dL_refuses_529 : decode cL_refuses 529 = .ok (.iconst 1, 1) := by decide +kernel
theorem dL_refuses_530 : decode cL_refuses 530 = .ok (.if_icmp .eq 13, 3) := by decide +kernel
theorem dL_refuses_533 : decode cL_refuses 533 = .ok (.aload_n 0, 1) := by decide +kernel
theorem dL_refuses_534 : decode cL_refuses 534 = .ok (.iconst 0, 1) := by decide +kernel
theorem dL_refuses_535 : decode cL_refuses 535 = .ok (.invokevirtual 34, 3) := by decide +kernel
theorem dL_refuses_538 : decode cL_refuses 538 = .ok (.bipush (-5), 2) := by decide +kernel
theorem dL_refuses_540 : decode cL_refuses 540 = .ok (.if_icmp .ne 7, 3) := by decide +kernel
theorem dL_refuses_543 : decode cL_refuses 543 = .ok (.iconst 1, 1) := by decide +kernel
theorem dL_refuses_544 : decode cL_refuses 544 = .ok (.goto 4, 3) := by decide +kernel
theorem dL_refuses_547 : decode cL_refuses 547 = .ok (.iconst 0, 1) := by decide +kernel
theorem dL_refuses_548 : decode cL_refuses 548 = .ok (.ireturn, 1) := by decide +kernel
theorem dL_law_0 : decode cL_law 0 = .ok (.new 10, 3) := by decide +kernel
theorem dL_law_3 : decode cL_law 3 = .ok (.dup, 1) := by decide +kernel
theorem dL_law_4 : decode cL_law 4 = .ok (.invokespecial 106, 3) := by decide +kernel
theorem dL_law_7 : decode cL_law 7 = .ok (.astore_n 1, 1) := by decide +kernel
theorem dL_law_8 : decode cL_law 8 = .ok (.new 10, 3) := by decide +kernel
theorem dL_law_11 : decode cL_law 11 = .ok (.dup, 1) := by decide +kernel
theorem dL_law_12 : decode cL_law 12 = .ok (.invokespecial 106, 3) := by decide +kernel
theorem dL_law_15 : decode cL_law 15 = .ok (.astore_n 2, 1) := by decide +kernel
theorem dL_law_16 : decode cL_law 16 = .ok (.aload_n 1, 1) := by decide +kernel
theorem dL_law_17 : decode cL_law 17 = .ok (.invokevirtual 53, 3) := by decide +kernel
theorem dL_law_20 : decode cL_law 20 = .ok (.bipush (-5), 2) := by decide +kernel
theorem dL_law_22 : decode cL_law 22 = .ok (.if_icmp .ne 59, 3) := by decide +kernel
theorem dL_law_25 : decode cL_law 25 = .ok (.aload_n 1, 1) := by decide +kernel
theorem dL_law_26 : decode cL_law 26 = .ok (.invokevirtual 50, 3) := by decide +kernel
theorem dL_law_29 : decode cL_law 29 = .ok (.bipush (-5), 2) := by decide +kernel
theorem dL_law_31 : decode cL_law 31 = .ok (.if_icmp .ne 50, 3) := by decide +kernel
theorem dL_law_34 : decode cL_law 34 = .ok (.aload_n 1, 1) := by decide +kernel
theorem dL_law_35 : decode cL_law 35 = .ok (.iconst 0, 1) := by decide +kernel
theorem dL_law_36 : decode cL_law 36 = .ok (.invokevirtual 103, 3) := by decide +kernel
theorem dL_law_39 : decode cL_law 39 = .ok (.ifCond .ne 42, 3) := by decide +kernel
theorem dL_law_42 : decode cL_law 42 = .ok (.aload_n 1, 1) := by decide +kernel
theorem dL_law_43 : decode cL_law 43 = .ok (.iconst 1, 1) := by decide +kernel
theorem dL_law_44 : decode cL_law 44 = .ok (.invokevirtual 103, 3) := by decide +kernel
theorem dL_law_47 : decode cL_law 47 = .ok (.iconst 1, 1) := by decide +kernel
theorem dL_law_48 : decode cL_law 48 = .ok (.if_icmp .ne 33, 3) := by decide +kernel
theorem dL_law_51 : decode cL_law 51 = .ok (.aload_n 1, 1) := by decide +kernel
theorem dL_law_52 : decode cL_law 52 = .ok (.invokevirtual 63, 3) := by decide +kernel
theorem dL_law_55 : decode cL_law 55 = .ok (.bipush (-100), 2) := by decide +kernel
theorem dL_law_57 : decode cL_law 57 = .ok (.if_icmp .ne 24, 3) := by decide +kernel
theorem dL_law_60 : decode cL_law 60 = .ok (.aload_n 1, 1) := by decide +kernel
theorem dL_law_61 : decode cL_law 61 = .ok (.iconst 0, 1) := by decide +kernel
theorem dL_law_62 : decode cL_law 62 = .ok (.invokevirtual 66, 3) := by decide +kernel
theorem dL_law_65 : decode cL_law 65 = .ok (.bipush 24, 2) := by decide +kernel
theorem dL_law_67 : decode cL_law 67 = .ok (.if_icmp .ne 14, 3) := by decide +kernel
theorem dL_law_70 : decode cL_law 70 = .ok (.aload_n 1, 1) := by decide +kernel
theorem dL_law_71 : decode cL_law 71 = .ok (.invokestatic 107, 3) := by decide +kernel
theorem dL_law_74 : decode cL_law 74 = .ok (.ifCond .eq 7, 3) := by decide +kernel
theorem dL_law_77 : decode cL_law 77 = .ok (.iconst 1, 1) := by decide +kernel
theorem dL_law_78 : decode cL_law 78 = .ok (.goto 4, 3) := by decide +kernel
theorem dL_law_81 : decode cL_law 81 = .ok (.iconst 0, 1) := by decide +kernel
theorem dL_law_82 : decode cL_law 82 = .ok (.istore_n 3, 1) := by decide +kernel
theorem dL_law_83 : decode cL_law 83 = .ok (.iconst 0, 1) := by decide +kernel
theorem dL_law_84 : decode cL_law 84 = .ok (.istore 4, 2) := by decide +kernel
theorem dL_law_86 : decode cL_law 86 = .ok (.iload 4, 2) := by decide +kernel
theorem dL_law_88 : decode cL_law 88 = .ok (.bipush 32, 2) := by decide +kernel
theorem dL_law_90 : decode cL_law 90 = .ok (.if_icmp .ge 98, 3) := by decide +kernel
theorem dL_law_93 : decode cL_law 93 = .ok (.iload_n 3, 1) := by decide +kernel
theorem dL_law_94 : decode cL_law 94 = .ok (.ifCond .eq 94, 3) := by decide +kernel
theorem dL_law_97 : decode cL_law 97 = .ok (.aload_n 0, 1) := by decide +kernel
theorem dL_law_98 : decode cL_law 98 = .ok (.iload 4, 2) := by decide +kernel
theorem dL_law_100 : decode cL_law 100 = .ok (.invokestatic 111, 3) := by decide +kernel
theorem dL_law_103 : decode cL_law 103 = .ok (.istore 5, 2) := by decide +kernel
theorem dL_law_105 : decode cL_law 105 = .ok (.aload_n 1, 1) := by decide +kernel
theorem dL_law_106 : decode cL_law 106 = .ok (.iload 5, 2) := by decide +kernel
theorem dL_law_108 : decode cL_law 108 = .ok (.invokestatic 115, 3) := by decide +kernel
theorem dL_law_111 : decode cL_law 111 = .ok (.istore 6, 2) := by decide +kernel
theorem dL_law_113 : decode cL_law 113 = .ok (.iload 4, 2) := by decide +kernel
theorem dL_law_115 : decode cL_law 115 = .ok (.iconst 3, 1) := by decide +kernel
theorem dL_law_116 : decode cL_law 116 = .ok (.irem, 1) := by decide +kernel
theorem dL_law_117 : decode cL_law 117 = .ok (.ifCond .gt 15, 3) := by decide +kernel
theorem dL_law_120 : decode cL_law 120 = .ok (.aload_n 2, 1) := by decide +kernel
theorem dL_law_121 : decode cL_law 121 = .ok (.iload 5, 2) := by decide +kernel
theorem dL_law_123 : decode cL_law 123 = .ok (.ldc 119, 2) := by decide +kernel
theorem dL_law_125 : decode cL_law 125 = .ok (.irem, 1) := by decide +kernel
theorem dL_law_126 : decode cL_law 126 = .ok (.invokestatic 120, 3) := by decide +kernel
theorem dL_law_129 : decode cL_law 129 = .ok (.ifCond .eq 51, 3) := by decide +kernel
theorem dL_law_132 : decode cL_law 132 = .ok (.aload_n 2, 1) := by decide +kernel
theorem dL_law_133 : decode cL_law 133 = .ok (.iload 5, 2) := by decide +kernel
theorem dL_law_135 : decode cL_law 135 = .ok (.invokestatic 115, 3) := by decide +kernel
theorem dL_law_138 : decode cL_law 138 = .ok (.iload 6, 2) := by decide +kernel
theorem dL_law_140 : decode cL_law 140 = .ok (.if_icmp .ne 40, 3) := by decide +kernel
theorem dL_law_143 : decode cL_law 143 = .ok (.aload_n 1, 1) := by decide +kernel
theorem dL_law_144 : decode cL_law 144 = .ok (.aload_n 2, 1) := by decide +kernel
theorem dL_law_145 : decode cL_law 145 = .ok (.invokestatic 124, 3) := by decide +kernel
theorem dL_law_148 : decode cL_law 148 = .ok (.ifCond .eq 32, 3) := by decide +kernel
theorem dL_law_151 : decode cL_law 151 = .ok (.iload 4, 2) := by decide +kernel
theorem dL_law_153 : decode cL_law 153 = .ok (.iconst 3, 1) := by decide +kernel
theorem dL_law_154 : decode cL_law 154 = .ok (.irem, 1) := by decide +kernel
theorem dL_law_155 : decode cL_law 155 = .ok (.ifCond .gt 21, 3) := by decide +kernel
theorem dL_law_158 : decode cL_law 158 = .ok (.iload 4, 2) := by decide +kernel
theorem dL_law_160 : decode cL_law 160 = .ok (.iconst 2, 1) := by decide +kernel
theorem dL_law_161 : decode cL_law 161 = .ok (.irem, 1) := by decide +kernel
theorem dL_law_162 : decode cL_law 162 = .ok (.ifCond .ne 7, 3) := by decide +kernel
theorem dL_law_165 : decode cL_law 165 = .ok (.aload_n 1, 1) := by decide +kernel
theorem dL_law_166 : decode cL_law 166 = .ok (.goto 4, 3) := by decide +kernel
theorem dL_law_169 : decode cL_law 169 = .ok (.aload_n 2, 1) := by decide +kernel
theorem dL_law_170 : decode cL_law 170 = .ok (.invokestatic 107, 3) := by decide +kernel
theorem dL_law_173 : decode cL_law 173 = .ok (.ifCond .eq 7, 3) := by decide +kernel
theorem dL_law_176 : decode cL_law 176 = .ok (.iconst 1, 1) := by decide +kernel
theorem dL_law_177 : decode cL_law 177 = .ok (.goto 4, 3) := by decide +kernel
theorem dL_law_180 : decode cL_law 180 = .ok (.iconst 0, 1) := by decide +kernel
theorem dL_law_181 : decode cL_law 181 = .ok (.istore_n 3, 1) := by decide +kernel
theorem dL_law_182 : decode cL_law 182 = .ok (.iinc 4 1, 3) := by decide +kernel
theorem dL_law_185 : decode cL_law 185 = .ok (.goto (-99), 3) := by decide +kernel
theorem dL_law_188 : decode cL_law 188 = .ok (.iconst 1, 1) := by decide +kernel
theorem dL_law_189 : decode cL_law 189 = .ok (.aload_n 0, 1) := by decide +kernel
theorem dL_law_190 : decode cL_law 190 = .ok (.bipush 32, 2) := by decide +kernel
theorem dL_law_192 : decode cL_law 192 = .ok (.invokestatic 111, 3) := by decide +kernel
theorem dL_law_195 : decode cL_law 195 = .ok (.bipush 9, 2) := by decide +kernel
theorem dL_law_197 : decode cL_law 197 = .ok (.irem, 1) := by decide +kernel
theorem dL_law_198 : decode cL_law 198 = .ok (.iadd, 1) := by decide +kernel
theorem dL_law_199 : decode cL_law 199 = .ok (.istore 4, 2) := by decide +kernel
theorem dL_law_201 : decode cL_law 201 = .ok (.aload_n 1, 1) := by decide +kernel
theorem dL_law_202 : decode cL_law 202 = .ok (.iconst 1, 1) := by decide +kernel
theorem dL_law_203 : decode cL_law 203 = .ok (.invokevirtual 9, 3) := by decide +kernel
theorem dL_law_206 : decode cL_law 206 = .ok (.istore 5, 2) := by decide +kernel
theorem dL_law_208 : decode cL_law 208 = .ok (.iload_n 3, 1) := by decide +kernel
theorem dL_law_209 : decode cL_law 209 = .ok (.ifCond .eq 12, 3) := by decide +kernel
theorem dL_law_212 : decode cL_law 212 = .ok (.aload_n 1, 1) := by decide +kernel
theorem dL_law_213 : decode cL_law 213 = .ok (.iload 4, 2) := by decide +kernel
theorem dL_law_215 : decode cL_law 215 = .ok (.invokevirtual 44, 3) := by decide +kernel
theorem dL_law_218 : decode cL_law 218 = .ok (.goto 5, 3) := by decide +kernel
theorem dL_law_221 : decode cL_law 221 = .ok (.bipush (-9), 2) := by decide +kernel
theorem dL_law_223 : decode cL_law 223 = .ok (.istore 6, 2) := by decide +kernel
theorem dL_law_225 : decode cL_law 225 = .ok (.iload_n 3, 1) := by decide +kernel
theorem dL_law_226 : decode cL_law 226 = .ok (.ifCond .eq 40, 3) := by decide +kernel
theorem dL_law_229 : decode cL_law 229 = .ok (.aload_n 1, 1) := by decide +kernel
theorem dL_law_230 : decode cL_law 230 = .ok (.invokestatic 107, 3) := by decide +kernel
theorem dL_law_233 : decode cL_law 233 = .ok (.ifCond .eq 33, 3) := by decide +kernel
theorem dL_law_236 : decode cL_law 236 = .ok (.iload 6, 2) := by decide +kernel
theorem dL_law_238 : decode cL_law 238 = .ok (.bipush (-5), 2) := by decide +kernel
theorem dL_law_240 : decode cL_law 240 = .ok (.if_icmp .eq 22, 3) := by decide +kernel
theorem dL_law_243 : decode cL_law 243 = .ok (.iload 6, 2) := by decide +kernel
theorem dL_law_245 : decode cL_law 245 = .ok (.iload 5, 2) := by decide +kernel
theorem dL_law_247 : decode cL_law 247 = .ok (.if_icmp .ne 19, 3) := by decide +kernel
theorem dL_law_250 : decode cL_law 250 = .ok (.aload_n 1, 1) := by decide +kernel
theorem dL_law_251 : decode cL_law 251 = .ok (.iload 4, 2) := by decide +kernel
theorem dL_law_253 : decode cL_law 253 = .ok (.ineg, 1) := by decide +kernel
theorem dL_law_254 : decode cL_law 254 = .ok (.invokevirtual 44, 3) := by decide +kernel
theorem dL_law_257 : decode cL_law 257 = .ok (.iload 5, 2) := by decide +kernel
theorem dL_law_259 : decode cL_law 259 = .ok (.if_icmp .ne 7, 3) := by decide +kernel
theorem dL_law_262 : decode cL_law 262 = .ok (.iconst 1, 1) := by decide +kernel
theorem dL_law_263 : decode cL_law 263 = .ok (.goto 4, 3) := by decide +kernel
theorem dL_law_266 : decode cL_law 266 = .ok (.iconst 0, 1) := by decide +kernel
theorem dL_law_267 : decode cL_law 267 = .ok (.istore_n 3, 1) := by decide +kernel
theorem dL_law_268 : decode cL_law 268 = .ok (.iconst 0, 1) := by decide +kernel
theorem dL_law_269 : decode cL_law 269 = .ok (.istore 7, 2) := by decide +kernel
theorem dL_law_271 : decode cL_law 271 = .ok (.iload 7, 2) := by decide +kernel
theorem dL_law_273 : decode cL_law 273 = .ok (.bipush 24, 2) := by decide +kernel
theorem dL_law_275 : decode cL_law 275 = .ok (.if_icmp .ge 36, 3) := by decide +kernel
theorem dL_law_278 : decode cL_law 278 = .ok (.iload_n 3, 1) := by decide +kernel
theorem dL_law_279 : decode cL_law 279 = .ok (.ifCond .eq 32, 3) := by decide +kernel
theorem dL_law_282 : decode cL_law 282 = .ok (.aload_n 1, 1) := by decide +kernel
theorem dL_law_283 : decode cL_law 283 = .ok (.iload 7, 2) := by decide +kernel
theorem dL_law_285 : decode cL_law 285 = .ok (.iconst 4, 1) := by decide +kernel
theorem dL_law_286 : decode cL_law 286 = .ok (.invokevirtual 69, 3) := by decide +kernel
theorem dL_law_289 : decode cL_law 289 = .ok (.aload_n 2, 1) := by decide +kernel
theorem dL_law_290 : decode cL_law 290 = .ok (.iload 7, 2) := by decide +kernel
theorem dL_law_292 : decode cL_law 292 = .ok (.iconst 4, 1) := by decide +kernel
theorem dL_law_293 : decode cL_law 293 = .ok (.invokevirtual 69, 3) := by decide +kernel
theorem dL_law_296 : decode cL_law 296 = .ok (.if_icmp .ne 7, 3) := by decide +kernel
theorem dL_law_299 : decode cL_law 299 = .ok (.iconst 1, 1) := by decide +kernel
theorem dL_law_300 : decode cL_law 300 = .ok (.goto 4, 3) := by decide +kernel
theorem dL_law_303 : decode cL_law 303 = .ok (.iconst 0, 1) := by decide +kernel
theorem dL_law_304 : decode cL_law 304 = .ok (.istore_n 3, 1) := by decide +kernel
theorem dL_law_305 : decode cL_law 305 = .ok (.iinc 7 1, 3) := by decide +kernel
theorem dL_law_308 : decode cL_law 308 = .ok (.goto (-37), 3) := by decide +kernel
theorem dL_law_311 : decode cL_law 311 = .ok (.iload_n 3, 1) := by decide +kernel
theorem dL_law_312 : decode cL_law 312 = .ok (.ifCond .eq 85, 3) := by decide +kernel
theorem dL_law_315 : decode cL_law 315 = .ok (.iload 6, 2) := by decide +kernel
theorem dL_law_317 : decode cL_law 317 = .ok (.bipush (-5), 2) := by decide +kernel
theorem dL_law_319 : decode cL_law 319 = .ok (.if_icmp .ne 14, 3) := by decide +kernel
theorem dL_law_322 : decode cL_law 322 = .ok (.aload_n 1, 1) := by decide +kernel
theorem dL_law_323 : decode cL_law 323 = .ok (.aload_n 2, 1) := by decide +kernel
theorem dL_law_324 : decode cL_law 324 = .ok (.invokestatic 124, 3) := by decide +kernel
theorem dL_law_327 : decode cL_law 327 = .ok (.ifCond .eq 70, 3) := by decide +kernel
theorem dL_law_330 : decode cL_law 330 = .ok (.goto 37, 3) := by decide +kernel
theorem dL_law_333 : decode cL_law 333 = .ok (.aload_n 1, 1) := by decide +kernel
theorem dL_law_334 : decode cL_law 334 = .ok (.bipush 8, 2) := by decide +kernel
theorem dL_law_336 : decode cL_law 336 = .ok (.invokevirtual 9, 3) := by decide +kernel
theorem dL_law_339 : decode cL_law 339 = .ok (.aload_n 2, 1) := by decide +kernel
theorem dL_law_340 : decode cL_law 340 = .ok (.bipush 8, 2) := by decide +kernel
theorem dL_law_342 : decode cL_law 342 = .ok (.invokevirtual 9, 3) := by decide +kernel
theorem dL_law_345 : decode cL_law 345 = .ok (.iconst 2, 1) := by decide +kernel
theorem dL_law_346 : decode cL_law 346 = .ok (.iload 5, 2) := by decide +kernel
theorem dL_law_348 : decode cL_law 348 = .ok (.imul, 1) := by decide +kernel
theorem dL_law_349 : decode cL_law 349 = .ok (.iadd, 1) := by decide +kernel
theorem dL_law_350 : decode cL_law 350 = .ok (.if_icmp .ne 47, 3) := by decide +kernel
theorem dL_law_353 : decode cL_law 353 = .ok (.aload_n 1, 1) := by decide +kernel
theorem dL_law_354 : decode cL_law 354 = .ok (.invokevirtual 53, 3) := by decide +kernel
theorem dL_law_357 : decode cL_law 357 = .ok (.ifCond .lt 40, 3) := by decide +kernel
theorem dL_law_360 : decode cL_law 360 = .ok (.aload_n 1, 1) := by decide +kernel
theorem dL_law_361 : decode cL_law 361 = .ok (.invokevirtual 53, 3) := by decide +kernel
theorem dL_law_364 : decode cL_law 364 = .ok (.ifCond .lt 33, 3) := by decide +kernel
theorem dL_law_367 : decode cL_law 367 = .ok (.aload_n 1, 1) := by decide +kernel
theorem dL_law_368 : decode cL_law 368 = .ok (.bipush 8, 2) := by decide +kernel
theorem dL_law_370 : decode cL_law 370 = .ok (.invokevirtual 9, 3) := by decide +kernel
theorem dL_law_373 : decode cL_law 373 = .ok (.aload_n 2, 1) := by decide +kernel
theorem dL_law_374 : decode cL_law 374 = .ok (.bipush 8, 2) := by decide +kernel
theorem dL_law_376 : decode cL_law 376 = .ok (.invokevirtual 9, 3) := by decide +kernel
theorem dL_law_379 : decode cL_law 379 = .ok (.if_icmp .ne 18, 3) := by decide +kernel
theorem dL_law_382 : decode cL_law 382 = .ok (.aload_n 1, 1) := by decide +kernel
theorem dL_law_383 : decode cL_law 383 = .ok (.invokevirtual 72, 3) := by decide +kernel
theorem dL_law_386 : decode cL_law 386 = .ok (.aload_n 2, 1) := by decide +kernel
theorem dL_law_387 : decode cL_law 387 = .ok (.invokevirtual 72, 3) := by decide +kernel
theorem dL_law_390 : decode cL_law 390 = .ok (.if_icmp .ne 7, 3) := by decide +kernel
theorem dL_law_393 : decode cL_law 393 = .ok (.iconst 1, 1) := by decide +kernel
theorem dL_law_394 : decode cL_law 394 = .ok (.goto 4, 3) := by decide +kernel
theorem dL_law_397 : decode cL_law 397 = .ok (.iconst 0, 1) := by decide +kernel
theorem dL_law_398 : decode cL_law 398 = .ok (.ireturn, 1) := by decide +kernel
