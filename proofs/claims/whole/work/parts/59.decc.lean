theorem dX11_init_0 : decode cX11_init 0 = .ok (.aload_n 0, 1) := by decide +kernel
theorem dX11_init_1 : decode cX11_init 1 = .ok (.invokespecial 1, 3) := by decide +kernel
theorem dX11_init_4 : decode cX11_init 4 = .ok (.aload_n 0, 1) := by decide +kernel
theorem dX11_init_5 : decode cX11_init 5 = .ok (.bipush 16, 2) := by decide +kernel
theorem dX11_init_7 : decode cX11_init 7 = .ok (.newarray .int, 2) := by decide +kernel
theorem dX11_init_9 : decode cX11_init 9 = .ok (.putfield 7, 3) := by decide +kernel
theorem dX11_init_12 : decode cX11_init 12 = .ok (.aload_n 0, 1) := by decide +kernel
theorem dX11_init_13 : decode cX11_init 13 = .ok (.bipush 16, 2) := by decide +kernel
theorem dX11_init_15 : decode cX11_init 15 = .ok (.newarray .int, 2) := by decide +kernel
theorem dX11_init_17 : decode cX11_init 17 = .ok (.putfield 13, 3) := by decide +kernel
theorem dX11_init_20 : decode cX11_init 20 = .ok (.aload_n 0, 1) := by decide +kernel
theorem dX11_init_21 : decode cX11_init 21 = .ok (.iconst 4, 1) := by decide +kernel
theorem dX11_init_22 : decode cX11_init 22 = .ok (.newarray .int, 2) := by decide +kernel
theorem dX11_init_24 : decode cX11_init 24 = .ok (.putfield 16, 3) := by decide +kernel
theorem dX11_init_27 : decode cX11_init 27 = .ok (.aload_n 0, 1) := by decide +kernel
theorem dX11_init_28 : decode cX11_init 28 = .ok (.sipush 244, 3) := by decide +kernel
theorem dX11_init_31 : decode cX11_init 31 = .ok (.newarray .int, 2) := by decide +kernel
theorem dX11_init_33 : decode cX11_init 33 = .ok (.putfield 19, 3) := by decide +kernel
theorem dX11_init_36 : decode cX11_init 36 = .ok (.aload_n 0, 1) := by decide +kernel
theorem dX11_init_37 : decode cX11_init 37 = .ok (.iconst 4, 1) := by decide +kernel
theorem dX11_init_38 : decode cX11_init 38 = .ok (.newarray .long, 2) := by decide +kernel
theorem dX11_init_40 : decode cX11_init 40 = .ok (.putfield 22, 3) := by decide +kernel
theorem dX11_init_43 : decode cX11_init 43 = .ok (.aload_n 0, 1) := by decide +kernel
theorem dX11_init_44 : decode cX11_init 44 = .ok (.iconst 4, 1) := by decide +kernel
theorem dX11_init_45 : decode cX11_init 45 = .ok (.newarray .long, 2) := by decide +kernel
theorem dX11_init_47 : decode cX11_init 47 = .ok (.putfield 26, 3) := by decide +kernel
theorem dX11_init_50 : decode cX11_init 50 = .ok (.aload_n 0, 1) := by decide +kernel
theorem dX11_init_51 : decode cX11_init 51 = .ok (.iconst 4, 1) := by decide +kernel
theorem dX11_init_52 : decode cX11_init 52 = .ok (.newarray .int, 2) := by decide +kernel
theorem dX11_init_54 : decode cX11_init 54 = .ok (.putfield 29, 3) := by decide +kernel
theorem dX11_init_57 : decode cX11_init 57 = .ok (.aload_n 0, 1) := by decide +kernel
theorem dX11_init_58 : decode cX11_init 58 = .ok (.iconst 4, 1) := by decide +kernel
theorem dX11_init_59 : decode cX11_init 59 = .ok (.newarray .int, 2) := by decide +kernel
theorem dX11_init_61 : decode cX11_init 61 = .ok (.putfield 32, 3) := by decide +kernel
theorem dX11_init_64 : decode cX11_init 64 = .ok (.aload_n 0, 1) := by decide +kernel
theorem dX11_init_65 : decode cX11_init 65 = .ok (.iconst 4, 1) := by decide +kernel
theorem dX11_init_66 : decode cX11_init 66 = .ok (.newarray .int, 2) := by decide +kernel
theorem dX11_init_68 : decode cX11_init 68 = .ok (.putfield 35, 3) := by decide +kernel
theorem dX11_init_71 : decode cX11_init 71 = .ok (.aload_n 0, 1) := by decide +kernel
theorem dX11_init_72 : decode cX11_init 72 = .ok (.iconst 4, 1) := by decide +kernel
theorem dX11_init_73 : decode cX11_init 73 = .ok (.newarray .int, 2) := by decide +kernel
theorem dX11_init_75 : decode cX11_init 75 = .ok (.putfield 38, 3) := by decide +kernel
theorem dX11_init_78 : decode cX11_init 78 = .ok (.aload_n 0, 1) := by decide +kernel
theorem dX11_init_79 : decode cX11_init 79 = .ok (.bipush 10, 2) := by decide +kernel
theorem dX11_init_81 : decode cX11_init 81 = .ok (.newarray .int, 2) := by decide +kernel
theorem dX11_init_83 : decode cX11_init 83 = .ok (.putfield 41, 3) := by decide +kernel
theorem dX11_init_86 : decode cX11_init 86 = .ok (.aload_n 0, 1) := by decide +kernel
theorem dX11_init_87 : decode cX11_init 87 = .ok (.bipush 10, 2) := by decide +kernel
theorem dX11_init_89 : decode cX11_init 89 = .ok (.newarray .int, 2) := by decide +kernel
theorem dX11_init_91 : decode cX11_init 91 = .ok (.putfield 44, 3) := by decide +kernel
theorem dX11_init_94 : decode cX11_init 94 = .ok (.aload_n 0, 1) := by decide +kernel
theorem dX11_init_95 : decode cX11_init 95 = .ok (.bipush 10, 2) := by decide +kernel
theorem dX11_init_97 : decode cX11_init 97 = .ok (.newarray .int, 2) := by decide +kernel
theorem dX11_init_99 : decode cX11_init 99 = .ok (.putfield 47, 3) := by decide +kernel
theorem dX11_init_102 : decode cX11_init 102 = .ok (.aload_n 0, 1) := by decide +kernel
theorem dX11_init_103 : decode cX11_init 103 = .ok (.bipush 10, 2) := by decide +kernel
theorem dX11_init_105 : decode cX11_init 105 = .ok (.newarray .int, 2) := by decide +kernel
theorem dX11_init_107 : decode cX11_init 107 = .ok (.putfield 50, 3) := by decide +kernel
theorem dX11_init_110 : decode cX11_init 110 = .ok (.aload_n 0, 1) := by decide +kernel
theorem dX11_init_111 : decode cX11_init 111 = .ok (.bipush 10, 2) := by decide +kernel
theorem dX11_init_113 : decode cX11_init 113 = .ok (.newarray .int, 2) := by decide +kernel
theorem dX11_init_115 : decode cX11_init 115 = .ok (.putfield 53, 3) := by decide +kernel
theorem dX11_init_118 : decode cX11_init 118 = .ok (.aload_n 0, 1) := by decide +kernel
theorem dX11_init_119 : decode cX11_init 119 = .ok (.bipush 10, 2) := by decide +kernel
theorem dX11_init_121 : decode cX11_init 121 = .ok (.newarray .int, 2) := by decide +kernel
theorem dX11_init_123 : decode cX11_init 123 = .ok (.putfield 56, 3) := by decide +kernel
theorem dX11_init_126 : decode cX11_init 126 = .ok (.aload_n 0, 1) := by decide +kernel
theorem dX11_init_127 : decode cX11_init 127 = .ok (.bipush 10, 2) := by decide +kernel
theorem dX11_init_129 : decode cX11_init 129 = .ok (.newarray .int, 2) := by decide +kernel
theorem dX11_init_131 : decode cX11_init 131 = .ok (.putfield 59, 3) := by decide +kernel
theorem dX11_init_134 : decode cX11_init 134 = .ok (.aload_n 0, 1) := by decide +kernel
theorem dX11_init_135 : decode cX11_init 135 = .ok (.bipush 10, 2) := by decide +kernel
theorem dX11_init_137 : decode cX11_init 137 = .ok (.newarray .int, 2) := by decide +kernel
theorem dX11_init_139 : decode cX11_init 139 = .ok (.putfield 62, 3) := by decide +kernel
theorem dX11_init_142 : decode cX11_init 142 = .ok (.aload_n 0, 1) := by decide +kernel
theorem dX11_init_143 : decode cX11_init 143 = .ok (.bipush 10, 2) := by decide +kernel
theorem dX11_init_145 : decode cX11_init 145 = .ok (.newarray .boolean, 2) := by decide +kernel
theorem dX11_init_147 : decode cX11_init 147 = .ok (.putfield 65, 3) := by decide +kernel
theorem dX11_init_150 : decode cX11_init 150 = .ok (.aload_n 0, 1) := by decide +kernel
theorem dX11_init_151 : decode cX11_init 151 = .ok (.bipush 16, 2) := by decide +kernel
theorem dX11_init_153 : decode cX11_init 153 = .ok (.newarray .int, 2) := by decide +kernel
theorem dX11_init_155 : decode cX11_init 155 = .ok (.putfield 69, 3) := by decide +kernel
theorem dX11_init_158 : decode cX11_init 158 = .ok (.aload_n 0, 1) := by decide +kernel
theorem dX11_init_159 : decode cX11_init 159 = .ok (.iconst 4, 1) := by decide +kernel
theorem dX11_init_160 : decode cX11_init 160 = .ok (.newarray .int, 2) := by decide +kernel
theorem dX11_init_162 : decode cX11_init 162 = .ok (.putfield 72, 3) := by decide +kernel
theorem dX11_init_165 : decode cX11_init 165 = .ok (.aload_n 0, 1) := by decide +kernel
theorem dX11_init_166 : decode cX11_init 166 = .ok (.iconst 4, 1) := by decide +kernel
theorem dX11_init_167 : decode cX11_init 167 = .ok (.newarray .int, 2) := by decide +kernel
theorem dX11_init_169 : decode cX11_init 169 = .ok (.putfield 75, 3) := by decide +kernel
theorem dX11_init_172 : decode cX11_init 172 = .ok (.aload_n 0, 1) := by decide +kernel
theorem dX11_init_173 : decode cX11_init 173 = .ok (.bipush 32, 2) := by decide +kernel
theorem dX11_init_175 : decode cX11_init 175 = .ok (.newarray .int, 2) := by decide +kernel
theorem dX11_init_177 : decode cX11_init 177 = .ok (.putfield 78, 3) := by decide +kernel
theorem dX11_init_180 : decode cX11_init 180 = .ok (.aload_n 0, 1) := by decide +kernel
theorem dX11_init_181 : decode cX11_init 181 = .ok (.bipush 32, 2) := by decide +kernel
theorem dX11_init_183 : decode cX11_init 183 = .ok (.newarray .int, 2) := by decide +kernel
theorem dX11_init_185 : decode cX11_init 185 = .ok (.putfield 81, 3) := by decide +kernel
theorem dX11_init_188 : decode cX11_init 188 = .ok (.aload_n 0, 1) := by decide +kernel
theorem dX11_init_189 : decode cX11_init 189 = .ok (.bipush 32, 2) := by decide +kernel
theorem dX11_init_191 : decode cX11_init 191 = .ok (.newarray .int, 2) := by decide +kernel
theorem dX11_init_193 : decode cX11_init 193 = .ok (.putfield 84, 3) := by decide +kernel
theorem dX11_init_196 : decode cX11_init 196 = .ok (.aload_n 0, 1) := by decide +kernel
theorem dX11_init_197 : decode cX11_init 197 = .ok (.bipush 32, 2) := by decide +kernel
theorem dX11_init_199 : decode cX11_init 199 = .ok (.newarray .int, 2) := by decide +kernel
theorem dX11_init_201 : decode cX11_init 201 = .ok (.putfield 87, 3) := by decide +kernel
theorem dX11_init_204 : decode cX11_init 204 = .ok (.aload_n 0, 1) := by decide +kernel
theorem dX11_init_205 : decode cX11_init 205 = .ok (.bipush 9, 2) := by decide +kernel
theorem dX11_init_207 : decode cX11_init 207 = .ok (.newarray .int, 2) := by decide +kernel
theorem dX11_init_209 : decode cX11_init 209 = .ok (.putfield 90, 3) := by decide +kernel
theorem dX11_init_212 : decode cX11_init 212 = .ok (.aload_n 0, 1) := by decide +kernel
theorem dX11_init_213 : decode cX11_init 213 = .ok (.bipush 9, 2) := by decide +kernel
theorem dX11_init_215 : decode cX11_init 215 = .ok (.newarray .int, 2) := by decide +kernel
theorem dX11_init_217 : decode cX11_init 217 = .ok (.putfield 93, 3) := by decide +kernel
theorem dX11_init_220 : decode cX11_init 220 = .ok (.aload_n 0, 1) := by decide +kernel
theorem dX11_init_221 : decode cX11_init 221 = .ok (.bipush 9, 2) := by decide +kernel
theorem dX11_init_223 : decode cX11_init 223 = .ok (.newarray .int, 2) := by decide +kernel
theorem dX11_init_225 : decode cX11_init 225 = .ok (.putfield 96, 3) := by decide +kernel
theorem dX11_init_228 : decode cX11_init 228 = .ok (.aload_n 0, 1) := by decide +kernel
theorem dX11_init_229 : decode cX11_init 229 = .ok (.bipush 9, 2) := by decide +kernel
theorem dX11_init_231 : decode cX11_init 231 = .ok (.newarray .int, 2) := by decide +kernel
theorem dX11_init_233 : decode cX11_init 233 = .ok (.putfield 99, 3) := by decide +kernel
theorem dX11_init_236 : decode cX11_init 236 = .ok (.aload_n 0, 1) := by decide +kernel
theorem dX11_init_237 : decode cX11_init 237 = .ok (.sipush 160, 3) := by decide +kernel
theorem dX11_init_240 : decode cX11_init 240 = .ok (.newarray .int, 2) := by decide +kernel
theorem dX11_init_242 : decode cX11_init 242 = .ok (.putfield 102, 3) := by decide +kernel
theorem dX11_init_245 : decode cX11_init 245 = .ok (.aload_n 0, 1) := by decide +kernel
theorem dX11_init_246 : decode cX11_init 246 = .ok (.iconst (-1), 1) := by decide +kernel
theorem dX11_init_247 : decode cX11_init 247 = .ok (.putfield 105, 3) := by decide +kernel
theorem dX11_init_250 : decode cX11_init 250 = .ok (.aload_n 0, 1) := by decide +kernel
theorem dX11_init_251 : decode cX11_init 251 = .ok (.bipush 6, 2) := by decide +kernel
theorem dX11_init_253 : decode cX11_init 253 = .ok (.newarray .int, 2) := by decide +kernel
theorem dX11_init_255 : decode cX11_init 255 = .ok (.putfield 109, 3) := by decide +kernel
theorem dX11_init_258 : decode cX11_init 258 = .ok (.aload_n 0, 1) := by decide +kernel
theorem dX11_init_259 : decode cX11_init 259 = .ok (.sipush 28672, 3) := by decide +kernel
theorem dX11_init_262 : decode cX11_init 262 = .ok (.newarray .int, 2) := by decide +kernel
theorem dX11_init_264 : decode cX11_init 264 = .ok (.putfield 112, 3) := by decide +kernel
theorem dX11_init_267 : decode cX11_init 267 = .ok (.aload_n 0, 1) := by decide +kernel
theorem dX11_init_268 : decode cX11_init 268 = .ok (.sipush 384, 3) := by decide +kernel
theorem dX11_init_271 : decode cX11_init 271 = .ok (.newarray .int, 2) := by decide +kernel
theorem dX11_init_273 : decode cX11_init 273 = .ok (.putfield 115, 3) := by decide +kernel
theorem dX11_init_276 : decode cX11_init 276 = .ok (.aload_n 0, 1) := by decide +kernel
theorem dX11_init_277 : decode cX11_init 277 = .ok (.sipush 384, 3) := by decide +kernel
theorem dX11_init_280 : decode cX11_init 280 = .ok (.newarray .int, 2) := by decide +kernel
theorem dX11_init_282 : decode cX11_init 282 = .ok (.putfield 118, 3) := by decide +kernel
theorem dX11_init_285 : decode cX11_init 285 = .ok (.aload_n 0, 1) := by decide +kernel
theorem dX11_init_286 : decode cX11_init 286 = .ok (.bipush 40, 2) := by decide +kernel
theorem dX11_init_288 : decode cX11_init 288 = .ok (.newarray .int, 2) := by decide +kernel
theorem dX11_init_290 : decode cX11_init 290 = .ok (.putfield 121, 3) := by decide +kernel
theorem dX11_init_293 : decode cX11_init 293 = .ok (.aload_n 0, 1) := by decide +kernel
theorem dX11_init_294 : decode cX11_init 294 = .ok (.bipush 40, 2) := by decide +kernel
theorem dX11_init_296 : decode cX11_init 296 = .ok (.newarray .int, 2) := by decide +kernel
theorem dX11_init_298 : decode cX11_init 298 = .ok (.putfield 124, 3) := by decide +kernel
theorem dX11_init_301 : decode cX11_init 301 = .ok (.aload_n 0, 1) := by decide +kernel
theorem dX11_init_302 : decode cX11_init 302 = .ok (.bipush 40, 2) := by decide +kernel
theorem dX11_init_304 : decode cX11_init 304 = .ok (.newarray .int, 2) := by decide +kernel
theorem dX11_init_306 : decode cX11_init 306 = .ok (.putfield 127, 3) := by decide +kernel
theorem dX11_init_309 : decode cX11_init 309 = .ok (.aload_n 0, 1) := by decide +kernel
theorem dX11_init_310 : decode cX11_init 310 = .ok (.bipush 40, 2) := by decide +kernel
theorem dX11_init_312 : decode cX11_init 312 = .ok (.newarray .int, 2) := by decide +kernel
theorem dX11_init_314 : decode cX11_init 314 = .ok (.putfield 130, 3) := by decide +kernel
theorem dX11_init_317 : decode cX11_init 317 = .ok (.aload_n 0, 1) := by decide +kernel
theorem dX11_init_318 : decode cX11_init 318 = .ok (.bipush 40, 2) := by decide +kernel
theorem dX11_init_320 : decode cX11_init 320 = .ok (.newarray .int, 2) := by decide +kernel
theorem dX11_init_322 : decode cX11_init 322 = .ok (.putfield 133, 3) := by decide +kernel
theorem dX11_init_325 : decode cX11_init 325 = .ok (.iconst 0, 1) := by decide +kernel
theorem dX11_init_326 : decode cX11_init 326 = .ok (.istore_n 1, 1) := by decide +kernel
theorem dX11_init_327 : decode cX11_init 327 = .ok (.iload_n 1, 1) := by decide +kernel
theorem dX11_init_328 : decode cX11_init 328 = .ok (.bipush 16, 2) := by decide +kernel
theorem dX11_init_330 : decode cX11_init 330 = .ok (.if_icmp .ge 31, 3) := by decide +kernel
theorem dX11_init_333 : decode cX11_init 333 = .ok (.aload_n 0, 1) := by decide +kernel
theorem dX11_init_334 : decode cX11_init 334 = .ok (.getfield 7, 3) := by decide +kernel
theorem dX11_init_337 : decode cX11_init 337 = .ok (.iload_n 1, 1) := by decide +kernel
theorem dX11_init_338 : decode cX11_init 338 = .ok (.iconst 1, 1) := by decide +kernel
theorem dX11_init_339 : decode cX11_init 339 = .ok (.iastore, 1) := by decide +kernel
theorem dX11_init_340 : decode cX11_init 340 = .ok (.aload_n 0, 1) := by decide +kernel
theorem dX11_init_341 : decode cX11_init 341 = .ok (.getfield 13, 3) := by decide +kernel
theorem dX11_init_344 : decode cX11_init 344 = .ok (.iload_n 1, 1) := by decide +kernel
theorem dX11_init_345 : decode cX11_init 345 = .ok (.iconst 1, 1) := by decide +kernel
theorem dX11_init_346 : decode cX11_init 346 = .ok (.iastore, 1) := by decide +kernel
theorem dX11_init_347 : decode cX11_init 347 = .ok (.aload_n 0, 1) := by decide +kernel
theorem dX11_init_348 : decode cX11_init 348 = .ok (.getfield 69, 3) := by decide +kernel
theorem dX11_init_351 : decode cX11_init 351 = .ok (.iload_n 1, 1) := by decide +kernel
theorem dX11_init_352 : decode cX11_init 352 = .ok (.bipush 10, 2) := by decide +kernel
theorem dX11_init_354 : decode cX11_init 354 = .ok (.iastore, 1) := by decide +kernel
theorem dX11_init_355 : decode cX11_init 355 = .ok (.iinc 1 1, 3) := by decide +kernel
theorem dX11_init_358 : decode cX11_init 358 = .ok (.goto (-31), 3) := by decide +kernel
theorem dX11_init_361 : decode cX11_init 361 = .ok (.iconst 0, 1) := by decide +kernel
theorem dX11_init_362 : decode cX11_init 362 = .ok (.istore_n 1, 1) := by decide +kernel
theorem dX11_init_363 : decode cX11_init 363 = .ok (.iload_n 1, 1) := by decide +kernel
theorem dX11_init_364 : decode cX11_init 364 = .ok (.iconst 4, 1) := by decide +kernel
theorem dX11_init_365 : decode cX11_init 365 = .ok (.if_icmp .ge 24, 3) := by decide +kernel
theorem dX11_init_368 : decode cX11_init 368 = .ok (.aload_n 0, 1) := by decide +kernel
theorem dX11_init_369 : decode cX11_init 369 = .ok (.getfield 16, 3) := by decide +kernel
theorem dX11_init_372 : decode cX11_init 372 = .ok (.iload_n 1, 1) := by decide +kernel
theorem dX11_init_373 : decode cX11_init 373 = .ok (.iconst 1, 1) := by decide +kernel
theorem dX11_init_374 : decode cX11_init 374 = .ok (.iastore, 1) := by decide +kernel
theorem dX11_init_375 : decode cX11_init 375 = .ok (.aload_n 0, 1) := by decide +kernel
theorem dX11_init_376 : decode cX11_init 376 = .ok (.getfield 72, 3) := by decide +kernel
theorem dX11_init_379 : decode cX11_init 379 = .ok (.iload_n 1, 1) := by decide +kernel
theorem dX11_init_380 : decode cX11_init 380 = .ok (.bipush 50, 2) := by decide +kernel
theorem dX11_init_382 : decode cX11_init 382 = .ok (.iastore, 1) := by decide +kernel
theorem dX11_init_383 : decode cX11_init 383 = .ok (.iinc 1 1, 3) := by decide +kernel
theorem dX11_init_386 : decode cX11_init 386 = .ok (.goto (-23), 3) := by decide +kernel
theorem dX11_init_389 : decode cX11_init 389 = .ok (.iconst 0, 1) := by decide +kernel
theorem dX11_init_390 : decode cX11_init 390 = .ok (.istore_n 1, 1) := by decide +kernel
theorem dX11_init_391 : decode cX11_init 391 = .ok (.iload_n 1, 1) := by decide +kernel
theorem dX11_init_392 : decode cX11_init 392 = .ok (.sipush 244, 3) := by decide +kernel
theorem dX11_init_395 : decode cX11_init 395 = .ok (.if_icmp .ge 16, 3) := by decide +kernel
theorem dX11_init_398 : decode cX11_init 398 = .ok (.aload_n 0, 1) := by decide +kernel
theorem dX11_init_399 : decode cX11_init 399 = .ok (.getfield 19, 3) := by decide +kernel
theorem dX11_init_402 : decode cX11_init 402 = .ok (.iload_n 1, 1) := by decide +kernel
theorem dX11_init_403 : decode cX11_init 403 = .ok (.iconst (-1), 1) := by decide +kernel
theorem dX11_init_404 : decode cX11_init 404 = .ok (.iastore, 1) := by decide +kernel
theorem dX11_init_405 : decode cX11_init 405 = .ok (.iinc 1 1, 3) := by decide +kernel
theorem dX11_init_408 : decode cX11_init 408 = .ok (.goto (-17), 3) := by decide +kernel
theorem dX11_init_411 : decode cX11_init 411 = .ok (.return_, 1) := by decide +kernel
theorem dX11_in_0 : decode cX11_in 0 = .ok (.lload_n 0, 1) := by decide +kernel
theorem dX11_in_1 : decode cX11_in 1 = .ok (.lload_n 2, 1) := by decide +kernel
theorem dX11_in_2 : decode cX11_in 2 = .ok (.lcmp, 1) := by decide +kernel
theorem dX11_in_3 : decode cX11_in 3 = .ok (.ifCond .lt 14, 3) := by decide +kernel
theorem dX11_in_6 : decode cX11_in 6 = .ok (.lload_n 0, 1) := by decide +kernel
theorem dX11_in_7 : decode cX11_in 7 = .ok (.lload 4, 2) := by decide +kernel
theorem dX11_in_9 : decode cX11_in 9 = .ok (.lcmp, 1) := by decide +kernel
theorem dX11_in_10 : decode cX11_in 10 = .ok (.ifCond .gt 7, 3) := by decide +kernel
theorem dX11_in_13 : decode cX11_in 13 = .ok (.iconst 1, 1) := by decide +kernel
theorem dX11_in_14 : decode cX11_in 14 = .ok (.goto 4, 3) := by decide +kernel
theorem dX11_in_17 : decode cX11_in 17 = .ok (.iconst 0, 1) := by decide +kernel
theorem dX11_in_18 : decode cX11_in 18 = .ok (.ireturn, 1) := by decide +kernel
theorem dX11_isState_0 : decode cX11_isState 0 = .ok (.iload_n 0, 1) := by decide +kernel
theorem dX11_isState_1 : decode cX11_isState 1 = .ok (.i2l, 1) := by decide +kernel
theorem dX11_isState_2 : decode cX11_isState 2 = .ok (.lconst 0, 1) := by decide +kernel
theorem dX11_isState_3 : decode cX11_isState 3 = .ok (.ldc2_w 136, 3) := by decide +kernel
theorem dX11_isState_6 : decode cX11_isState 6 = .ok (.invokestatic 138, 3) := by decide +kernel
theorem dX11_isState_9 : decode cX11_isState 9 = .ok (.ireturn, 1) := by decide +kernel
theorem dX11_isPerson_0 : decode cX11_isPerson 0 = .ok (.iload_n 0, 1) := by decide +kernel
theorem dX11_isPerson_1 : decode cX11_isPerson 1 = .ok (.i2l, 1) := by decide +kernel
theorem dX11_isPerson_2 : decode cX11_isPerson 2 = .ok (.lconst 0, 1) := by decide +kernel
theorem dX11_isPerson_3 : decode cX11_isPerson 3 = .ok (.ldc2_w 136, 3) := by decide +kernel
theorem dX11_isPerson_6 : decode cX11_isPerson 6 = .ok (.invokestatic 138, 3) := by decide +kernel
theorem dX11_isPerson_9 : decode cX11_isPerson 9 = .ok (.ireturn, 1) := by decide +kernel
theorem dX11_move_0 : decode cX11_move 0 = .ok (.iload_n 1, 1) := by decide +kernel
theorem dX11_move_1 : decode cX11_move 1 = .ok (.invokestatic 142, 3) := by decide +kernel
theorem dX11_move_4 : decode cX11_move 4 = .ok (.ifCond .eq 22, 3) := by decide +kernel
theorem dX11_move_7 : decode cX11_move 7 = .ok (.iload_n 2, 1) := by decide +kernel
theorem dX11_move_8 : decode cX11_move 8 = .ok (.invokestatic 142, 3) := by decide +kernel
theorem dX11_move_11 : decode cX11_move 11 = .ok (.ifCond .eq 15, 3) := by decide +kernel
theorem dX11_move_14 : decode cX11_move 14 = .ok (.iload_n 3, 1) := by decide +kernel
theorem dX11_move_15 : decode cX11_move 15 = .ok (.i2l, 1) := by decide +kernel
theorem dX11_move_16 : decode cX11_move 16 = .ok (.lconst 0, 1) := by decide +kernel
theorem dX11_move_17 : decode cX11_move 17 = .ok (.ldc2_w 146, 3) := by decide +kernel
theorem dX11_move_20 : decode cX11_move 20 = .ok (.invokestatic 138, 3) := by decide +kernel
theorem dX11_move_23 : decode cX11_move 23 = .ok (.ifCond .ne 7, 3) := by decide +kernel
theorem dX11_move_26 : decode cX11_move 26 = .ok (.sipush (-1002), 3) := by decide +kernel
theorem dX11_move_29 : decode cX11_move 29 = .ok (.ireturn, 1) := by decide +kernel
theorem dX11_move_30 : decode cX11_move 30 = .ok (.aload_n 0, 1) := by decide +kernel
theorem dX11_move_31 : decode cX11_move 31 = .ok (.getfield 7, 3) := by decide +kernel
theorem dX11_move_34 : decode cX11_move 34 = .ok (.iconst 4, 1) := by decide +kernel
theorem dX11_move_35 : decode cX11_move 35 = .ok (.iload_n 1, 1) := by decide +kernel
theorem dX11_move_36 : decode cX11_move 36 = .ok (.imul, 1) := by decide +kernel
theorem dX11_move_37 : decode cX11_move 37 = .ok (.iload_n 2, 1) := by decide +kernel
theorem dX11_move_38 : decode cX11_move 38 = .ok (.iadd, 1) := by decide +kernel
theorem dX11_move_39 : decode cX11_move 39 = .ok (.iaload, 1) := by decide +kernel
theorem dX11_move_40 : decode cX11_move 40 = .ok (.istore 4, 2) := by decide +kernel
theorem dX11_move_42 : decode cX11_move 42 = .ok (.aload_n 0, 1) := by decide +kernel
theorem dX11_move_43 : decode cX11_move 43 = .ok (.getfield 7, 3) := by decide +kernel
theorem dX11_move_46 : decode cX11_move 46 = .ok (.iconst 4, 1) := by decide +kernel
theorem dX11_move_47 : decode cX11_move 47 = .ok (.iload_n 1, 1) := by decide +kernel
theorem dX11_move_48 : decode cX11_move 48 = .ok (.imul, 1) := by decide +kernel
theorem dX11_move_49 : decode cX11_move 49 = .ok (.iload_n 2, 1) := by decide +kernel
theorem dX11_move_50 : decode cX11_move 50 = .ok (.iadd, 1) := by decide +kernel
theorem dX11_move_51 : decode cX11_move 51 = .ok (.iload_n 3, 1) := by decide +kernel
theorem dX11_move_52 : decode cX11_move 52 = .ok (.iastore, 1) := by decide +kernel
theorem dX11_move_53 : decode cX11_move 53 = .ok (.iload 4, 2) := by decide +kernel
theorem dX11_move_55 : decode cX11_move 55 = .ok (.ireturn, 1) := by decide +kernel
theorem dX11_shows_0 : decode cX11_shows 0 = .ok (.iload_n 1, 1) := by decide +kernel
theorem dX11_shows_1 : decode cX11_shows 1 = .ok (.invokestatic 142, 3) := by decide +kernel
theorem dX11_shows_4 : decode cX11_shows 4 = .ok (.ifCond .eq 22, 3) := by decide +kernel
theorem dX11_shows_7 : decode cX11_shows 7 = .ok (.iload_n 2, 1) := by decide +kernel
theorem dX11_shows_8 : decode cX11_shows 8 = .ok (.invokestatic 142, 3) := by decide +kernel
theorem dX11_shows_11 : decode cX11_shows 11 = .ok (.ifCond .eq 15, 3) := by decide +kernel
theorem dX11_shows_14 : decode cX11_shows 14 = .ok (.iload_n 3, 1) := by decide +kernel
theorem dX11_shows_15 : decode cX11_shows 15 = .ok (.i2l, 1) := by decide +kernel
theorem dX11_shows_16 : decode cX11_shows 16 = .ok (.lconst 0, 1) := by decide +kernel
theorem dX11_shows_17 : decode cX11_shows 17 = .ok (.ldc2_w 146, 3) := by decide +kernel
theorem dX11_shows_20 : decode cX11_shows 20 = .ok (.invokestatic 138, 3) := by decide +kernel
theorem dX11_shows_23 : decode cX11_shows 23 = .ok (.ifCond .ne 7, 3) := by decide +kernel
theorem dX11_shows_26 : decode cX11_shows 26 = .ok (.sipush (-1002), 3) := by decide +kernel
theorem dX11_shows_29 : decode cX11_shows 29 = .ok (.ireturn, 1) := by decide +kernel
theorem dX11_shows_30 : decode cX11_shows 30 = .ok (.aload_n 0, 1) := by decide +kernel
theorem dX11_shows_31 : decode cX11_shows 31 = .ok (.getfield 13, 3) := by decide +kernel
theorem dX11_shows_34 : decode cX11_shows 34 = .ok (.iconst 4, 1) := by decide +kernel
theorem dX11_shows_35 : decode cX11_shows 35 = .ok (.iload_n 1, 1) := by decide +kernel
theorem dX11_shows_36 : decode cX11_shows 36 = .ok (.imul, 1) := by decide +kernel
theorem dX11_shows_37 : decode cX11_shows 37 = .ok (.iload_n 2, 1) := by decide +kernel
theorem dX11_shows_38 : decode cX11_shows 38 = .ok (.iadd, 1) := by decide +kernel
theorem dX11_shows_39 : decode cX11_shows 39 = .ok (.iaload, 1) := by decide +kernel
theorem dX11_shows_40 : decode cX11_shows 40 = .ok (.istore 4, 2) := by decide +kernel
theorem dX11_shows_42 : decode cX11_shows 42 = .ok (.aload_n 0, 1) := by decide +kernel
theorem dX11_shows_43 : decode cX11_shows 43 = .ok (.getfield 13, 3) := by decide +kernel
theorem dX11_shows_46 : decode cX11_shows 46 = .ok (.iconst 4, 1) := by decide +kernel
theorem dX11_shows_47 : decode cX11_shows 47 = .ok (.iload_n 1, 1) := by decide +kernel
theorem dX11_shows_48 : decode cX11_shows 48 = .ok (.imul, 1) := by decide +kernel
theorem dX11_shows_49 : decode cX11_shows 49 = .ok (.iload_n 2, 1) := by decide +kernel
theorem dX11_shows_50 : decode cX11_shows 50 = .ok (.iadd, 1) := by decide +kernel
theorem dX11_shows_51 : decode cX11_shows 51 = .ok (.iload_n 3, 1) := by decide +kernel
theorem dX11_shows_52 : decode cX11_shows 52 = .ok (.iastore, 1) := by decide +kernel
theorem dX11_shows_53 : decode cX11_shows 53 = .ok (.iload 4, 2) := by decide +kernel
theorem dX11_shows_55 : decode cX11_shows 55 = .ok (.ireturn, 1) := by decide +kernel
theorem dX11_begins_0 : decode cX11_begins 0 = .ok (.iload_n 1, 1) := by decide +kernel
theorem dX11_begins_1 : decode cX11_begins 1 = .ok (.invokestatic 142, 3) := by decide +kernel
theorem dX11_begins_4 : decode cX11_begins 4 = .ok (.ifCond .eq 15, 3) := by decide +kernel
theorem dX11_begins_7 : decode cX11_begins 7 = .ok (.iload_n 2, 1) := by decide +kernel
theorem dX11_begins_8 : decode cX11_begins 8 = .ok (.i2l, 1) := by decide +kernel
theorem dX11_begins_9 : decode cX11_begins 9 = .ok (.lconst 0, 1) := by decide +kernel
theorem dX11_begins_10 : decode cX11_begins 10 = .ok (.ldc2_w 146, 3) := by decide +kernel
theorem dX11_begins_13 : decode cX11_begins 13 = .ok (.invokestatic 138, 3) := by decide +kernel
theorem dX11_begins_16 : decode cX11_begins 16 = .ok (.ifCond .ne 7, 3) := by decide +kernel
theorem dX11_begins_19 : decode cX11_begins 19 = .ok (.sipush (-1002), 3) := by decide +kernel
theorem dX11_begins_22 : decode cX11_begins 22 = .ok (.ireturn, 1) := by decide +kernel
theorem dX11_begins_23 : decode cX11_begins 23 = .ok (.aload_n 0, 1) := by decide +kernel
theorem dX11_begins_24 : decode cX11_begins 24 = .ok (.getfield 16, 3) := by decide +kernel
theorem dX11_begins_27 : decode cX11_begins 27 = .ok (.iload_n 1, 1) := by decide +kernel
theorem dX11_begins_28 : decode cX11_begins 28 = .ok (.iaload, 1) := by decide +kernel
theorem dX11_begins_29 : decode cX11_begins 29 = .ok (.istore_n 3, 1) := by decide +kernel
theorem dX11_begins_30 : decode cX11_begins 30 = .ok (.aload_n 0, 1) := by decide +kernel
theorem dX11_begins_31 : decode cX11_begins 31 = .ok (.getfield 16, 3) := by decide +kernel
theorem dX11_begins_34 : decode cX11_begins 34 = .ok (.iload_n 1, 1) := by decide +kernel
theorem dX11_begins_35 : decode cX11_begins 35 = .ok (.iload_n 2, 1) := by decide +kernel
theorem dX11_begins_36 : decode cX11_begins 36 = .ok (.iastore, 1) := by decide +kernel
theorem dX11_begins_37 : decode cX11_begins 37 = .ok (.iload_n 3, 1) := by decide +kernel
theorem dX11_begins_38 : decode cX11_begins 38 = .ok (.ireturn, 1) := by decide +kernel
theorem dX11_seams_0 : decode cX11_seams 0 = .ok (.iload_n 1, 1) := by decide +kernel
theorem dX11_seams_1 : decode cX11_seams 1 = .ok (.i2l, 1) := by decide +kernel
theorem dX11_seams_2 : decode cX11_seams 2 = .ok (.lconst 0, 1) := by decide +kernel
theorem dX11_seams_3 : decode cX11_seams 3 = .ok (.ldc2_w 148, 3) := by decide +kernel
theorem dX11_seams_6 : decode cX11_seams 6 = .ok (.invokestatic 138, 3) := by decide +kernel
theorem dX11_seams_9 : decode cX11_seams 9 = .ok (.ifCond .ne 7, 3) := by decide +kernel
theorem dX11_seams_12 : decode cX11_seams 12 = .ok (.sipush (-1002), 3) := by decide +kernel
theorem dX11_seams_15 : decode cX11_seams 15 = .ok (.ireturn, 1) := by decide +kernel
theorem dX11_seams_16 : decode cX11_seams 16 = .ok (.aload_n 0, 1) := by decide +kernel
theorem dX11_seams_17 : decode cX11_seams 17 = .ok (.getfield 150, 3) := by decide +kernel
theorem dX11_seams_20 : decode cX11_seams 20 = .ok (.istore_n 2, 1) := by decide +kernel
theorem dX11_seams_21 : decode cX11_seams 21 = .ok (.aload_n 0, 1) := by decide +kernel
theorem dX11_seams_22 : decode cX11_seams 22 = .ok (.iload_n 1, 1) := by decide +kernel
theorem dX11_seams_23 : decode cX11_seams 23 = .ok (.putfield 150, 3) := by decide +kernel
theorem dX11_seams_26 : decode cX11_seams 26 = .ok (.iload_n 2, 1) := by decide +kernel
theorem dX11_seams_27 : decode cX11_seams 27 = .ok (.ireturn, 1) := by decide +kernel
theorem dX11_sign_0 : decode cX11_sign 0 = .ok (.iload_n 1, 1) := by decide +kernel
theorem dX11_sign_1 : decode cX11_sign 1 = .ok (.invokestatic 153, 3) := by decide +kernel
theorem dX11_sign_4 : decode cX11_sign 4 = .ok (.ifCond .ne 7, 3) := by decide +kernel
theorem dX11_sign_7 : decode cX11_sign 7 = .ok (.sipush (-1001), 3) := by decide +kernel
theorem dX11_sign_10 : decode cX11_sign 10 = .ok (.ireturn, 1) := by decide +kernel
theorem dX11_sign_11 : decode cX11_sign 11 = .ok (.iload_n 2, 1) := by decide +kernel
theorem dX11_sign_12 : decode cX11_sign 12 = .ok (.i2l, 1) := by decide +kernel
theorem dX11_sign_13 : decode cX11_sign 13 = .ok (.ldc2_w 156, 3) := by decide +kernel
theorem dX11_sign_16 : decode cX11_sign 16 = .ok (.ldc2_w 136, 3) := by decide +kernel
theorem dX11_sign_19 : decode cX11_sign 19 = .ok (.invokestatic 138, 3) := by decide +kernel
theorem dX11_sign_22 : decode cX11_sign 22 = .ok (.ifCond .ne 7, 3) := by decide +kernel
theorem dX11_sign_25 : decode cX11_sign 25 = .ok (.sipush (-1002), 3) := by decide +kernel
theorem dX11_sign_28 : decode cX11_sign 28 = .ok (.ireturn, 1) := by decide +kernel
theorem dX11_sign_29 : decode cX11_sign 29 = .ok (.aload_n 0, 1) := by decide +kernel
theorem dX11_sign_30 : decode cX11_sign 30 = .ok (.getfield 19, 3) := by decide +kernel
theorem dX11_sign_33 : decode cX11_sign 33 = .ok (.bipush 61, 2) := by decide +kernel
theorem dX11_sign_35 : decode cX11_sign 35 = .ok (.iload_n 1, 1) := by decide +kernel
theorem dX11_sign_36 : decode cX11_sign 36 = .ok (.imul, 1) := by decide +kernel
theorem dX11_sign_37 : decode cX11_sign 37 = .ok (.aload_n 0, 1) := by decide +kernel
theorem dX11_sign_38 : decode cX11_sign 38 = .ok (.getfield 158, 3) := by decide +kernel
theorem dX11_sign_41 : decode cX11_sign 41 = .ok (.iadd, 1) := by decide +kernel
theorem dX11_sign_42 : decode cX11_sign 42 = .ok (.iload_n 2, 1) := by decide +kernel
theorem dX11_sign_43 : decode cX11_sign 43 = .ok (.iastore, 1) := by decide +kernel
theorem dX11_sign_44 : decode cX11_sign 44 = .ok (.iconst 1, 1) := by decide +kernel
theorem dX11_sign_45 : decode cX11_sign 45 = .ok (.ireturn, 1) := by decide +kernel
theorem dX11_go_0 : decode cX11_go 0 = .ok (.iload_n 1, 1) := by decide +kernel
theorem dX11_go_1 : decode cX11_go 1 = .ok (.i2l, 1) := by decide +kernel
theorem dX11_go_2 : decode cX11_go 2 = .ok (.lconst 0, 1) := by decide +kernel
theorem dX11_go_3 : decode cX11_go 3 = .ok (.ldc2_w 161, 3) := by decide +kernel
theorem dX11_go_6 : decode cX11_go 6 = .ok (.invokestatic 138, 3) := by decide +kernel
theorem dX11_go_9 : decode cX11_go 9 = .ok (.ifCond .ne 7, 3) := by decide +kernel
theorem dX11_go_12 : decode cX11_go 12 = .ok (.sipush (-1002), 3) := by decide +kernel
theorem dX11_go_15 : decode cX11_go 15 = .ok (.ireturn, 1) := by decide +kernel
theorem dX11_go_16 : decode cX11_go 16 = .ok (.aload_n 0, 1) := by decide +kernel
theorem dX11_go_17 : decode cX11_go 17 = .ok (.getfield 158, 3) := by decide +kernel
theorem dX11_go_20 : decode cX11_go 20 = .ok (.iload_n 1, 1) := by decide +kernel
theorem dX11_go_21 : decode cX11_go 21 = .ok (.iadd, 1) := by decide +kernel
theorem dX11_go_22 : decode cX11_go 22 = .ok (.bipush 60, 2) := by decide +kernel
theorem dX11_go_24 : decode cX11_go 24 = .ok (.if_icmp .le 7, 3) := by decide +kernel
theorem dX11_go_27 : decode cX11_go 27 = .ok (.sipush (-1003), 3) := by decide +kernel
theorem dX11_go_30 : decode cX11_go 30 = .ok (.ireturn, 1) := by decide +kernel
theorem dX11_go_31 : decode cX11_go 31 = .ok (.aload_n 0, 1) := by decide +kernel
theorem dX11_go_32 : decode cX11_go 32 = .ok (.dup, 1) := by decide +kernel
theorem dX11_go_33 : decode cX11_go 33 = .ok (.getfield 158, 3) := by decide +kernel
theorem dX11_go_36 : decode cX11_go 36 = .ok (.iload_n 1, 1) := by decide +kernel
theorem dX11_go_37 : decode cX11_go 37 = .ok (.iadd, 1) := by decide +kernel
theorem dX11_go_38 : decode cX11_go 38 = .ok (.putfield 158, 3) := by decide +kernel
theorem dX11_go_41 : decode cX11_go 41 = .ok (.aload_n 0, 1) := by decide +kernel
theorem dX11_go_42 : decode cX11_go 42 = .ok (.getfield 158, 3) := by decide +kernel
theorem dX11_go_45 : decode cX11_go 45 = .ok (.ireturn, 1) := by decide +kernel
theorem dX11_showsAt_0 : decode cX11_showsAt 0 = .ok (.aload_n 0, 1) := by decide +kernel
theorem dX11_showsAt_1 : decode cX11_showsAt 1 = .ok (.getfield 19, 3) := by decide +kernel
theorem dX11_showsAt_4 : decode cX11_showsAt 4 = .ok (.bipush 61, 2) := by decide +kernel
theorem dX11_showsAt_6 : decode cX11_showsAt 6 = .ok (.iload_n 1, 1) := by decide +kernel
theorem dX11_showsAt_7 : decode cX11_showsAt 7 = .ok (.imul, 1) := by decide +kernel
theorem dX11_showsAt_8 : decode cX11_showsAt 8 = .ok (.iload_n 2, 1) := by decide +kernel
theorem dX11_showsAt_9 : decode cX11_showsAt 9 = .ok (.iadd, 1) := by decide +kernel
theorem dX11_showsAt_10 : decode cX11_showsAt 10 = .ok (.iaload, 1) := by decide +kernel
theorem dX11_showsAt_11 : decode cX11_showsAt 11 = .ok (.istore 4, 2) := by decide +kernel
theorem dX11_showsAt_13 : decode cX11_showsAt 13 = .ok (.iload 4, 2) := by decide +kernel
theorem dX11_showsAt_15 : decode cX11_showsAt 15 = .ok (.ifCond .ge 7, 3) := by decide +kernel
theorem dX11_showsAt_18 : decode cX11_showsAt 18 = .ok (.iconst 1, 1) := by decide +kernel
theorem dX11_showsAt_19 : decode cX11_showsAt 19 = .ok (.goto 14, 3) := by decide +kernel
theorem dX11_showsAt_22 : decode cX11_showsAt 22 = .ok (.aload_n 0, 1) := by decide +kernel
theorem dX11_showsAt_23 : decode cX11_showsAt 23 = .ok (.getfield 13, 3) := by decide +kernel
theorem dX11_showsAt_26 : decode cX11_showsAt 26 = .ok (.iconst 4, 1) := by decide +kernel
theorem dX11_showsAt_27 : decode cX11_showsAt 27 = .ok (.iload_n 3, 1) := by decide +kernel
theorem dX11_showsAt_28 : decode cX11_showsAt 28 = .ok (.imul, 1) := by decide +kernel
theorem dX11_showsAt_29 : decode cX11_showsAt 29 = .ok (.iload 4, 2) := by decide +kernel
theorem dX11_showsAt_31 : decode cX11_showsAt 31 = .ok (.iadd, 1) := by decide +kernel
theorem dX11_showsAt_32 : decode cX11_showsAt 32 = .ok (.iaload, 1) := by decide +kernel
theorem dX11_showsAt_33 : decode cX11_showsAt 33 = .ok (.ireturn, 1) := by decide +kernel
theorem dX11_findRows_0 : decode cX11_findRows 0 = .ok (.iload_n 2, 1) := by decide +kernel
theorem dX11_findRows_1 : decode cX11_findRows 1 = .ok (.bipush 6, 2) := by decide +kernel
theorem dX11_findRows_3 : decode cX11_findRows 3 = .ok (.if_icmp .ge 7, 3) := by decide +kernel
theorem dX11_findRows_6 : decode cX11_findRows 6 = .ok (.iconst 0, 1) := by decide +kernel
theorem dX11_findRows_7 : decode cX11_findRows 7 = .ok (.goto 7, 3) := by decide +kernel
theorem dX11_findRows_10 : decode cX11_findRows 10 = .ok (.iload_n 2, 1) := by decide +kernel
theorem dX11_findRows_11 : decode cX11_findRows 11 = .ok (.bipush 6, 2) := by decide +kernel
theorem dX11_findRows_13 : decode cX11_findRows 13 = .ok (.isub, 1) := by decide +kernel
theorem dX11_findRows_14 : decode cX11_findRows 14 = .ok (.istore_n 3, 1) := by decide +kernel
theorem dX11_findRows_15 : decode cX11_findRows 15 = .ok (.iconst 0, 1) := by decide +kernel
theorem dX11_findRows_16 : decode cX11_findRows 16 = .ok (.istore 4, 2) := by decide +kernel
theorem dX11_findRows_18 : decode cX11_findRows 18 = .ok (.iload 4, 2) := by decide +kernel
theorem dX11_findRows_20 : decode cX11_findRows 20 = .ok (.iconst 4, 1) := by decide +kernel
theorem dX11_findRows_21 : decode cX11_findRows 21 = .ok (.if_icmp .ge 58, 3) := by decide +kernel
theorem dX11_findRows_24 : decode cX11_findRows 24 = .ok (.aload_n 0, 1) := by decide +kernel
theorem dX11_findRows_25 : decode cX11_findRows 25 = .ok (.getfield 22, 3) := by decide +kernel
theorem dX11_findRows_28 : decode cX11_findRows 28 = .ok (.iload 4, 2) := by decide +kernel
theorem dX11_findRows_30 : decode cX11_findRows 30 = .ok (.aload_n 0, 1) := by decide +kernel
theorem dX11_findRows_31 : decode cX11_findRows 31 = .ok (.getfield 16, 3) := by decide +kernel
theorem dX11_findRows_34 : decode cX11_findRows 34 = .ok (.iload 4, 2) := by decide +kernel
theorem dX11_findRows_36 : decode cX11_findRows 36 = .ok (.iaload, 1) := by decide +kernel
theorem dX11_findRows_37 : decode cX11_findRows 37 = .ok (.i2l, 1) := by decide +kernel
theorem dX11_findRows_38 : decode cX11_findRows 38 = .ok (.aload_n 0, 1) := by decide +kernel
theorem dX11_findRows_39 : decode cX11_findRows 39 = .ok (.iload_n 1, 1) := by decide +kernel
theorem dX11_findRows_40 : decode cX11_findRows 40 = .ok (.iload_n 3, 1) := by decide +kernel
theorem dX11_findRows_41 : decode cX11_findRows 41 = .ok (.iload 4, 2) := by decide +kernel
theorem dX11_findRows_43 : decode cX11_findRows 43 = .ok (.invokevirtual 163, 3) := by decide +kernel
theorem dX11_findRows_46 : decode cX11_findRows 46 = .ok (.i2l, 1) := by decide +kernel
theorem dX11_findRows_47 : decode cX11_findRows 47 = .ok (.lmul, 1) := by decide +kernel
theorem dX11_findRows_48 : decode cX11_findRows 48 = .ok (.lastore, 1) := by decide +kernel
theorem dX11_findRows_49 : decode cX11_findRows 49 = .ok (.aload_n 0, 1) := by decide +kernel
theorem dX11_findRows_50 : decode cX11_findRows 50 = .ok (.getfield 29, 3) := by decide +kernel
theorem dX11_findRows_53 : decode cX11_findRows 53 = .ok (.iload 4, 2) := by decide +kernel
theorem dX11_findRows_55 : decode cX11_findRows 55 = .ok (.aload_n 0, 1) := by decide +kernel
theorem dX11_findRows_56 : decode cX11_findRows 56 = .ok (.getfield 22, 3) := by decide +kernel
theorem dX11_findRows_59 : decode cX11_findRows 59 = .ok (.iload 4, 2) := by decide +kernel
theorem dX11_findRows_61 : decode cX11_findRows 61 = .ok (.laload, 1) := by decide +kernel
theorem dX11_findRows_62 : decode cX11_findRows 62 = .ok (.lconst 0, 1) := by decide +kernel
theorem dX11_findRows_63 : decode cX11_findRows 63 = .ok (.lcmp, 1) := by decide +kernel
theorem dX11_findRows_64 : decode cX11_findRows 64 = .ok (.ifCond .le 7, 3) := by decide +kernel
theorem dX11_findRows_67 : decode cX11_findRows 67 = .ok (.iconst 1, 1) := by decide +kernel
theorem dX11_findRows_68 : decode cX11_findRows 68 = .ok (.goto 4, 3) := by decide +kernel
theorem dX11_findRows_71 : decode cX11_findRows 71 = .ok (.iconst 0, 1) := by decide +kernel
theorem dX11_findRows_72 : decode cX11_findRows 72 = .ok (.iastore, 1) := by decide +kernel
theorem dX11_findRows_73 : decode cX11_findRows 73 = .ok (.iinc 4 1, 3) := by decide +kernel
theorem dX11_findRows_76 : decode cX11_findRows 76 = .ok (.goto (-58), 3) := by decide +kernel
theorem dX11_findRows_79 : decode cX11_findRows 79 = .ok (.iload_n 3, 1) := by decide +kernel
theorem dX11_findRows_80 : decode cX11_findRows 80 = .ok (.iconst 1, 1) := by decide +kernel
theorem dX11_findRows_81 : decode cX11_findRows 81 = .ok (.iadd, 1) := by decide +kernel
theorem dX11_findRows_82 : decode cX11_findRows 82 = .ok (.istore 4, 2) := by decide +kernel
theorem dX11_findRows_84 : decode cX11_findRows 84 = .ok (.iload 4, 2) := by decide +kernel
theorem dX11_findRows_86 : decode cX11_findRows 86 = .ok (.iload_n 2, 1) := by decide +kernel
theorem dX11_findRows_87 : decode cX11_findRows 87 = .ok (.if_icmp .gt 169, 3) := by decide +kernel
theorem dX11_findRows_90 : decode cX11_findRows 90 = .ok (.iconst 0, 1) := by decide +kernel
theorem dX11_findRows_91 : decode cX11_findRows 91 = .ok (.istore 5, 2) := by decide +kernel
theorem dX11_findRows_93 : decode cX11_findRows 93 = .ok (.iload 5, 2) := by decide +kernel
theorem dX11_findRows_95 : decode cX11_findRows 95 = .ok (.iconst 4, 1) := by decide +kernel
theorem dX11_findRows_96 : decode cX11_findRows 96 = .ok (.if_icmp .ge 111, 3) := by decide +kernel
theorem dX11_findRows_99 : decode cX11_findRows 99 = .ok (.aload_n 0, 1) := by decide +kernel
theorem dX11_findRows_100 : decode cX11_findRows 100 = .ok (.getfield 26, 3) := by decide +kernel
theorem dX11_findRows_103 : decode cX11_findRows 103 = .ok (.iload 5, 2) := by decide +kernel
theorem dX11_findRows_105 : decode cX11_findRows 105 = .ok (.lconst 0, 1) := by decide +kernel
theorem dX11_findRows_106 : decode cX11_findRows 106 = .ok (.lastore, 1) := by decide +kernel
theorem dX11_findRows_107 : decode cX11_findRows 107 = .ok (.aload_n 0, 1) := by decide +kernel
theorem dX11_findRows_108 : decode cX11_findRows 108 = .ok (.getfield 32, 3) := by decide +kernel
theorem dX11_findRows_111 : decode cX11_findRows 111 = .ok (.iload 5, 2) := by decide +kernel
theorem dX11_findRows_113 : decode cX11_findRows 113 = .ok (.iconst 0, 1) := by decide +kernel
theorem dX11_findRows_114 : decode cX11_findRows 114 = .ok (.iastore, 1) := by decide +kernel
theorem dX11_findRows_115 : decode cX11_findRows 115 = .ok (.iconst 0, 1) := by decide +kernel
theorem dX11_findRows_116 : decode cX11_findRows 116 = .ok (.istore 6, 2) := by decide +kernel
theorem dX11_findRows_118 : decode cX11_findRows 118 = .ok (.iload 6, 2) := by decide +kernel
theorem dX11_findRows_120 : decode cX11_findRows 120 = .ok (.iconst 4, 1) := by decide +kernel
theorem dX11_findRows_121 : decode cX11_findRows 121 = .ok (.if_icmp .ge 80, 3) := by decide +kernel
theorem dX11_findRows_124 : decode cX11_findRows 124 = .ok (.aload_n 0, 1) := by decide +kernel
theorem dX11_findRows_125 : decode cX11_findRows 125 = .ok (.getfield 7, 3) := by decide +kernel
theorem dX11_findRows_128 : decode cX11_findRows 128 = .ok (.iconst 4, 1) := by decide +kernel
theorem dX11_findRows_129 : decode cX11_findRows 129 = .ok (.iload 6, 2) := by decide +kernel
theorem dX11_findRows_131 : decode cX11_findRows 131 = .ok (.imul, 1) := by decide +kernel
theorem dX11_findRows_132 : decode cX11_findRows 132 = .ok (.iload 5, 2) := by decide +kernel
theorem dX11_findRows_134 : decode cX11_findRows 134 = .ok (.iadd, 1) := by decide +kernel
theorem dX11_findRows_135 : decode cX11_findRows 135 = .ok (.iaload, 1) := by decide +kernel
theorem dX11_findRows_136 : decode cX11_findRows 136 = .ok (.aload_n 0, 1) := by decide +kernel
theorem dX11_findRows_137 : decode cX11_findRows 137 = .ok (.iload_n 1, 1) := by decide +kernel
theorem dX11_findRows_138 : decode cX11_findRows 138 = .ok (.iload 4, 2) := by decide +kernel
theorem dX11_findRows_140 : decode cX11_findRows 140 = .ok (.iload 5, 2) := by decide +kernel
theorem dX11_findRows_142 : decode cX11_findRows 142 = .ok (.invokevirtual 163, 3) := by decide +kernel
theorem dX11_findRows_145 : decode cX11_findRows 145 = .ok (.imul, 1) := by decide +kernel
theorem dX11_findRows_146 : decode cX11_findRows 146 = .ok (.istore 7, 2) := by decide +kernel
theorem dX11_findRows_148 : decode cX11_findRows 148 = .ok (.aload_n 0, 1) := by decide +kernel
theorem dX11_findRows_149 : decode cX11_findRows 149 = .ok (.getfield 26, 3) := by decide +kernel
theorem dX11_findRows_152 : decode cX11_findRows 152 = .ok (.iload 5, 2) := by decide +kernel
theorem dX11_findRows_154 : decode cX11_findRows 154 = .ok (.dup2, 1) := by decide +kernel
theorem dX11_findRows_155 : decode cX11_findRows 155 = .ok (.laload, 1) := by decide +kernel
theorem dX11_findRows_156 : decode cX11_findRows 156 = .ok (.aload_n 0, 1) := by decide +kernel
theorem dX11_findRows_157 : decode cX11_findRows 157 = .ok (.getfield 22, 3) := by decide +kernel
theorem dX11_findRows_160 : decode cX11_findRows 160 = .ok (.iload 6, 2) := by decide +kernel
theorem dX11_findRows_162 : decode cX11_findRows 162 = .ok (.laload, 1) := by decide +kernel
theorem dX11_findRows_163 : decode cX11_findRows 163 = .ok (.iload 7, 2) := by decide +kernel
theorem dX11_findRows_165 : decode cX11_findRows 165 = .ok (.i2l, 1) := by decide +kernel
theorem dX11_findRows_166 : decode cX11_findRows 166 = .ok (.lmul, 1) := by decide +kernel
theorem dX11_findRows_167 : decode cX11_findRows 167 = .ok (.ladd, 1) := by decide +kernel
theorem dX11_findRows_168 : decode cX11_findRows 168 = .ok (.lastore, 1) := by decide +kernel
theorem dX11_findRows_169 : decode cX11_findRows 169 = .ok (.aload_n 0, 1) := by decide +kernel
theorem dX11_findRows_170 : decode cX11_findRows 170 = .ok (.getfield 32, 3) := by decide +kernel
theorem dX11_findRows_173 : decode cX11_findRows 173 = .ok (.iload 5, 2) := by decide +kernel
theorem dX11_findRows_175 : decode cX11_findRows 175 = .ok (.dup2, 1) := by decide +kernel
theorem dX11_findRows_176 : decode cX11_findRows 176 = .ok (.iaload, 1) := by decide +kernel
theorem dX11_findRows_177 : decode cX11_findRows 177 = .ok (.iload 7, 2) := by decide +kernel
theorem dX11_findRows_179 : decode cX11_findRows 179 = .ok (.ifCond .le 13, 3) := by decide +kernel
theorem dX11_findRows_182 : decode cX11_findRows 182 = .ok (.aload_n 0, 1) := by decide +kernel
theorem dX11_findRows_183 : decode cX11_findRows 183 = .ok (.getfield 29, 3) := by decide +kernel
theorem dX11_findRows_186 : decode cX11_findRows 186 = .ok (.iload 6, 2) := by decide +kernel
theorem dX11_findRows_188 : decode cX11_findRows 188 = .ok (.iaload, 1) := by decide +kernel
theorem dX11_findRows_189 : decode cX11_findRows 189 = .ok (.goto 4, 3) := by decide +kernel
theorem dX11_findRows_192 : decode cX11_findRows 192 = .ok (.iconst 0, 1) := by decide +kernel
theorem dX11_findRows_193 : decode cX11_findRows 193 = .ok (.iadd, 1) := by decide +kernel
theorem dX11_findRows_194 : decode cX11_findRows 194 = .ok (.iastore, 1) := by decide +kernel
theorem dX11_findRows_195 : decode cX11_findRows 195 = .ok (.iinc 6 1, 3) := by decide +kernel
theorem dX11_findRows_198 : decode cX11_findRows 198 = .ok (.goto (-80), 3) := by decide +kernel
theorem dX11_findRows_201 : decode cX11_findRows 201 = .ok (.iinc 5 1, 3) := by decide +kernel
theorem dX11_findRows_204 : decode cX11_findRows 204 = .ok (.goto (-111), 3) := by decide +kernel
theorem dX11_findRows_207 : decode cX11_findRows 207 = .ok (.iconst 0, 1) := by decide +kernel
theorem dX11_findRows_208 : decode cX11_findRows 208 = .ok (.istore 5, 2) := by decide +kernel
theorem dX11_findRows_210 : decode cX11_findRows 210 = .ok (.iload 5, 2) := by decide +kernel
theorem dX11_findRows_212 : decode cX11_findRows 212 = .ok (.iconst 4, 1) := by decide +kernel
theorem dX11_findRows_213 : decode cX11_findRows 213 = .ok (.if_icmp .ge 37, 3) := by decide +kernel
theorem dX11_findRows_216 : decode cX11_findRows 216 = .ok (.aload_n 0, 1) := by decide +kernel
theorem dX11_findRows_217 : decode cX11_findRows 217 = .ok (.getfield 22, 3) := by decide +kernel
theorem dX11_findRows_220 : decode cX11_findRows 220 = .ok (.iload 5, 2) := by decide +kernel
theorem dX11_findRows_222 : decode cX11_findRows 222 = .ok (.aload_n 0, 1) := by decide +kernel
theorem dX11_findRows_223 : decode cX11_findRows 223 = .ok (.getfield 26, 3) := by decide +kernel
theorem dX11_findRows_226 : decode cX11_findRows 226 = .ok (.iload 5, 2) := by decide +kernel
theorem dX11_findRows_228 : decode cX11_findRows 228 = .ok (.laload, 1) := by decide +kernel
theorem dX11_findRows_229 : decode cX11_findRows 229 = .ok (.lastore, 1) := by decide +kernel
theorem dX11_findRows_230 : decode cX11_findRows 230 = .ok (.aload_n 0, 1) := by decide +kernel
theorem dX11_findRows_231 : decode cX11_findRows 231 = .ok (.getfield 29, 3) := by decide +kernel
theorem dX11_findRows_234 : decode cX11_findRows 234 = .ok (.iload 5, 2) := by decide +kernel
theorem dX11_findRows_236 : decode cX11_findRows 236 = .ok (.aload_n 0, 1) := by decide +kernel
theorem dX11_findRows_237 : decode cX11_findRows 237 = .ok (.getfield 32, 3) := by decide +kernel
theorem dX11_findRows_240 : decode cX11_findRows 240 = .ok (.iload 5, 2) := by decide +kernel
theorem dX11_findRows_242 : decode cX11_findRows 242 = .ok (.iaload, 1) := by decide +kernel
theorem dX11_findRows_243 : decode cX11_findRows 243 = .ok (.iastore, 1) := by decide +kernel
theorem dX11_findRows_244 : decode cX11_findRows 244 = .ok (.iinc 5 1, 3) := by decide +kernel
theorem dX11_findRows_247 : decode cX11_findRows 247 = .ok (.goto (-37), 3) := by decide +kernel
theorem dX11_findRows_250 : decode cX11_findRows 250 = .ok (.iinc 4 1, 3) := by decide +kernel
theorem dX11_findRows_253 : decode cX11_findRows 253 = .ok (.goto (-169), 3) := by decide +kernel
theorem dX11_findRows_256 : decode cX11_findRows 256 = .ok (.return_, 1) := by decide +kernel
theorem dX11_findOdds_0 : decode cX11_findOdds 0 = .ok (.aload_n 0, 1) := by decide +kernel
theorem dX11_findOdds_1 : decode cX11_findOdds 1 = .ok (.iload_n 1, 1) := by decide +kernel
theorem dX11_findOdds_2 : decode cX11_findOdds 2 = .ok (.iload_n 2, 1) := by decide +kernel
theorem dX11_findOdds_3 : decode cX11_findOdds 3 = .ok (.invokevirtual 167, 3) := by decide +kernel
theorem dX11_findOdds_6 : decode cX11_findOdds 6 = .ok (.aload_n 0, 1) := by decide +kernel
theorem dX11_findOdds_7 : decode cX11_findOdds 7 = .ok (.getfield 22, 3) := by decide +kernel
theorem dX11_findOdds_10 : decode cX11_findOdds 10 = .ok (.iconst 0, 1) := by decide +kernel
theorem dX11_findOdds_11 : decode cX11_findOdds 11 = .ok (.laload, 1) := by decide +kernel
theorem dX11_findOdds_12 : decode cX11_findOdds 12 = .ok (.aload_n 0, 1) := by decide +kernel
theorem dX11_findOdds_13 : decode cX11_findOdds 13 = .ok (.getfield 22, 3) := by decide +kernel
theorem dX11_findOdds_16 : decode cX11_findOdds 16 = .ok (.iconst 1, 1) := by decide +kernel
theorem dX11_findOdds_17 : decode cX11_findOdds 17 = .ok (.laload, 1) := by decide +kernel
theorem dX11_findOdds_18 : decode cX11_findOdds 18 = .ok (.ladd, 1) := by decide +kernel
theorem dX11_findOdds_19 : decode cX11_findOdds 19 = .ok (.aload_n 0, 1) := by decide +kernel
theorem dX11_findOdds_20 : decode cX11_findOdds 20 = .ok (.getfield 22, 3) := by decide +kernel
theorem dX11_findOdds_23 : decode cX11_findOdds 23 = .ok (.iconst 2, 1) := by decide +kernel
theorem dX11_findOdds_24 : decode cX11_findOdds 24 = .ok (.laload, 1) := by decide +kernel
theorem dX11_findOdds_25 : decode cX11_findOdds 25 = .ok (.ladd, 1) := by decide +kernel
theorem dX11_findOdds_26 : decode cX11_findOdds 26 = .ok (.aload_n 0, 1) := by decide +kernel
theorem dX11_findOdds_27 : decode cX11_findOdds 27 = .ok (.getfield 22, 3) := by decide +kernel
theorem dX11_findOdds_30 : decode cX11_findOdds 30 = .ok (.iconst 3, 1) := by decide +kernel
theorem dX11_findOdds_31 : decode cX11_findOdds 31 = .ok (.laload, 1) := by decide +kernel
theorem dX11_findOdds_32 : decode cX11_findOdds 32 = .ok (.ladd, 1) := by decide +kernel
theorem dX11_findOdds_33 : decode cX11_findOdds 33 = .ok (.lstore 4, 2) := by decide +kernel
theorem dX11_findOdds_35 : decode cX11_findOdds 35 = .ok (.iconst 0, 1) := by decide +kernel
theorem dX11_findOdds_36 : decode cX11_findOdds 36 = .ok (.istore 6, 2) := by decide +kernel
theorem dX11_findOdds_38 : decode cX11_findOdds 38 = .ok (.iload 6, 2) := by decide +kernel
theorem dX11_findOdds_40 : decode cX11_findOdds 40 = .ok (.iconst 4, 1) := by decide +kernel
theorem dX11_findOdds_41 : decode cX11_findOdds 41 = .ok (.if_icmp .ge 42, 3) := by decide +kernel
theorem dX11_findOdds_44 : decode cX11_findOdds 44 = .ok (.aload_n 0, 1) := by decide +kernel
theorem dX11_findOdds_45 : decode cX11_findOdds 45 = .ok (.getfield 35, 3) := by decide +kernel
theorem dX11_findOdds_48 : decode cX11_findOdds 48 = .ok (.iload 6, 2) := by decide +kernel
theorem dX11_findOdds_50 : decode cX11_findOdds 50 = .ok (.lload 4, 2) := by decide +kernel
theorem dX11_findOdds_52 : decode cX11_findOdds 52 = .ok (.lconst 0, 1) := by decide +kernel
theorem dX11_findOdds_53 : decode cX11_findOdds 53 = .ok (.lcmp, 1) := by decide +kernel
theorem dX11_findOdds_54 : decode cX11_findOdds 54 = .ok (.ifCond .ne 7, 3) := by decide +kernel
theorem dX11_findOdds_57 : decode cX11_findOdds 57 = .ok (.iconst 0, 1) := by decide +kernel
theorem dX11_findOdds_58 : decode cX11_findOdds 58 = .ok (.goto 18, 3) := by decide +kernel
theorem dX11_findOdds_61 : decode cX11_findOdds 61 = .ok (.aload_n 0, 1) := by decide +kernel
theorem dX11_findOdds_62 : decode cX11_findOdds 62 = .ok (.getfield 22, 3) := by decide +kernel
theorem dX11_findOdds_65 : decode cX11_findOdds 65 = .ok (.iload 6, 2) := by decide +kernel
theorem dX11_findOdds_67 : decode cX11_findOdds 67 = .ok (.laload, 1) := by decide +kernel
theorem dX11_findOdds_68 : decode cX11_findOdds 68 = .ok (.ldc2_w 171, 3) := by decide +kernel
theorem dX11_findOdds_71 : decode cX11_findOdds 71 = .ok (.lmul, 1) := by decide +kernel
theorem dX11_findOdds_72 : decode cX11_findOdds 72 = .ok (.lload 4, 2) := by decide +kernel
theorem dX11_findOdds_74 : decode cX11_findOdds 74 = .ok (.ldiv, 1) := by decide +kernel
theorem dX11_findOdds_75 : decode cX11_findOdds 75 = .ok (.l2i, 1) := by decide +kernel
theorem dX11_findOdds_76 : decode cX11_findOdds 76 = .ok (.iastore, 1) := by decide +kernel
theorem dX11_findOdds_77 : decode cX11_findOdds 77 = .ok (.iinc 6 1, 3) := by decide +kernel
theorem dX11_findOdds_80 : decode cX11_findOdds 80 = .ok (.goto (-42), 3) := by decide +kernel
theorem dX11_findOdds_83 : decode cX11_findOdds 83 = .ok (.iconst 0, 1) := by decide +kernel
theorem dX11_findOdds_84 : decode cX11_findOdds 84 = .ok (.istore 6, 2) := by decide +kernel
theorem dX11_findOdds_86 : decode cX11_findOdds 86 = .ok (.iload 6, 2) := by decide +kernel
theorem dX11_findOdds_88 : decode cX11_findOdds 88 = .ok (.iload_n 3, 1) := by decide +kernel
theorem dX11_findOdds_89 : decode cX11_findOdds 89 = .ok (.if_icmp .ge 165, 3) := by decide +kernel
theorem dX11_findOdds_92 : decode cX11_findOdds 92 = .ok (.iconst 0, 1) := by decide +kernel
theorem dX11_findOdds_93 : decode cX11_findOdds 93 = .ok (.istore 7, 2) := by decide +kernel
theorem dX11_findOdds_95 : decode cX11_findOdds 95 = .ok (.iload 7, 2) := by decide +kernel
theorem dX11_findOdds_97 : decode cX11_findOdds 97 = .ok (.iconst 4, 1) := by decide +kernel
theorem dX11_findOdds_98 : decode cX11_findOdds 98 = .ok (.if_icmp .ge 121, 3) := by decide +kernel
theorem dX11_findOdds_101 : decode cX11_findOdds 101 = .ok (.aload_n 0, 1) := by decide +kernel
theorem dX11_findOdds_102 : decode cX11_findOdds 102 = .ok (.getfield 38, 3) := by decide +kernel
theorem dX11_findOdds_105 : decode cX11_findOdds 105 = .ok (.iload 7, 2) := by decide +kernel
theorem dX11_findOdds_107 : decode cX11_findOdds 107 = .ok (.iconst 0, 1) := by decide +kernel
theorem dX11_findOdds_108 : decode cX11_findOdds 108 = .ok (.iastore, 1) := by decide +kernel
theorem dX11_findOdds_109 : decode cX11_findOdds 109 = .ok (.iconst 0, 1) := by decide +kernel
theorem dX11_findOdds_110 : decode cX11_findOdds 110 = .ok (.istore 8, 2) := by decide +kernel
theorem dX11_findOdds_112 : decode cX11_findOdds 112 = .ok (.iload 8, 2) := by decide +kernel
theorem dX11_findOdds_114 : decode cX11_findOdds 114 = .ok (.iconst 4, 1) := by decide +kernel
theorem dX11_findOdds_115 : decode cX11_findOdds 115 = .ok (.if_icmp .ge 98, 3) := by decide +kernel
theorem dX11_findOdds_118 : decode cX11_findOdds 118 = .ok (.aload_n 0, 1) := by decide +kernel
theorem dX11_findOdds_119 : decode cX11_findOdds 119 = .ok (.getfield 7, 3) := by decide +kernel
theorem dX11_findOdds_122 : decode cX11_findOdds 122 = .ok (.iconst 4, 1) := by decide +kernel
theorem dX11_findOdds_123 : decode cX11_findOdds 123 = .ok (.iload 8, 2) := by decide +kernel
theorem dX11_findOdds_125 : decode cX11_findOdds 125 = .ok (.imul, 1) := by decide +kernel
theorem dX11_findOdds_126 : decode cX11_findOdds 126 = .ok (.iaload, 1) := by decide +kernel
theorem dX11_findOdds_127 : decode cX11_findOdds 127 = .ok (.aload_n 0, 1) := by decide +kernel
theorem dX11_findOdds_128 : decode cX11_findOdds 128 = .ok (.getfield 7, 3) := by decide +kernel
theorem dX11_findOdds_131 : decode cX11_findOdds 131 = .ok (.iconst 4, 1) := by decide +kernel
theorem dX11_findOdds_132 : decode cX11_findOdds 132 = .ok (.iload 8, 2) := by decide +kernel
theorem dX11_findOdds_134 : decode cX11_findOdds 134 = .ok (.imul, 1) := by decide +kernel
theorem dX11_findOdds_135 : decode cX11_findOdds 135 = .ok (.iconst 1, 1) := by decide +kernel
theorem dX11_findOdds_136 : decode cX11_findOdds 136 = .ok (.iadd, 1) := by decide +kernel
theorem dX11_findOdds_137 : decode cX11_findOdds 137 = .ok (.iaload, 1) := by decide +kernel
theorem dX11_findOdds_138 : decode cX11_findOdds 138 = .ok (.iadd, 1) := by decide +kernel
theorem dX11_findOdds_139 : decode cX11_findOdds 139 = .ok (.aload_n 0, 1) := by decide +kernel
theorem dX11_findOdds_140 : decode cX11_findOdds 140 = .ok (.getfield 7, 3) := by decide +kernel
theorem dX11_findOdds_143 : decode cX11_findOdds 143 = .ok (.iconst 4, 1) := by decide +kernel
theorem dX11_findOdds_144 : decode cX11_findOdds 144 = .ok (.iload 8, 2) := by decide +kernel
theorem dX11_findOdds_146 : decode cX11_findOdds 146 = .ok (.imul, 1) := by decide +kernel
theorem dX11_findOdds_147 : decode cX11_findOdds 147 = .ok (.iconst 2, 1) := by decide +kernel
theorem dX11_findOdds_148 : decode cX11_findOdds 148 = .ok (.iadd, 1) := by decide +kernel
theorem dX11_findOdds_149 : decode cX11_findOdds 149 = .ok (.iaload, 1) := by decide +kernel
theorem dX11_findOdds_150 : decode cX11_findOdds 150 = .ok (.iadd, 1) := by decide +kernel
theorem dX11_findOdds_151 : decode cX11_findOdds 151 = .ok (.aload_n 0, 1) := by decide +kernel
theorem dX11_findOdds_152 : decode cX11_findOdds 152 = .ok (.getfield 7, 3) := by decide +kernel
theorem dX11_findOdds_155 : decode cX11_findOdds 155 = .ok (.iconst 4, 1) := by decide +kernel
theorem dX11_findOdds_156 : decode cX11_findOdds 156 = .ok (.iload 8, 2) := by decide +kernel
theorem dX11_findOdds_158 : decode cX11_findOdds 158 = .ok (.imul, 1) := by decide +kernel
theorem dX11_findOdds_159 : decode cX11_findOdds 159 = .ok (.iconst 3, 1) := by decide +kernel
theorem dX11_findOdds_160 : decode cX11_findOdds 160 = .ok (.iadd, 1) := by decide +kernel
theorem dX11_findOdds_161 : decode cX11_findOdds 161 = .ok (.iaload, 1) := by decide +kernel
theorem dX11_findOdds_162 : decode cX11_findOdds 162 = .ok (.iadd, 1) := by decide +kernel
theorem dX11_findOdds_163 : decode cX11_findOdds 163 = .ok (.istore 9, 2) := by decide +kernel
theorem dX11_findOdds_165 : decode cX11_findOdds 165 = .ok (.aload_n 0, 1) := by decide +kernel
theorem dX11_findOdds_166 : decode cX11_findOdds 166 = .ok (.getfield 38, 3) := by decide +kernel
theorem dX11_findOdds_169 : decode cX11_findOdds 169 = .ok (.iload 7, 2) := by decide +kernel
theorem dX11_findOdds_171 : decode cX11_findOdds 171 = .ok (.dup2, 1) := by decide +kernel
theorem dX11_findOdds_172 : decode cX11_findOdds 172 = .ok (.iaload, 1) := by decide +kernel
theorem dX11_findOdds_173 : decode cX11_findOdds 173 = .ok (.iload 9, 2) := by decide +kernel
theorem dX11_findOdds_175 : decode cX11_findOdds 175 = .ok (.ifCond .ne 7, 3) := by decide +kernel
theorem dX11_findOdds_178 : decode cX11_findOdds 178 = .ok (.iconst 0, 1) := by decide +kernel
theorem dX11_findOdds_179 : decode cX11_findOdds 179 = .ok (.goto 26, 3) := by decide +kernel
theorem dX11_findOdds_182 : decode cX11_findOdds 182 = .ok (.aload_n 0, 1) := by decide +kernel
theorem dX11_findOdds_183 : decode cX11_findOdds 183 = .ok (.getfield 35, 3) := by decide +kernel
theorem dX11_findOdds_186 : decode cX11_findOdds 186 = .ok (.iload 8, 2) := by decide +kernel
theorem dX11_findOdds_188 : decode cX11_findOdds 188 = .ok (.iaload, 1) := by decide +kernel
theorem dX11_findOdds_189 : decode cX11_findOdds 189 = .ok (.aload_n 0, 1) := by decide +kernel
theorem dX11_findOdds_190 : decode cX11_findOdds 190 = .ok (.getfield 7, 3) := by decide +kernel
theorem dX11_findOdds_193 : decode cX11_findOdds 193 = .ok (.iconst 4, 1) := by decide +kernel
theorem dX11_findOdds_194 : decode cX11_findOdds 194 = .ok (.iload 8, 2) := by decide +kernel
theorem dX11_findOdds_196 : decode cX11_findOdds 196 = .ok (.imul, 1) := by decide +kernel
theorem dX11_findOdds_197 : decode cX11_findOdds 197 = .ok (.iload 7, 2) := by decide +kernel
theorem dX11_findOdds_199 : decode cX11_findOdds 199 = .ok (.iadd, 1) := by decide +kernel
theorem dX11_findOdds_200 : decode cX11_findOdds 200 = .ok (.iaload, 1) := by decide +kernel
theorem dX11_findOdds_201 : decode cX11_findOdds 201 = .ok (.imul, 1) := by decide +kernel
theorem dX11_findOdds_202 : decode cX11_findOdds 202 = .ok (.iload 9, 2) := by decide +kernel
theorem dX11_findOdds_204 : decode cX11_findOdds 204 = .ok (.idiv, 1) := by decide +kernel
theorem dX11_findOdds_205 : decode cX11_findOdds 205 = .ok (.iadd, 1) := by decide +kernel
theorem dX11_findOdds_206 : decode cX11_findOdds 206 = .ok (.iastore, 1) := by decide +kernel
theorem dX11_findOdds_207 : decode cX11_findOdds 207 = .ok (.iinc 8 1, 3) := by decide +kernel
theorem dX11_findOdds_210 : decode cX11_findOdds 210 = .ok (.goto (-98), 3) := by decide +kernel
theorem dX11_findOdds_213 : decode cX11_findOdds 213 = .ok (.iinc 7 1, 3) := by decide +kernel
theorem dX11_findOdds_216 : decode cX11_findOdds 216 = .ok (.goto (-121), 3) := by decide +kernel
theorem dX11_findOdds_219 : decode cX11_findOdds 219 = .ok (.iconst 0, 1) := by decide +kernel
theorem dX11_findOdds_220 : decode cX11_findOdds 220 = .ok (.istore 7, 2) := by decide +kernel
theorem dX11_findOdds_222 : decode cX11_findOdds 222 = .ok (.iload 7, 2) := by decide +kernel
theorem dX11_findOdds_224 : decode cX11_findOdds 224 = .ok (.iconst 4, 1) := by decide +kernel
theorem dX11_findOdds_225 : decode cX11_findOdds 225 = .ok (.if_icmp .ge 23, 3) := by decide +kernel
theorem dX11_findOdds_228 : decode cX11_findOdds 228 = .ok (.aload_n 0, 1) := by decide +kernel
theorem dX11_findOdds_229 : decode cX11_findOdds 229 = .ok (.getfield 35, 3) := by decide +kernel
theorem dX11_findOdds_232 : decode cX11_findOdds 232 = .ok (.iload 7, 2) := by decide +kernel
theorem dX11_findOdds_234 : decode cX11_findOdds 234 = .ok (.aload_n 0, 1) := by decide +kernel
theorem dX11_findOdds_235 : decode cX11_findOdds 235 = .ok (.getfield 38, 3) := by decide +kernel
theorem dX11_findOdds_238 : decode cX11_findOdds 238 = .ok (.iload 7, 2) := by decide +kernel
theorem dX11_findOdds_240 : decode cX11_findOdds 240 = .ok (.iaload, 1) := by decide +kernel
theorem dX11_findOdds_241 : decode cX11_findOdds 241 = .ok (.iastore, 1) := by decide +kernel
theorem dX11_findOdds_242 : decode cX11_findOdds 242 = .ok (.iinc 7 1, 3) := by decide +kernel
theorem dX11_findOdds_245 : decode cX11_findOdds 245 = .ok (.goto (-23), 3) := by decide +kernel
theorem dX11_findOdds_248 : decode cX11_findOdds 248 = .ok (.iinc 6 1, 3) := by decide +kernel
theorem dX11_findOdds_251 : decode cX11_findOdds 251 = .ok (.goto (-165), 3) := by decide +kernel
theorem dX11_findOdds_254 : decode cX11_findOdds 254 = .ok (.return_, 1) := by decide +kernel
theorem dX11_seamOdds_0 : decode cX11_seamOdds 0 = .ok (.aload_n 0, 1) := by decide +kernel
theorem dX11_seamOdds_1 : decode cX11_seamOdds 1 = .ok (.iload_n 1, 1) := by decide +kernel
theorem dX11_seamOdds_2 : decode cX11_seamOdds 2 = .ok (.iload_n 2, 1) := by decide +kernel
theorem dX11_seamOdds_3 : decode cX11_seamOdds 3 = .ok (.iload_n 3, 1) := by decide +kernel
theorem dX11_seamOdds_4 : decode cX11_seamOdds 4 = .ok (.invokevirtual 173, 3) := by decide +kernel
theorem dX11_seamOdds_7 : decode cX11_seamOdds 7 = .ok (.iconst 0, 1) := by decide +kernel
theorem dX11_seamOdds_8 : decode cX11_seamOdds 8 = .ok (.istore 4, 2) := by decide +kernel
theorem dX11_seamOdds_10 : decode cX11_seamOdds 10 = .ok (.iconst 0, 1) := by decide +kernel
theorem dX11_seamOdds_11 : decode cX11_seamOdds 11 = .ok (.istore 5, 2) := by decide +kernel
theorem dX11_seamOdds_13 : decode cX11_seamOdds 13 = .ok (.iload 5, 2) := by decide +kernel
theorem dX11_seamOdds_15 : decode cX11_seamOdds 15 = .ok (.iconst 4, 1) := by decide +kernel
theorem dX11_seamOdds_16 : decode cX11_seamOdds 16 = .ok (.if_icmp .ge 31, 3) := by decide +kernel
theorem dX11_seamOdds_19 : decode cX11_seamOdds 19 = .ok (.iload 4, 2) := by decide +kernel
theorem dX11_seamOdds_21 : decode cX11_seamOdds 21 = .ok (.aload_n 0, 1) := by decide +kernel
theorem dX11_seamOdds_22 : decode cX11_seamOdds 22 = .ok (.getfield 150, 3) := by decide +kernel
theorem dX11_seamOdds_25 : decode cX11_seamOdds 25 = .ok (.iload 5, 2) := by decide +kernel
theorem dX11_seamOdds_27 : decode cX11_seamOdds 27 = .ok (.ishr, 1) := by decide +kernel
theorem dX11_seamOdds_28 : decode cX11_seamOdds 28 = .ok (.iconst 1, 1) := by decide +kernel
theorem dX11_seamOdds_29 : decode cX11_seamOdds 29 = .ok (.iand, 1) := by decide +kernel
theorem dX11_seamOdds_30 : decode cX11_seamOdds 30 = .ok (.aload_n 0, 1) := by decide +kernel
theorem dX11_seamOdds_31 : decode cX11_seamOdds 31 = .ok (.getfield 35, 3) := by decide +kernel
theorem dX11_seamOdds_34 : decode cX11_seamOdds 34 = .ok (.iload 5, 2) := by decide +kernel
theorem dX11_seamOdds_36 : decode cX11_seamOdds 36 = .ok (.iaload, 1) := by decide +kernel
theorem dX11_seamOdds_37 : decode cX11_seamOdds 37 = .ok (.imul, 1) := by decide +kernel
theorem dX11_seamOdds_38 : decode cX11_seamOdds 38 = .ok (.iadd, 1) := by decide +kernel
theorem dX11_seamOdds_39 : decode cX11_seamOdds 39 = .ok (.istore 4, 2) := by decide +kernel
theorem dX11_seamOdds_41 : decode cX11_seamOdds 41 = .ok (.iinc 5 1, 3) := by decide +kernel
theorem dX11_seamOdds_44 : decode cX11_seamOdds 44 = .ok (.goto (-31), 3) := by decide +kernel
theorem dX11_seamOdds_47 : decode cX11_seamOdds 47 = .ok (.iload 4, 2) := by decide +kernel
theorem dX11_seamOdds_49 : decode cX11_seamOdds 49 = .ok (.ireturn, 1) := by decide +kernel
theorem dX11_fits_0 : decode cX11_fits 0 = .ok (.iload_n 1, 1) := by decide +kernel
theorem dX11_fits_1 : decode cX11_fits 1 = .ok (.invokestatic 153, 3) := by decide +kernel
theorem dX11_fits_4 : decode cX11_fits 4 = .ok (.ifCond .ne 7, 3) := by decide +kernel
theorem dX11_fits_7 : decode cX11_fits 7 = .ok (.sipush (-1001), 3) := by decide +kernel
theorem dX11_fits_10 : decode cX11_fits 10 = .ok (.ireturn, 1) := by decide +kernel
theorem dX11_fits_11 : decode cX11_fits 11 = .ok (.iload_n 2, 1) := by decide +kernel
theorem dX11_fits_12 : decode cX11_fits 12 = .ok (.i2l, 1) := by decide +kernel
theorem dX11_fits_13 : decode cX11_fits 13 = .ok (.lconst 0, 1) := by decide +kernel
theorem dX11_fits_14 : decode cX11_fits 14 = .ok (.aload_n 0, 1) := by decide +kernel
theorem dX11_fits_15 : decode cX11_fits 15 = .ok (.getfield 158, 3) := by decide +kernel
theorem dX11_fits_18 : decode cX11_fits 18 = .ok (.i2l, 1) := by decide +kernel
theorem dX11_fits_19 : decode cX11_fits 19 = .ok (.invokestatic 138, 3) := by decide +kernel
theorem dX11_fits_22 : decode cX11_fits 22 = .ok (.ifCond .ne 7, 3) := by decide +kernel
theorem dX11_fits_25 : decode cX11_fits 25 = .ok (.sipush (-1002), 3) := by decide +kernel
theorem dX11_fits_28 : decode cX11_fits 28 = .ok (.ireturn, 1) := by decide +kernel
theorem dX11_fits_29 : decode cX11_fits 29 = .ok (.aload_n 0, 1) := by decide +kernel
theorem dX11_fits_30 : decode cX11_fits 30 = .ok (.iload_n 1, 1) := by decide +kernel
theorem dX11_fits_31 : decode cX11_fits 31 = .ok (.iload_n 2, 1) := by decide +kernel
theorem dX11_fits_32 : decode cX11_fits 32 = .ok (.invokevirtual 167, 3) := by decide +kernel
theorem dX11_fits_35 : decode cX11_fits 35 = .ok (.aload_n 0, 1) := by decide +kernel
theorem dX11_fits_36 : decode cX11_fits 36 = .ok (.getfield 29, 3) := by decide +kernel
theorem dX11_fits_39 : decode cX11_fits 39 = .ok (.iconst 0, 1) := by decide +kernel
theorem dX11_fits_40 : decode cX11_fits 40 = .ok (.iaload, 1) := by decide +kernel
theorem dX11_fits_41 : decode cX11_fits 41 = .ok (.aload_n 0, 1) := by decide +kernel
theorem dX11_fits_42 : decode cX11_fits 42 = .ok (.getfield 29, 3) := by decide +kernel
theorem dX11_fits_45 : decode cX11_fits 45 = .ok (.iconst 1, 1) := by decide +kernel
theorem dX11_fits_46 : decode cX11_fits 46 = .ok (.iaload, 1) := by decide +kernel
theorem dX11_fits_47 : decode cX11_fits 47 = .ok (.iadd, 1) := by decide +kernel
theorem dX11_fits_48 : decode cX11_fits 48 = .ok (.aload_n 0, 1) := by decide +kernel
theorem dX11_fits_49 : decode cX11_fits 49 = .ok (.getfield 29, 3) := by decide +kernel
theorem dX11_fits_52 : decode cX11_fits 52 = .ok (.iconst 2, 1) := by decide +kernel
theorem dX11_fits_53 : decode cX11_fits 53 = .ok (.iaload, 1) := by decide +kernel
theorem dX11_fits_54 : decode cX11_fits 54 = .ok (.iadd, 1) := by decide +kernel
theorem dX11_fits_55 : decode cX11_fits 55 = .ok (.aload_n 0, 1) := by decide +kernel
theorem dX11_fits_56 : decode cX11_fits 56 = .ok (.getfield 29, 3) := by decide +kernel
theorem dX11_fits_59 : decode cX11_fits 59 = .ok (.iconst 3, 1) := by decide +kernel
theorem dX11_fits_60 : decode cX11_fits 60 = .ok (.iaload, 1) := by decide +kernel
theorem dX11_fits_61 : decode cX11_fits 61 = .ok (.iadd, 1) := by decide +kernel
theorem dX11_fits_62 : decode cX11_fits 62 = .ok (.ireturn, 1) := by decide +kernel
theorem dX11_odds_0 : decode cX11_odds 0 = .ok (.iload_n 1, 1) := by decide +kernel
theorem dX11_odds_1 : decode cX11_odds 1 = .ok (.invokestatic 153, 3) := by decide +kernel
theorem dX11_odds_4 : decode cX11_odds 4 = .ok (.ifCond .ne 7, 3) := by decide +kernel
theorem dX11_odds_7 : decode cX11_odds 7 = .ok (.sipush (-1001), 3) := by decide +kernel
theorem dX11_odds_10 : decode cX11_odds 10 = .ok (.ireturn, 1) := by decide +kernel
theorem dX11_odds_11 : decode cX11_odds 11 = .ok (.iload_n 2, 1) := by decide +kernel
theorem dX11_odds_12 : decode cX11_odds 12 = .ok (.invokestatic 142, 3) := by decide +kernel
theorem dX11_odds_15 : decode cX11_odds 15 = .ok (.ifCond .eq 15, 3) := by decide +kernel
theorem dX11_odds_18 : decode cX11_odds 18 = .ok (.iload_n 3, 1) := by decide +kernel
theorem dX11_odds_19 : decode cX11_odds 19 = .ok (.i2l, 1) := by decide +kernel
theorem dX11_odds_20 : decode cX11_odds 20 = .ok (.lconst 0, 1) := by decide +kernel
theorem dX11_odds_21 : decode cX11_odds 21 = .ok (.ldc2_w 177, 3) := by decide +kernel
theorem dX11_odds_24 : decode cX11_odds 24 = .ok (.invokestatic 138, 3) := by decide +kernel
theorem dX11_odds_27 : decode cX11_odds 27 = .ok (.ifCond .ne 7, 3) := by decide +kernel
theorem dX11_odds_30 : decode cX11_odds 30 = .ok (.sipush (-1002), 3) := by decide +kernel
theorem dX11_odds_33 : decode cX11_odds 33 = .ok (.ireturn, 1) := by decide +kernel
theorem dX11_odds_34 : decode cX11_odds 34 = .ok (.aload_n 0, 1) := by decide +kernel
theorem dX11_odds_35 : decode cX11_odds 35 = .ok (.iload_n 1, 1) := by decide +kernel
theorem dX11_odds_36 : decode cX11_odds 36 = .ok (.aload_n 0, 1) := by decide +kernel
theorem dX11_odds_37 : decode cX11_odds 37 = .ok (.getfield 158, 3) := by decide +kernel
theorem dX11_odds_40 : decode cX11_odds 40 = .ok (.iload_n 3, 1) := by decide +kernel
theorem dX11_odds_41 : decode cX11_odds 41 = .ok (.invokevirtual 173, 3) := by decide +kernel
theorem dX11_odds_44 : decode cX11_odds 44 = .ok (.aload_n 0, 1) := by decide +kernel
theorem dX11_odds_45 : decode cX11_odds 45 = .ok (.getfield 35, 3) := by decide +kernel
theorem dX11_odds_48 : decode cX11_odds 48 = .ok (.iload_n 2, 1) := by decide +kernel
theorem dX11_odds_49 : decode cX11_odds 49 = .ok (.iaload, 1) := by decide +kernel
theorem dX11_odds_50 : decode cX11_odds 50 = .ok (.ireturn, 1) := by decide +kernel
theorem dX11_seam_0 : decode cX11_seam 0 = .ok (.iload_n 1, 1) := by decide +kernel
theorem dX11_seam_1 : decode cX11_seam 1 = .ok (.invokestatic 153, 3) := by decide +kernel
theorem dX11_seam_4 : decode cX11_seam 4 = .ok (.ifCond .ne 7, 3) := by decide +kernel
theorem dX11_seam_7 : decode cX11_seam 7 = .ok (.sipush (-1001), 3) := by decide +kernel
theorem dX11_seam_10 : decode cX11_seam 10 = .ok (.ireturn, 1) := by decide +kernel
theorem dX11_seam_11 : decode cX11_seam 11 = .ok (.iload_n 2, 1) := by decide +kernel
theorem dX11_seam_12 : decode cX11_seam 12 = .ok (.i2l, 1) := by decide +kernel
theorem dX11_seam_13 : decode cX11_seam 13 = .ok (.lconst 0, 1) := by decide +kernel
theorem dX11_seam_14 : decode cX11_seam 14 = .ok (.ldc2_w 177, 3) := by decide +kernel
theorem dX11_seam_17 : decode cX11_seam 17 = .ok (.invokestatic 138, 3) := by decide +kernel
theorem dX11_seam_20 : decode cX11_seam 20 = .ok (.ifCond .eq 16, 3) := by decide +kernel
theorem dX11_seam_23 : decode cX11_seam 23 = .ok (.aload_n 0, 1) := by decide +kernel
theorem dX11_seam_24 : decode cX11_seam 24 = .ok (.iload_n 1, 1) := by decide +kernel
theorem dX11_seam_25 : decode cX11_seam 25 = .ok (.aload_n 0, 1) := by decide +kernel
theorem dX11_seam_26 : decode cX11_seam 26 = .ok (.getfield 158, 3) := by decide +kernel
theorem dX11_seam_29 : decode cX11_seam 29 = .ok (.iload_n 2, 1) := by decide +kernel
theorem dX11_seam_30 : decode cX11_seam 30 = .ok (.invokevirtual 179, 3) := by decide +kernel
theorem dX11_seam_33 : decode cX11_seam 33 = .ok (.goto 6, 3) := by decide +kernel
theorem dX11_seam_36 : decode cX11_seam 36 = .ok (.sipush (-1002), 3) := by decide +kernel
theorem dX11_seam_39 : decode cX11_seam 39 = .ok (.ireturn, 1) := by decide +kernel
theorem dX11_until_0 : decode cX11_until 0 = .ok (.iload_n 1, 1) := by decide +kernel
theorem dX11_until_1 : decode cX11_until 1 = .ok (.invokestatic 153, 3) := by decide +kernel
theorem dX11_until_4 : decode cX11_until 4 = .ok (.ifCond .ne 7, 3) := by decide +kernel
theorem dX11_until_7 : decode cX11_until 7 = .ok (.sipush (-1001), 3) := by decide +kernel
theorem dX11_until_10 : decode cX11_until 10 = .ok (.ireturn, 1) := by decide +kernel
theorem dX11_until_11 : decode cX11_until 11 = .ok (.iload_n 2, 1) := by decide +kernel
theorem dX11_until_12 : decode cX11_until 12 = .ok (.i2l, 1) := by decide +kernel
theorem dX11_until_13 : decode cX11_until 13 = .ok (.lconst 0, 1) := by decide +kernel
theorem dX11_until_14 : decode cX11_until 14 = .ok (.ldc2_w 171, 3) := by decide +kernel
theorem dX11_until_17 : decode cX11_until 17 = .ok (.invokestatic 138, 3) := by decide +kernel
theorem dX11_until_20 : decode cX11_until 20 = .ok (.ifCond .ne 7, 3) := by decide +kernel
theorem dX11_until_23 : decode cX11_until 23 = .ok (.sipush (-1002), 3) := by decide +kernel
theorem dX11_until_26 : decode cX11_until 26 = .ok (.ireturn, 1) := by decide +kernel
theorem dX11_until_27 : decode cX11_until 27 = .ok (.iconst 0, 1) := by decide +kernel
theorem dX11_until_28 : decode cX11_until 28 = .ok (.istore_n 3, 1) := by decide +kernel
theorem dX11_until_29 : decode cX11_until 29 = .ok (.iload_n 3, 1) := by decide +kernel
theorem dX11_until_30 : decode cX11_until 30 = .ok (.bipush 8, 2) := by decide +kernel
theorem dX11_until_32 : decode cX11_until 32 = .ok (.if_icmp .gt 25, 3) := by decide +kernel
theorem dX11_until_35 : decode cX11_until 35 = .ok (.aload_n 0, 1) := by decide +kernel
theorem dX11_until_36 : decode cX11_until 36 = .ok (.iload_n 1, 1) := by decide +kernel
theorem dX11_until_37 : decode cX11_until 37 = .ok (.aload_n 0, 1) := by decide +kernel
theorem dX11_until_38 : decode cX11_until 38 = .ok (.getfield 158, 3) := by decide +kernel
theorem dX11_until_41 : decode cX11_until 41 = .ok (.iload_n 3, 1) := by decide +kernel
theorem dX11_until_42 : decode cX11_until 42 = .ok (.invokevirtual 179, 3) := by decide +kernel
theorem dX11_until_45 : decode cX11_until 45 = .ok (.iload_n 2, 1) := by decide +kernel
theorem dX11_until_46 : decode cX11_until 46 = .ok (.if_icmp .lt 5, 3) := by decide +kernel
theorem dX11_until_49 : decode cX11_until 49 = .ok (.iload_n 3, 1) := by decide +kernel
theorem dX11_until_50 : decode cX11_until 50 = .ok (.ireturn, 1) := by decide +kernel
theorem dX11_until_51 : decode cX11_until 51 = .ok (.iinc 3 1, 3) := by decide +kernel
theorem dX11_until_54 : decode cX11_until 54 = .ok (.goto (-25), 3) := by decide +kernel
theorem dX11_until_57 : decode cX11_until 57 = .ok (.iconst (-1), 1) := by decide +kernel
theorem dX11_until_58 : decode cX11_until 58 = .ok (.ireturn, 1) := by decide +kernel
theorem dX11_isThing_0 : decode cX11_isThing 0 = .ok (.iload_n 1, 1) := by decide +kernel
theorem dX11_isThing_1 : decode cX11_isThing 1 = .ok (.i2l, 1) := by decide +kernel
theorem dX11_isThing_2 : decode cX11_isThing 2 = .ok (.lconst 0, 1) := by decide +kernel
theorem dX11_isThing_3 : decode cX11_isThing 3 = .ok (.aload_n 0, 1) := by decide +kernel
theorem dX11_isThing_4 : decode cX11_isThing 4 = .ok (.getfield 182, 3) := by decide +kernel
theorem dX11_isThing_7 : decode cX11_isThing 7 = .ok (.iconst 1, 1) := by decide +kernel
theorem dX11_isThing_8 : decode cX11_isThing 8 = .ok (.isub, 1) := by decide +kernel
theorem dX11_isThing_9 : decode cX11_isThing 9 = .ok (.i2l, 1) := by decide +kernel
theorem dX11_isThing_10 : decode cX11_isThing 10 = .ok (.invokestatic 138, 3) := by decide +kernel
theorem dX11_isThing_13 : decode cX11_isThing 13 = .ok (.ireturn, 1) := by decide +kernel
theorem dX11_isMust_0 : decode cX11_isMust 0 = .ok (.aload_n 0, 1) := by decide +kernel
theorem dX11_isMust_1 : decode cX11_isMust 1 = .ok (.getfield 44, 3) := by decide +kernel
theorem dX11_isMust_4 : decode cX11_isMust 4 = .ok (.iload_n 1, 1) := by decide +kernel
theorem dX11_isMust_5 : decode cX11_isMust 5 = .ok (.iaload, 1) := by decide +kernel
theorem dX11_isMust_6 : decode cX11_isMust 6 = .ok (.ifCond .eq 13, 3) := by decide +kernel
theorem dX11_isMust_9 : decode cX11_isMust 9 = .ok (.aload_n 0, 1) := by decide +kernel
theorem dX11_isMust_10 : decode cX11_isMust 10 = .ok (.getfield 44, 3) := by decide +kernel
theorem dX11_isMust_13 : decode cX11_isMust 13 = .ok (.iload_n 1, 1) := by decide +kernel
theorem dX11_isMust_14 : decode cX11_isMust 14 = .ok (.iaload, 1) := by decide +kernel
theorem dX11_isMust_15 : decode cX11_isMust 15 = .ok (.iconst 3, 1) := by decide +kernel
theorem dX11_isMust_16 : decode cX11_isMust 16 = .ok (.if_icmp .ne 7, 3) := by decide +kernel
theorem dX11_isMust_19 : decode cX11_isMust 19 = .ok (.iconst 1, 1) := by decide +kernel
theorem dX11_isMust_20 : decode cX11_isMust 20 = .ok (.goto 4, 3) := by decide +kernel
theorem dX11_isMust_23 : decode cX11_isMust 23 = .ok (.iconst 0, 1) := by decide +kernel
theorem dX11_isMust_24 : decode cX11_isMust 24 = .ok (.ireturn, 1) := by decide +kernel
theorem dX11_thing_0 : decode cX11_thing 0 = .ok (.iload_n 1, 1) := by decide +kernel
theorem dX11_thing_1 : decode cX11_thing 1 = .ok (.i2l, 1) := by decide +kernel
theorem dX11_thing_2 : decode cX11_thing 2 = .ok (.lconst 1, 1) := by decide +kernel
theorem dX11_thing_3 : decode cX11_thing 3 = .ok (.ldc2_w 148, 3) := by decide +kernel
theorem dX11_thing_6 : decode cX11_thing 6 = .ok (.invokestatic 138, 3) := by decide +kernel
theorem dX11_thing_9 : decode cX11_thing 9 = .ok (.ifCond .ne 7, 3) := by decide +kernel
theorem dX11_thing_12 : decode cX11_thing 12 = .ok (.sipush (-1001), 3) := by decide +kernel
theorem dX11_thing_15 : decode cX11_thing 15 = .ok (.ireturn, 1) := by decide +kernel
theorem dX11_thing_16 : decode cX11_thing 16 = .ok (.iload_n 2, 1) := by decide +kernel
theorem dX11_thing_17 : decode cX11_thing 17 = .ok (.i2l, 1) := by decide +kernel
theorem dX11_thing_18 : decode cX11_thing 18 = .ok (.lconst 0, 1) := by decide +kernel
theorem dX11_thing_19 : decode cX11_thing 19 = .ok (.ldc2_w 136, 3) := by decide +kernel
theorem dX11_thing_22 : decode cX11_thing 22 = .ok (.invokestatic 138, 3) := by decide +kernel
theorem dX11_thing_25 : decode cX11_thing 25 = .ok (.ifCond .eq 71, 3) := by decide +kernel
theorem dX11_thing_28 : decode cX11_thing 28 = .ok (.iload_n 3, 1) := by decide +kernel
theorem dX11_thing_29 : decode cX11_thing 29 = .ok (.i2l, 1) := by decide +kernel
theorem dX11_thing_30 : decode cX11_thing 30 = .ok (.lconst 0, 1) := by decide +kernel
theorem dX11_thing_31 : decode cX11_thing 31 = .ok (.ldc2_w 185, 3) := by decide +kernel
theorem dX11_thing_34 : decode cX11_thing 34 = .ok (.invokestatic 138, 3) := by decide +kernel
theorem dX11_thing_37 : decode cX11_thing 37 = .ok (.ifCond .eq 59, 3) := by decide +kernel
theorem dX11_thing_40 : decode cX11_thing 40 = .ok (.iload 4, 2) := by decide +kernel
theorem dX11_thing_42 : decode cX11_thing 42 = .ok (.i2l, 1) := by decide +kernel
theorem dX11_thing_43 : decode cX11_thing 43 = .ok (.lconst 0, 1) := by decide +kernel
theorem dX11_thing_44 : decode cX11_thing 44 = .ok (.ldc2_w 187, 3) := by decide +kernel
theorem dX11_thing_47 : decode cX11_thing 47 = .ok (.invokestatic 138, 3) := by decide +kernel
theorem dX11_thing_50 : decode cX11_thing 50 = .ok (.ifCond .eq 46, 3) := by decide +kernel
theorem dX11_thing_53 : decode cX11_thing 53 = .ok (.iload 5, 2) := by decide +kernel
theorem dX11_thing_55 : decode cX11_thing 55 = .ok (.i2l, 1) := by decide +kernel
theorem dX11_thing_56 : decode cX11_thing 56 = .ok (.lconst 0, 1) := by decide +kernel
theorem dX11_thing_57 : decode cX11_thing 57 = .ok (.ldc2_w 189, 3) := by decide +kernel
theorem dX11_thing_60 : decode cX11_thing 60 = .ok (.invokestatic 138, 3) := by decide +kernel
theorem dX11_thing_63 : decode cX11_thing 63 = .ok (.ifCond .eq 33, 3) := by decide +kernel
theorem dX11_thing_66 : decode cX11_thing 66 = .ok (.iload 6, 2) := by decide +kernel
theorem dX11_thing_68 : decode cX11_thing 68 = .ok (.i2l, 1) := by decide +kernel
theorem dX11_thing_69 : decode cX11_thing 69 = .ok (.lconst 0, 1) := by decide +kernel
theorem dX11_thing_70 : decode cX11_thing 70 = .ok (.ldc2_w 191, 3) := by decide +kernel
theorem dX11_thing_73 : decode cX11_thing 73 = .ok (.invokestatic 138, 3) := by decide +kernel
theorem dX11_thing_76 : decode cX11_thing 76 = .ok (.ifCond .eq 20, 3) := by decide +kernel
theorem dX11_thing_79 : decode cX11_thing 79 = .ok (.iload 7, 2) := by decide +kernel
theorem dX11_thing_81 : decode cX11_thing 81 = .ok (.i2l, 1) := by decide +kernel
theorem dX11_thing_82 : decode cX11_thing 82 = .ok (.aload_n 0, 1) := by decide +kernel
theorem dX11_thing_83 : decode cX11_thing 83 = .ok (.getfield 158, 3) := by decide +kernel
theorem dX11_thing_86 : decode cX11_thing 86 = .ok (.i2l, 1) := by decide +kernel
theorem dX11_thing_87 : decode cX11_thing 87 = .ok (.ldc2_w 193, 3) := by decide +kernel
theorem dX11_thing_90 : decode cX11_thing 90 = .ok (.invokestatic 138, 3) := by decide +kernel
theorem dX11_thing_93 : decode cX11_thing 93 = .ok (.ifCond .ne 7, 3) := by decide +kernel
theorem dX11_thing_96 : decode cX11_thing 96 = .ok (.sipush (-1002), 3) := by decide +kernel
theorem dX11_thing_99 : decode cX11_thing 99 = .ok (.ireturn, 1) := by decide +kernel
theorem dX11_thing_100 : decode cX11_thing 100 = .ok (.aload_n 0, 1) := by decide +kernel
theorem dX11_thing_101 : decode cX11_thing 101 = .ok (.getfield 182, 3) := by decide +kernel
theorem dX11_thing_104 : decode cX11_thing 104 = .ok (.bipush 10, 2) := by decide +kernel
theorem dX11_thing_106 : decode cX11_thing 106 = .ok (.if_icmp .ne 7, 3) := by decide +kernel
theorem dX11_thing_109 : decode cX11_thing 109 = .ok (.sipush (-1004), 3) := by decide +kernel
theorem dX11_thing_112 : decode cX11_thing 112 = .ok (.ireturn, 1) := by decide +kernel
theorem dX11_thing_113 : decode cX11_thing 113 = .ok (.aload_n 0, 1) := by decide +kernel
theorem dX11_thing_114 : decode cX11_thing 114 = .ok (.getfield 41, 3) := by decide +kernel
theorem dX11_thing_117 : decode cX11_thing 117 = .ok (.aload_n 0, 1) := by decide +kernel
theorem dX11_thing_118 : decode cX11_thing 118 = .ok (.getfield 182, 3) := by decide +kernel
theorem dX11_thing_121 : decode cX11_thing 121 = .ok (.iload_n 1, 1) := by decide +kernel
theorem dX11_thing_122 : decode cX11_thing 122 = .ok (.iastore, 1) := by decide +kernel
theorem dX11_thing_123 : decode cX11_thing 123 = .ok (.aload_n 0, 1) := by decide +kernel
theorem dX11_thing_124 : decode cX11_thing 124 = .ok (.getfield 44, 3) := by decide +kernel
theorem dX11_thing_127 : decode cX11_thing 127 = .ok (.aload_n 0, 1) := by decide +kernel
theorem dX11_thing_128 : decode cX11_thing 128 = .ok (.getfield 182, 3) := by decide +kernel
theorem dX11_thing_131 : decode cX11_thing 131 = .ok (.iload_n 2, 1) := by decide +kernel
theorem dX11_thing_132 : decode cX11_thing 132 = .ok (.iastore, 1) := by decide +kernel
theorem dX11_thing_133 : decode cX11_thing 133 = .ok (.aload_n 0, 1) := by decide +kernel
theorem dX11_thing_134 : decode cX11_thing 134 = .ok (.getfield 47, 3) := by decide +kernel
theorem dX11_thing_137 : decode cX11_thing 137 = .ok (.aload_n 0, 1) := by decide +kernel
theorem dX11_thing_138 : decode cX11_thing 138 = .ok (.getfield 182, 3) := by decide +kernel
theorem dX11_thing_141 : decode cX11_thing 141 = .ok (.iload_n 3, 1) := by decide +kernel
theorem dX11_thing_142 : decode cX11_thing 142 = .ok (.iastore, 1) := by decide +kernel
theorem dX11_thing_143 : decode cX11_thing 143 = .ok (.aload_n 0, 1) := by decide +kernel
theorem dX11_thing_144 : decode cX11_thing 144 = .ok (.getfield 50, 3) := by decide +kernel
theorem dX11_thing_147 : decode cX11_thing 147 = .ok (.aload_n 0, 1) := by decide +kernel
theorem dX11_thing_148 : decode cX11_thing 148 = .ok (.getfield 182, 3) := by decide +kernel
theorem dX11_thing_151 : decode cX11_thing 151 = .ok (.iload 4, 2) := by decide +kernel
theorem dX11_thing_153 : decode cX11_thing 153 = .ok (.iastore, 1) := by decide +kernel
theorem dX11_thing_154 : decode cX11_thing 154 = .ok (.aload_n 0, 1) := by decide +kernel
theorem dX11_thing_155 : decode cX11_thing 155 = .ok (.getfield 53, 3) := by decide +kernel
theorem dX11_thing_158 : decode cX11_thing 158 = .ok (.aload_n 0, 1) := by decide +kernel
theorem dX11_thing_159 : decode cX11_thing 159 = .ok (.getfield 182, 3) := by decide +kernel
theorem dX11_thing_162 : decode cX11_thing 162 = .ok (.iload 5, 2) := by decide +kernel
theorem dX11_thing_164 : decode cX11_thing 164 = .ok (.iastore, 1) := by decide +kernel
theorem dX11_thing_165 : decode cX11_thing 165 = .ok (.aload_n 0, 1) := by decide +kernel
theorem dX11_thing_166 : decode cX11_thing 166 = .ok (.getfield 56, 3) := by decide +kernel
theorem dX11_thing_169 : decode cX11_thing 169 = .ok (.aload_n 0, 1) := by decide +kernel
theorem dX11_thing_170 : decode cX11_thing 170 = .ok (.getfield 182, 3) := by decide +kernel
theorem dX11_thing_173 : decode cX11_thing 173 = .ok (.iload 6, 2) := by decide +kernel
theorem dX11_thing_175 : decode cX11_thing 175 = .ok (.iastore, 1) := by decide +kernel
theorem dX11_thing_176 : decode cX11_thing 176 = .ok (.aload_n 0, 1) := by decide +kernel
theorem dX11_thing_177 : decode cX11_thing 177 = .ok (.getfield 59, 3) := by decide +kernel
theorem dX11_thing_180 : decode cX11_thing 180 = .ok (.aload_n 0, 1) := by decide +kernel
theorem dX11_thing_181 : decode cX11_thing 181 = .ok (.getfield 182, 3) := by decide +kernel
theorem dX11_thing_184 : decode cX11_thing 184 = .ok (.iload 7, 2) := by decide +kernel
theorem dX11_thing_186 : decode cX11_thing 186 = .ok (.iastore, 1) := by decide +kernel
theorem dX11_thing_187 : decode cX11_thing 187 = .ok (.aload_n 0, 1) := by decide +kernel
theorem dX11_thing_188 : decode cX11_thing 188 = .ok (.getfield 62, 3) := by decide +kernel
theorem dX11_thing_191 : decode cX11_thing 191 = .ok (.aload_n 0, 1) := by decide +kernel
theorem dX11_thing_192 : decode cX11_thing 192 = .ok (.getfield 182, 3) := by decide +kernel
theorem dX11_thing_195 : decode cX11_thing 195 = .ok (.aload_n 0, 1) := by decide +kernel
theorem dX11_thing_196 : decode cX11_thing 196 = .ok (.getfield 158, 3) := by decide +kernel
theorem dX11_thing_199 : decode cX11_thing 199 = .ok (.iastore, 1) := by decide +kernel
theorem dX11_thing_200 : decode cX11_thing 200 = .ok (.aload_n 0, 1) := by decide +kernel
theorem dX11_thing_201 : decode cX11_thing 201 = .ok (.getfield 65, 3) := by decide +kernel
theorem dX11_thing_204 : decode cX11_thing 204 = .ok (.aload_n 0, 1) := by decide +kernel
theorem dX11_thing_205 : decode cX11_thing 205 = .ok (.getfield 182, 3) := by decide +kernel
theorem dX11_thing_208 : decode cX11_thing 208 = .ok (.iconst 0, 1) := by decide +kernel
theorem dX11_thing_209 : decode cX11_thing 209 = .ok (.bastore, 1) := by decide +kernel
theorem dX11_thing_210 : decode cX11_thing 210 = .ok (.aload_n 0, 1) := by decide +kernel
theorem dX11_thing_211 : decode cX11_thing 211 = .ok (.dup, 1) := by decide +kernel
theorem dX11_thing_212 : decode cX11_thing 212 = .ok (.getfield 182, 3) := by decide +kernel
theorem dX11_thing_215 : decode cX11_thing 215 = .ok (.iconst 1, 1) := by decide +kernel
theorem dX11_thing_216 : decode cX11_thing 216 = .ok (.iadd, 1) := by decide +kernel
theorem dX11_thing_217 : decode cX11_thing 217 = .ok (.putfield 182, 3) := by decide +kernel
theorem dX11_thing_220 : decode cX11_thing 220 = .ok (.aload_n 0, 1) := by decide +kernel
theorem dX11_thing_221 : decode cX11_thing 221 = .ok (.getfield 182, 3) := by decide +kernel
theorem dX11_thing_224 : decode cX11_thing 224 = .ok (.iconst 1, 1) := by decide +kernel
theorem dX11_thing_225 : decode cX11_thing 225 = .ok (.isub, 1) := by decide +kernel
theorem dX11_thing_226 : decode cX11_thing 226 = .ok (.ireturn, 1) := by decide +kernel
theorem dX11_sayingsOf_0 : decode cX11_sayingsOf 0 = .ok (.iconst 0, 1) := by decide +kernel
theorem dX11_sayingsOf_1 : decode cX11_sayingsOf 1 = .ok (.istore_n 2, 1) := by decide +kernel
theorem dX11_sayingsOf_2 : decode cX11_sayingsOf 2 = .ok (.iconst 0, 1) := by decide +kernel
theorem dX11_sayingsOf_3 : decode cX11_sayingsOf 3 = .ok (.istore_n 3, 1) := by decide +kernel
theorem dX11_sayingsOf_4 : decode cX11_sayingsOf 4 = .ok (.iload_n 3, 1) := by decide +kernel
theorem dX11_sayingsOf_5 : decode cX11_sayingsOf 5 = .ok (.aload_n 0, 1) := by decide +kernel
theorem dX11_sayingsOf_6 : decode cX11_sayingsOf 6 = .ok (.getfield 195, 3) := by decide +kernel
theorem dX11_sayingsOf_9 : decode cX11_sayingsOf 9 = .ok (.if_icmp .ge 22, 3) := by decide +kernel
theorem dX11_sayingsOf_12 : decode cX11_sayingsOf 12 = .ok (.iload_n 2, 1) := by decide +kernel
theorem dX11_sayingsOf_13 : decode cX11_sayingsOf 13 = .ok (.aload_n 0, 1) := by decide +kernel
theorem dX11_sayingsOf_14 : decode cX11_sayingsOf 14 = .ok (.getfield 124, 3) := by decide +kernel
theorem dX11_sayingsOf_17 : decode cX11_sayingsOf 17 = .ok (.iload_n 3, 1) := by decide +kernel
theorem dX11_sayingsOf_18 : decode cX11_sayingsOf 18 = .ok (.iaload, 1) := by decide +kernel
theorem dX11_sayingsOf_19 : decode cX11_sayingsOf 19 = .ok (.iload_n 1, 1) := by decide +kernel
theorem dX11_sayingsOf_20 : decode cX11_sayingsOf 20 = .ok (.ishr, 1) := by decide +kernel
theorem dX11_sayingsOf_21 : decode cX11_sayingsOf 21 = .ok (.iconst 1, 1) := by decide +kernel
theorem dX11_sayingsOf_22 : decode cX11_sayingsOf 22 = .ok (.iand, 1) := by decide +kernel
theorem dX11_sayingsOf_23 : decode cX11_sayingsOf 23 = .ok (.iadd, 1) := by decide +kernel
theorem dX11_sayingsOf_24 : decode cX11_sayingsOf 24 = .ok (.istore_n 2, 1) := by decide +kernel
theorem dX11_sayingsOf_25 : decode cX11_sayingsOf 25 = .ok (.iinc 3 1, 3) := by decide +kernel
theorem dX11_sayingsOf_28 : decode cX11_sayingsOf 28 = .ok (.goto (-24), 3) := by decide +kernel
theorem dX11_sayingsOf_31 : decode cX11_sayingsOf 31 = .ok (.iload_n 2, 1) := by decide +kernel
theorem dX11_sayingsOf_32 : decode cX11_sayingsOf 32 = .ok (.ireturn, 1) := by decide +kernel
theorem dX11_dead_0 : decode cX11_dead 0 = .ok (.aload_n 0, 1) := by decide +kernel
theorem dX11_dead_1 : decode cX11_dead 1 = .ok (.iload_n 1, 1) := by decide +kernel
theorem dX11_dead_2 : decode cX11_dead 2 = .ok (.invokevirtual 198, 3) := by decide +kernel
theorem dX11_dead_5 : decode cX11_dead 5 = .ok (.ifCond .ne 7, 3) := by decide +kernel
theorem dX11_dead_8 : decode cX11_dead 8 = .ok (.sipush (-1001), 3) := by decide +kernel
theorem dX11_dead_11 : decode cX11_dead 11 = .ok (.ireturn, 1) := by decide +kernel
theorem dX11_dead_12 : decode cX11_dead 12 = .ok (.aload_n 0, 1) := by decide +kernel
theorem dX11_dead_13 : decode cX11_dead 13 = .ok (.getfield 65, 3) := by decide +kernel
theorem dX11_dead_16 : decode cX11_dead 16 = .ok (.iload_n 1, 1) := by decide +kernel
theorem dX11_dead_17 : decode cX11_dead 17 = .ok (.baload, 1) := by decide +kernel
theorem dX11_dead_18 : decode cX11_dead 18 = .ok (.ifCond .eq 7, 3) := by decide +kernel
theorem dX11_dead_21 : decode cX11_dead 21 = .ok (.sipush (-1003), 3) := by decide +kernel
theorem dX11_dead_24 : decode cX11_dead 24 = .ok (.ireturn, 1) := by decide +kernel
theorem dX11_dead_25 : decode cX11_dead 25 = .ok (.aload_n 0, 1) := by decide +kernel
theorem dX11_dead_26 : decode cX11_dead 26 = .ok (.getfield 65, 3) := by decide +kernel
theorem dX11_dead_29 : decode cX11_dead 29 = .ok (.iload_n 1, 1) := by decide +kernel
theorem dX11_dead_30 : decode cX11_dead 30 = .ok (.iconst 1, 1) := by decide +kernel
theorem dX11_dead_31 : decode cX11_dead 31 = .ok (.bastore, 1) := by decide +kernel
theorem dX11_dead_32 : decode cX11_dead 32 = .ok (.aload_n 0, 1) := by decide +kernel
theorem dX11_dead_33 : decode cX11_dead 33 = .ok (.iload_n 1, 1) := by decide +kernel
theorem dX11_dead_34 : decode cX11_dead 34 = .ok (.invokevirtual 201, 3) := by decide +kernel
theorem dX11_dead_37 : decode cX11_dead 37 = .ok (.ireturn, 1) := by decide +kernel
theorem dX11_isTold_0 : decode cX11_isTold 0 = .ok (.iconst 0, 1) := by decide +kernel
theorem dX11_isTold_1 : decode cX11_isTold 1 = .ok (.istore_n 2, 1) := by decide +kernel
theorem dX11_isTold_2 : decode cX11_isTold 2 = .ok (.iconst 0, 1) := by decide +kernel
theorem dX11_isTold_3 : decode cX11_isTold 3 = .ok (.istore_n 3, 1) := by decide +kernel
theorem dX11_isTold_4 : decode cX11_isTold 4 = .ok (.iconst 0, 1) := by decide +kernel
theorem dX11_isTold_5 : decode cX11_isTold 5 = .ok (.istore 4, 2) := by decide +kernel
theorem dX11_isTold_7 : decode cX11_isTold 7 = .ok (.iload 4, 2) := by decide +kernel
theorem dX11_isTold_9 : decode cX11_isTold 9 = .ok (.aload_n 0, 1) := by decide +kernel
theorem dX11_isTold_10 : decode cX11_isTold 10 = .ok (.getfield 195, 3) := by decide +kernel
theorem dX11_isTold_13 : decode cX11_isTold 13 = .ok (.if_icmp .ge 89, 3) := by decide +kernel
theorem dX11_isTold_16 : decode cX11_isTold 16 = .ok (.aload_n 0, 1) := by decide +kernel
theorem dX11_isTold_17 : decode cX11_isTold 17 = .ok (.getfield 124, 3) := by decide +kernel
theorem dX11_isTold_20 : decode cX11_isTold 20 = .ok (.iload 4, 2) := by decide +kernel
theorem dX11_isTold_22 : decode cX11_isTold 22 = .ok (.iaload, 1) := by decide +kernel
theorem dX11_isTold_23 : decode cX11_isTold 23 = .ok (.iload_n 1, 1) := by decide +kernel
theorem dX11_isTold_24 : decode cX11_isTold 24 = .ok (.ishr, 1) := by decide +kernel
theorem dX11_isTold_25 : decode cX11_isTold 25 = .ok (.iconst 1, 1) := by decide +kernel
theorem dX11_isTold_26 : decode cX11_isTold 26 = .ok (.iand, 1) := by decide +kernel
theorem dX11_isTold_27 : decode cX11_isTold 27 = .ok (.iconst 1, 1) := by decide +kernel
theorem dX11_isTold_28 : decode cX11_isTold 28 = .ok (.if_icmp .ne 7, 3) := by decide +kernel
theorem dX11_isTold_31 : decode cX11_isTold 31 = .ok (.iconst 1, 1) := by decide +kernel
theorem dX11_isTold_32 : decode cX11_isTold 32 = .ok (.goto 4, 3) := by decide +kernel
theorem dX11_isTold_35 : decode cX11_isTold 35 = .ok (.iconst 0, 1) := by decide +kernel
theorem dX11_isTold_36 : decode cX11_isTold 36 = .ok (.istore 5, 2) := by decide +kernel
theorem dX11_isTold_38 : decode cX11_isTold 38 = .ok (.iload_n 2, 1) := by decide +kernel
theorem dX11_isTold_39 : decode cX11_isTold 39 = .ok (.ifCond .ne 19, 3) := by decide +kernel
theorem dX11_isTold_42 : decode cX11_isTold 42 = .ok (.iload 5, 2) := by decide +kernel
theorem dX11_isTold_44 : decode cX11_isTold 44 = .ok (.ifCond .eq 18, 3) := by decide +kernel
theorem dX11_isTold_47 : decode cX11_isTold 47 = .ok (.aload_n 0, 1) := by decide +kernel
theorem dX11_isTold_48 : decode cX11_isTold 48 = .ok (.getfield 133, 3) := by decide +kernel
theorem dX11_isTold_51 : decode cX11_isTold 51 = .ok (.iload 4, 2) := by decide +kernel
theorem dX11_isTold_53 : decode cX11_isTold 53 = .ok (.iaload, 1) := by decide +kernel
theorem dX11_isTold_54 : decode cX11_isTold 54 = .ok (.iconst 3, 1) := by decide +kernel
theorem dX11_isTold_55 : decode cX11_isTold 55 = .ok (.if_icmp .eq 7, 3) := by decide +kernel
theorem dX11_isTold_58 : decode cX11_isTold 58 = .ok (.iconst 1, 1) := by decide +kernel
theorem dX11_isTold_59 : decode cX11_isTold 59 = .ok (.goto 4, 3) := by decide +kernel
theorem dX11_isTold_62 : decode cX11_isTold 62 = .ok (.iconst 0, 1) := by decide +kernel
theorem dX11_isTold_63 : decode cX11_isTold 63 = .ok (.istore_n 2, 1) := by decide +kernel
theorem dX11_isTold_64 : decode cX11_isTold 64 = .ok (.iload_n 3, 1) := by decide +kernel
theorem dX11_isTold_65 : decode cX11_isTold 65 = .ok (.iload 5, 2) := by decide +kernel
theorem dX11_isTold_67 : decode cX11_isTold 67 = .ok (.ifCond .eq 26, 3) := by decide +kernel
theorem dX11_isTold_70 : decode cX11_isTold 70 = .ok (.aload_n 0, 1) := by decide +kernel
theorem dX11_isTold_71 : decode cX11_isTold 71 = .ok (.getfield 133, 3) := by decide +kernel
theorem dX11_isTold_74 : decode cX11_isTold 74 = .ok (.iload 4, 2) := by decide +kernel
theorem dX11_isTold_76 : decode cX11_isTold 76 = .ok (.iaload, 1) := by decide +kernel
theorem dX11_isTold_77 : decode cX11_isTold 77 = .ok (.iconst 1, 1) := by decide +kernel
theorem dX11_isTold_78 : decode cX11_isTold 78 = .ok (.if_icmp .ne 15, 3) := by decide +kernel
theorem dX11_isTold_81 : decode cX11_isTold 81 = .ok (.iconst 1, 1) := by decide +kernel
theorem dX11_isTold_82 : decode cX11_isTold 82 = .ok (.aload_n 0, 1) := by decide +kernel
theorem dX11_isTold_83 : decode cX11_isTold 83 = .ok (.getfield 121, 3) := by decide +kernel
theorem dX11_isTold_86 : decode cX11_isTold 86 = .ok (.iload 4, 2) := by decide +kernel
theorem dX11_isTold_88 : decode cX11_isTold 88 = .ok (.iaload, 1) := by decide +kernel
theorem dX11_isTold_89 : decode cX11_isTold 89 = .ok (.ishl, 1) := by decide +kernel
theorem dX11_isTold_90 : decode cX11_isTold 90 = .ok (.goto 4, 3) := by decide +kernel
theorem dX11_isTold_93 : decode cX11_isTold 93 = .ok (.iconst 0, 1) := by decide +kernel
theorem dX11_isTold_94 : decode cX11_isTold 94 = .ok (.ior, 1) := by decide +kernel
theorem dX11_isTold_95 : decode cX11_isTold 95 = .ok (.istore_n 3, 1) := by decide +kernel
theorem dX11_isTold_96 : decode cX11_isTold 96 = .ok (.iinc 4 1, 3) := by decide +kernel
theorem dX11_isTold_99 : decode cX11_isTold 99 = .ok (.goto (-92), 3) := by decide +kernel
theorem dX11_isTold_102 : decode cX11_isTold 102 = .ok (.aload_n 0, 1) := by decide +kernel
theorem dX11_isTold_103 : decode cX11_isTold 103 = .ok (.getfield 44, 3) := by decide +kernel
theorem dX11_isTold_106 : decode cX11_isTold 106 = .ok (.iload_n 1, 1) := by decide +kernel
theorem dX11_isTold_107 : decode cX11_isTold 107 = .ok (.iaload, 1) := by decide +kernel
theorem dX11_isTold_108 : decode cX11_isTold 108 = .ok (.iconst 3, 1) := by decide +kernel
theorem dX11_isTold_109 : decode cX11_isTold 109 = .ok (.if_icmp .ne 19, 3) := by decide +kernel
theorem dX11_isTold_112 : decode cX11_isTold 112 = .ok (.iload_n 3, 1) := by decide +kernel
theorem dX11_isTold_113 : decode cX11_isTold 113 = .ok (.iload_n 3, 1) := by decide +kernel
theorem dX11_isTold_114 : decode cX11_isTold 114 = .ok (.iconst 1, 1) := by decide +kernel
theorem dX11_isTold_115 : decode cX11_isTold 115 = .ok (.isub, 1) := by decide +kernel
theorem dX11_isTold_116 : decode cX11_isTold 116 = .ok (.iand, 1) := by decide +kernel
theorem dX11_isTold_117 : decode cX11_isTold 117 = .ok (.ifCond .eq 7, 3) := by decide +kernel
theorem dX11_isTold_120 : decode cX11_isTold 120 = .ok (.iconst 1, 1) := by decide +kernel
theorem dX11_isTold_121 : decode cX11_isTold 121 = .ok (.goto 8, 3) := by decide +kernel
theorem dX11_isTold_124 : decode cX11_isTold 124 = .ok (.iconst 0, 1) := by decide +kernel
theorem dX11_isTold_125 : decode cX11_isTold 125 = .ok (.goto 4, 3) := by decide +kernel
theorem dX11_isTold_128 : decode cX11_isTold 128 = .ok (.iload_n 2, 1) := by decide +kernel
theorem dX11_isTold_129 : decode cX11_isTold 129 = .ok (.ireturn, 1) := by decide +kernel
theorem dX11_stateOf_0 : decode cX11_stateOf 0 = .ok (.aload_n 0, 1) := by decide +kernel
theorem dX11_stateOf_1 : decode cX11_stateOf 1 = .ok (.getfield 65, 3) := by decide +kernel
theorem dX11_stateOf_4 : decode cX11_stateOf 4 = .ok (.iload_n 1, 1) := by decide +kernel
theorem dX11_stateOf_5 : decode cX11_stateOf 5 = .ok (.baload, 1) := by decide +kernel
theorem dX11_stateOf_6 : decode cX11_stateOf 6 = .ok (.ifCond .eq 7, 3) := by decide +kernel
theorem dX11_stateOf_9 : decode cX11_stateOf 9 = .ok (.iconst 2, 1) := by decide +kernel
theorem dX11_stateOf_10 : decode cX11_stateOf 10 = .ok (.goto 33, 3) := by decide +kernel
theorem dX11_stateOf_13 : decode cX11_stateOf 13 = .ok (.aload_n 0, 1) := by decide +kernel
theorem dX11_stateOf_14 : decode cX11_stateOf 14 = .ok (.iload_n 1, 1) := by decide +kernel
theorem dX11_stateOf_15 : decode cX11_stateOf 15 = .ok (.invokevirtual 205, 3) := by decide +kernel
theorem dX11_stateOf_18 : decode cX11_stateOf 18 = .ok (.ifCond .eq 7, 3) := by decide +kernel
theorem dX11_stateOf_21 : decode cX11_stateOf 21 = .ok (.iconst 1, 1) := by decide +kernel
theorem dX11_stateOf_22 : decode cX11_stateOf 22 = .ok (.goto 21, 3) := by decide +kernel
theorem dX11_stateOf_25 : decode cX11_stateOf 25 = .ok (.aload_n 0, 1) := by decide +kernel
theorem dX11_stateOf_26 : decode cX11_stateOf 26 = .ok (.getfield 59, 3) := by decide +kernel
theorem dX11_stateOf_29 : decode cX11_stateOf 29 = .ok (.iload_n 1, 1) := by decide +kernel
theorem dX11_stateOf_30 : decode cX11_stateOf 30 = .ok (.iaload, 1) := by decide +kernel
theorem dX11_stateOf_31 : decode cX11_stateOf 31 = .ok (.aload_n 0, 1) := by decide +kernel
theorem dX11_stateOf_32 : decode cX11_stateOf 32 = .ok (.getfield 158, 3) := by decide +kernel
theorem dX11_stateOf_35 : decode cX11_stateOf 35 = .ok (.if_icmp .ge 7, 3) := by decide +kernel
theorem dX11_stateOf_38 : decode cX11_stateOf 38 = .ok (.iconst 3, 1) := by decide +kernel
theorem dX11_stateOf_39 : decode cX11_stateOf 39 = .ok (.goto 4, 3) := by decide +kernel
theorem dX11_stateOf_42 : decode cX11_stateOf 42 = .ok (.iconst 0, 1) := by decide +kernel
theorem dX11_stateOf_43 : decode cX11_stateOf 43 = .ok (.ireturn, 1) := by decide +kernel
theorem dX11_told_0 : decode cX11_told 0 = .ok (.aload_n 0, 1) := by decide +kernel
theorem dX11_told_1 : decode cX11_told 1 = .ok (.iload_n 1, 1) := by decide +kernel
theorem dX11_told_2 : decode cX11_told 2 = .ok (.invokevirtual 198, 3) := by decide +kernel
theorem dX11_told_5 : decode cX11_told 5 = .ok (.ifCond .ne 7, 3) := by decide +kernel
theorem dX11_told_8 : decode cX11_told 8 = .ok (.sipush (-1001), 3) := by decide +kernel
theorem dX11_told_11 : decode cX11_told 11 = .ok (.ireturn, 1) := by decide +kernel
theorem dX11_told_12 : decode cX11_told 12 = .ok (.iload_n 2, 1) := by decide +kernel
theorem dX11_told_13 : decode cX11_told 13 = .ok (.tableswitch 101 0 7 #[47, 54, 61, 68, 75, 82, 88, 94], 47) := by decide +kernel
theorem dX11_told_60 : decode cX11_told 60 = .ok (.aload_n 0, 1) := by decide +kernel
theorem dX11_told_61 : decode cX11_told 61 = .ok (.getfield 41, 3) := by decide +kernel
theorem dX11_told_64 : decode cX11_told 64 = .ok (.iload_n 1, 1) := by decide +kernel
theorem dX11_told_65 : decode cX11_told 65 = .ok (.iaload, 1) := by decide +kernel
theorem dX11_told_66 : decode cX11_told 66 = .ok (.ireturn, 1) := by decide +kernel
theorem dX11_told_67 : decode cX11_told 67 = .ok (.aload_n 0, 1) := by decide +kernel
theorem dX11_told_68 : decode cX11_told 68 = .ok (.getfield 44, 3) := by decide +kernel
theorem dX11_told_71 : decode cX11_told 71 = .ok (.iload_n 1, 1) := by decide +kernel
theorem dX11_told_72 : decode cX11_told 72 = .ok (.iaload, 1) := by decide +kernel
theorem dX11_told_73 : decode cX11_told 73 = .ok (.ireturn, 1) := by decide +kernel
theorem dX11_told_74 : decode cX11_told 74 = .ok (.aload_n 0, 1) := by decide +kernel
theorem dX11_told_75 : decode cX11_told 75 = .ok (.getfield 47, 3) := by decide +kernel
theorem dX11_told_78 : decode cX11_told 78 = .ok (.iload_n 1, 1) := by decide +kernel
theorem dX11_told_79 : decode cX11_told 79 = .ok (.iaload, 1) := by decide +kernel
theorem dX11_told_80 : decode cX11_told 80 = .ok (.ireturn, 1) := by decide +kernel
theorem dX11_told_81 : decode cX11_told 81 = .ok (.aload_n 0, 1) := by decide +kernel
theorem dX11_told_82 : decode cX11_told 82 = .ok (.getfield 50, 3) := by decide +kernel
theorem dX11_told_85 : decode cX11_told 85 = .ok (.iload_n 1, 1) := by decide +kernel
theorem dX11_told_86 : decode cX11_told 86 = .ok (.iaload, 1) := by decide +kernel
theorem dX11_told_87 : decode cX11_told 87 = .ok (.ireturn, 1) := by decide +kernel
theorem dX11_told_88 : decode cX11_told 88 = .ok (.aload_n 0, 1) := by decide +kernel
theorem dX11_told_89 : decode cX11_told 89 = .ok (.getfield 59, 3) := by decide +kernel
theorem dX11_told_92 : decode cX11_told 92 = .ok (.iload_n 1, 1) := by decide +kernel
theorem dX11_told_93 : decode cX11_told 93 = .ok (.iaload, 1) := by decide +kernel
theorem dX11_told_94 : decode cX11_told 94 = .ok (.ireturn, 1) := by decide +kernel
theorem dX11_told_95 : decode cX11_told 95 = .ok (.aload_n 0, 1) := by decide +kernel
theorem dX11_told_96 : decode cX11_told 96 = .ok (.iload_n 1, 1) := by decide +kernel
theorem dX11_told_97 : decode cX11_told 97 = .ok (.invokevirtual 208, 3) := by decide +kernel
theorem dX11_told_100 : decode cX11_told 100 = .ok (.ireturn, 1) := by decide +kernel
theorem dX11_told_101 : decode cX11_told 101 = .ok (.aload_n 0, 1) := by decide +kernel
theorem dX11_told_102 : decode cX11_told 102 = .ok (.iload_n 1, 1) := by decide +kernel
theorem dX11_told_103 : decode cX11_told 103 = .ok (.invokevirtual 201, 3) := by decide +kernel
theorem dX11_told_106 : decode cX11_told 106 = .ok (.ireturn, 1) := by decide +kernel
theorem dX11_told_107 : decode cX11_told 107 = .ok (.aload_n 0, 1) := by decide +kernel
theorem dX11_told_108 : decode cX11_told 108 = .ok (.getfield 62, 3) := by decide +kernel
theorem dX11_told_111 : decode cX11_told 111 = .ok (.iload_n 1, 1) := by decide +kernel
theorem dX11_told_112 : decode cX11_told 112 = .ok (.iaload, 1) := by decide +kernel
theorem dX11_told_113 : decode cX11_told 113 = .ok (.ireturn, 1) := by decide +kernel
theorem dX11_told_114 : decode cX11_told 114 = .ok (.sipush (-1002), 3) := by decide +kernel
theorem dX11_told_117 : decode cX11_told 117 = .ok (.ireturn, 1) := by decide +kernel
theorem dX11_valueOf_0 : decode cX11_valueOf 0 = .ok (.aload_n 0, 1) := by decide +kernel
theorem dX11_valueOf_1 : decode cX11_valueOf 1 = .ok (.getfield 158, 3) := by decide +kernel
theorem dX11_valueOf_4 : decode cX11_valueOf 4 = .ok (.iload_n 3, 1) := by decide +kernel
theorem dX11_valueOf_5 : decode cX11_valueOf 5 = .ok (.iadd, 1) := by decide +kernel
theorem dX11_valueOf_6 : decode cX11_valueOf 6 = .ok (.istore 4, 2) := by decide +kernel
theorem dX11_valueOf_8 : decode cX11_valueOf 8 = .ok (.aload_n 0, 1) := by decide +kernel
theorem dX11_valueOf_9 : decode cX11_valueOf 9 = .ok (.getfield 53, 3) := by decide +kernel
theorem dX11_valueOf_12 : decode cX11_valueOf 12 = .ok (.iload_n 1, 1) := by decide +kernel
theorem dX11_valueOf_13 : decode cX11_valueOf 13 = .ok (.iaload, 1) := by decide +kernel
theorem dX11_valueOf_14 : decode cX11_valueOf 14 = .ok (.aload_n 0, 1) := by decide +kernel
theorem dX11_valueOf_15 : decode cX11_valueOf 15 = .ok (.getfield 56, 3) := by decide +kernel
theorem dX11_valueOf_18 : decode cX11_valueOf 18 = .ok (.iload_n 1, 1) := by decide +kernel
theorem dX11_valueOf_19 : decode cX11_valueOf 19 = .ok (.iaload, 1) := by decide +kernel
theorem dX11_valueOf_20 : decode cX11_valueOf 20 = .ok (.iload 4, 2) := by decide +kernel
theorem dX11_valueOf_22 : decode cX11_valueOf 22 = .ok (.aload_n 0, 1) := by decide +kernel
theorem dX11_valueOf_23 : decode cX11_valueOf 23 = .ok (.getfield 62, 3) := by decide +kernel
theorem dX11_valueOf_26 : decode cX11_valueOf 26 = .ok (.iload_n 1, 1) := by decide +kernel
theorem dX11_valueOf_27 : decode cX11_valueOf 27 = .ok (.iaload, 1) := by decide +kernel
theorem dX11_valueOf_28 : decode cX11_valueOf 28 = .ok (.isub, 1) := by decide +kernel
theorem dX11_valueOf_29 : decode cX11_valueOf 29 = .ok (.imul, 1) := by decide +kernel
theorem dX11_valueOf_30 : decode cX11_valueOf 30 = .ok (.isub, 1) := by decide +kernel
theorem dX11_valueOf_31 : decode cX11_valueOf 31 = .ok (.istore 5, 2) := by decide +kernel
theorem dX11_valueOf_33 : decode cX11_valueOf 33 = .ok (.aload_n 0, 1) := by decide +kernel
theorem dX11_valueOf_34 : decode cX11_valueOf 34 = .ok (.getfield 65, 3) := by decide +kernel
theorem dX11_valueOf_37 : decode cX11_valueOf 37 = .ok (.iload_n 1, 1) := by decide +kernel
theorem dX11_valueOf_38 : decode cX11_valueOf 38 = .ok (.baload, 1) := by decide +kernel
theorem dX11_valueOf_39 : decode cX11_valueOf 39 = .ok (.ifCond .ne 19, 3) := by decide +kernel
theorem dX11_valueOf_42 : decode cX11_valueOf 42 = .ok (.iload 4, 2) := by decide +kernel
theorem dX11_valueOf_44 : decode cX11_valueOf 44 = .ok (.aload_n 0, 1) := by decide +kernel
theorem dX11_valueOf_45 : decode cX11_valueOf 45 = .ok (.getfield 59, 3) := by decide +kernel
theorem dX11_valueOf_48 : decode cX11_valueOf 48 = .ok (.iload_n 1, 1) := by decide +kernel
theorem dX11_valueOf_49 : decode cX11_valueOf 49 = .ok (.iaload, 1) := by decide +kernel
theorem dX11_valueOf_50 : decode cX11_valueOf 50 = .ok (.if_icmp .gt 8, 3) := by decide +kernel
theorem dX11_valueOf_53 : decode cX11_valueOf 53 = .ok (.iload 5, 2) := by decide +kernel
theorem dX11_valueOf_55 : decode cX11_valueOf 55 = .ok (.ifCond .gt 5, 3) := by decide +kernel
theorem dX11_valueOf_58 : decode cX11_valueOf 58 = .ok (.iconst 0, 1) := by decide +kernel
theorem dX11_valueOf_59 : decode cX11_valueOf 59 = .ok (.ireturn, 1) := by decide +kernel
theorem dX11_valueOf_60 : decode cX11_valueOf 60 = .ok (.aload_n 0, 1) := by decide +kernel
theorem dX11_valueOf_61 : decode cX11_valueOf 61 = .ok (.getfield 44, 3) := by decide +kernel
theorem dX11_valueOf_64 : decode cX11_valueOf 64 = .ok (.iload_n 1, 1) := by decide +kernel
theorem dX11_valueOf_65 : decode cX11_valueOf 65 = .ok (.iaload, 1) := by decide +kernel
theorem dX11_valueOf_66 : decode cX11_valueOf 66 = .ok (.iconst 2, 1) := by decide +kernel
theorem dX11_valueOf_67 : decode cX11_valueOf 67 = .ok (.if_icmp .ne 26, 3) := by decide +kernel
theorem dX11_valueOf_70 : decode cX11_valueOf 70 = .ok (.iload 5, 2) := by decide +kernel
theorem dX11_valueOf_72 : decode cX11_valueOf 72 = .ok (.i2l, 1) := by decide +kernel
theorem dX11_valueOf_73 : decode cX11_valueOf 73 = .ok (.aload_n 0, 1) := by decide +kernel
theorem dX11_valueOf_74 : decode cX11_valueOf 74 = .ok (.iload_n 2, 1) := by decide +kernel
theorem dX11_valueOf_75 : decode cX11_valueOf 75 = .ok (.aload_n 0, 1) := by decide +kernel
theorem dX11_valueOf_76 : decode cX11_valueOf 76 = .ok (.getfield 158, 3) := by decide +kernel
theorem dX11_valueOf_79 : decode cX11_valueOf 79 = .ok (.iload_n 3, 1) := by decide +kernel
theorem dX11_valueOf_80 : decode cX11_valueOf 80 = .ok (.invokevirtual 179, 3) := by decide +kernel
theorem dX11_valueOf_83 : decode cX11_valueOf 83 = .ok (.i2l, 1) := by decide +kernel
theorem dX11_valueOf_84 : decode cX11_valueOf 84 = .ok (.lmul, 1) := by decide +kernel
theorem dX11_valueOf_85 : decode cX11_valueOf 85 = .ok (.ldc2_w 171, 3) := by decide +kernel
theorem dX11_valueOf_88 : decode cX11_valueOf 88 = .ok (.ldiv, 1) := by decide +kernel
theorem dX11_valueOf_89 : decode cX11_valueOf 89 = .ok (.l2i, 1) := by decide +kernel
theorem dX11_valueOf_90 : decode cX11_valueOf 90 = .ok (.goto 5, 3) := by decide +kernel
theorem dX11_valueOf_93 : decode cX11_valueOf 93 = .ok (.iload 5, 2) := by decide +kernel
theorem dX11_valueOf_95 : decode cX11_valueOf 95 = .ok (.ireturn, 1) := by decide +kernel
theorem dX11_value_0 : decode cX11_value 0 = .ok (.aload_n 0, 1) := by decide +kernel
theorem dX11_value_1 : decode cX11_value 1 = .ok (.iload_n 1, 1) := by decide +kernel
theorem dX11_value_2 : decode cX11_value 2 = .ok (.invokevirtual 198, 3) := by decide +kernel
theorem dX11_value_5 : decode cX11_value 5 = .ok (.ifCond .eq 10, 3) := by decide +kernel
theorem dX11_value_8 : decode cX11_value 8 = .ok (.iload_n 2, 1) := by decide +kernel
theorem dX11_value_9 : decode cX11_value 9 = .ok (.invokestatic 153, 3) := by decide +kernel
theorem dX11_value_12 : decode cX11_value 12 = .ok (.ifCond .ne 7, 3) := by decide +kernel
theorem dX11_value_15 : decode cX11_value 15 = .ok (.sipush (-1001), 3) := by decide +kernel
theorem dX11_value_18 : decode cX11_value 18 = .ok (.ireturn, 1) := by decide +kernel
theorem dX11_value_19 : decode cX11_value 19 = .ok (.iload_n 3, 1) := by decide +kernel
theorem dX11_value_20 : decode cX11_value 20 = .ok (.i2l, 1) := by decide +kernel
theorem dX11_value_21 : decode cX11_value 21 = .ok (.lconst 0, 1) := by decide +kernel
theorem dX11_value_22 : decode cX11_value 22 = .ok (.ldc2_w 177, 3) := by decide +kernel
theorem dX11_value_25 : decode cX11_value 25 = .ok (.invokestatic 138, 3) := by decide +kernel
theorem dX11_value_28 : decode cX11_value 28 = .ok (.ifCond .eq 13, 3) := by decide +kernel
theorem dX11_value_31 : decode cX11_value 31 = .ok (.aload_n 0, 1) := by decide +kernel
theorem dX11_value_32 : decode cX11_value 32 = .ok (.iload_n 1, 1) := by decide +kernel
theorem dX11_value_33 : decode cX11_value 33 = .ok (.iload_n 2, 1) := by decide +kernel
theorem dX11_value_34 : decode cX11_value 34 = .ok (.iload_n 3, 1) := by decide +kernel
theorem dX11_value_35 : decode cX11_value 35 = .ok (.invokevirtual 211, 3) := by decide +kernel
theorem dX11_value_38 : decode cX11_value 38 = .ok (.goto 6, 3) := by decide +kernel
theorem dX11_value_41 : decode cX11_value 41 = .ok (.sipush (-1002), 3) := by decide +kernel
theorem dX11_value_44 : decode cX11_value 44 = .ok (.ireturn, 1) := by decide +kernel
theorem dX11_isWay_0 : decode cX11_isWay 0 = .ok (.iload_n 0, 1) := by decide +kernel
theorem dX11_isWay_1 : decode cX11_isWay 1 = .ok (.i2l, 1) := by decide +kernel
theorem dX11_isWay_2 : decode cX11_isWay 2 = .ok (.lconst 0, 1) := by decide +kernel
theorem dX11_isWay_3 : decode cX11_isWay 3 = .ok (.ldc2_w 136, 3) := by decide +kernel
theorem dX11_isWay_6 : decode cX11_isWay 6 = .ok (.invokestatic 138, 3) := by decide +kernel
theorem dX11_isWay_9 : decode cX11_isWay 9 = .ok (.ireturn, 1) := by decide +kernel
theorem dX11_cost_0 : decode cX11_cost 0 = .ok (.iload_n 1, 1) := by decide +kernel
theorem dX11_cost_1 : decode cX11_cost 1 = .ok (.invokestatic 214, 3) := by decide +kernel
theorem dX11_cost_4 : decode cX11_cost 4 = .ok (.ifCond .eq 22, 3) := by decide +kernel
theorem dX11_cost_7 : decode cX11_cost 7 = .ok (.iload_n 2, 1) := by decide +kernel
theorem dX11_cost_8 : decode cX11_cost 8 = .ok (.invokestatic 142, 3) := by decide +kernel
theorem dX11_cost_11 : decode cX11_cost 11 = .ok (.ifCond .eq 15, 3) := by decide +kernel
theorem dX11_cost_14 : decode cX11_cost 14 = .ok (.iload_n 3, 1) := by decide +kernel
theorem dX11_cost_15 : decode cX11_cost 15 = .ok (.i2l, 1) := by decide +kernel
theorem dX11_cost_16 : decode cX11_cost 16 = .ok (.lconst 0, 1) := by decide +kernel
theorem dX11_cost_17 : decode cX11_cost 17 = .ok (.ldc2_w 189, 3) := by decide +kernel
theorem dX11_cost_20 : decode cX11_cost 20 = .ok (.invokestatic 138, 3) := by decide +kernel
theorem dX11_cost_23 : decode cX11_cost 23 = .ok (.ifCond .ne 7, 3) := by decide +kernel
theorem dX11_cost_26 : decode cX11_cost 26 = .ok (.sipush (-1002), 3) := by decide +kernel
theorem dX11_cost_29 : decode cX11_cost 29 = .ok (.ireturn, 1) := by decide +kernel
theorem dX11_cost_30 : decode cX11_cost 30 = .ok (.aload_n 0, 1) := by decide +kernel
theorem dX11_cost_31 : decode cX11_cost 31 = .ok (.getfield 69, 3) := by decide +kernel
theorem dX11_cost_34 : decode cX11_cost 34 = .ok (.iconst 4, 1) := by decide +kernel
theorem dX11_cost_35 : decode cX11_cost 35 = .ok (.iload_n 1, 1) := by decide +kernel
theorem dX11_cost_36 : decode cX11_cost 36 = .ok (.imul, 1) := by decide +kernel
theorem dX11_cost_37 : decode cX11_cost 37 = .ok (.iload_n 2, 1) := by decide +kernel
theorem dX11_cost_38 : decode cX11_cost 38 = .ok (.iadd, 1) := by decide +kernel
theorem dX11_cost_39 : decode cX11_cost 39 = .ok (.iaload, 1) := by decide +kernel
theorem dX11_cost_40 : decode cX11_cost 40 = .ok (.istore 4, 2) := by decide +kernel
theorem dX11_cost_42 : decode cX11_cost 42 = .ok (.aload_n 0, 1) := by decide +kernel
theorem dX11_cost_43 : decode cX11_cost 43 = .ok (.getfield 69, 3) := by decide +kernel
theorem dX11_cost_46 : decode cX11_cost 46 = .ok (.iconst 4, 1) := by decide +kernel
theorem dX11_cost_47 : decode cX11_cost 47 = .ok (.iload_n 1, 1) := by decide +kernel
theorem dX11_cost_48 : decode cX11_cost 48 = .ok (.imul, 1) := by decide +kernel
theorem dX11_cost_49 : decode cX11_cost 49 = .ok (.iload_n 2, 1) := by decide +kernel
theorem dX11_cost_50 : decode cX11_cost 50 = .ok (.iadd, 1) := by decide +kernel
theorem dX11_cost_51 : decode cX11_cost 51 = .ok (.iload_n 3, 1) := by decide +kernel
theorem dX11_cost_52 : decode cX11_cost 52 = .ok (.iastore, 1) := by decide +kernel
theorem dX11_cost_53 : decode cX11_cost 53 = .ok (.iload 4, 2) := by decide +kernel
theorem dX11_cost_55 : decode cX11_cost 55 = .ok (.ireturn, 1) := by decide +kernel
theorem dX11_seen_0 : decode cX11_seen 0 = .ok (.iload_n 1, 1) := by decide +kernel
theorem dX11_seen_1 : decode cX11_seen 1 = .ok (.invokestatic 214, 3) := by decide +kernel
theorem dX11_seen_4 : decode cX11_seen 4 = .ok (.ifCond .eq 15, 3) := by decide +kernel
theorem dX11_seen_7 : decode cX11_seen 7 = .ok (.iload_n 2, 1) := by decide +kernel
theorem dX11_seen_8 : decode cX11_seen 8 = .ok (.i2l, 1) := by decide +kernel
theorem dX11_seen_9 : decode cX11_seen 9 = .ok (.lconst 0, 1) := by decide +kernel
theorem dX11_seen_10 : decode cX11_seen 10 = .ok (.ldc2_w 217, 3) := by decide +kernel
theorem dX11_seen_13 : decode cX11_seen 13 = .ok (.invokestatic 138, 3) := by decide +kernel
theorem dX11_seen_16 : decode cX11_seen 16 = .ok (.ifCond .ne 7, 3) := by decide +kernel
theorem dX11_seen_19 : decode cX11_seen 19 = .ok (.sipush (-1002), 3) := by decide +kernel
theorem dX11_seen_22 : decode cX11_seen 22 = .ok (.ireturn, 1) := by decide +kernel
theorem dX11_seen_23 : decode cX11_seen 23 = .ok (.aload_n 0, 1) := by decide +kernel
theorem dX11_seen_24 : decode cX11_seen 24 = .ok (.getfield 72, 3) := by decide +kernel
theorem dX11_seen_27 : decode cX11_seen 27 = .ok (.iload_n 1, 1) := by decide +kernel
theorem dX11_seen_28 : decode cX11_seen 28 = .ok (.iaload, 1) := by decide +kernel
theorem dX11_seen_29 : decode cX11_seen 29 = .ok (.istore_n 3, 1) := by decide +kernel
theorem dX11_seen_30 : decode cX11_seen 30 = .ok (.aload_n 0, 1) := by decide +kernel
theorem dX11_seen_31 : decode cX11_seen 31 = .ok (.getfield 72, 3) := by decide +kernel
theorem dX11_seen_34 : decode cX11_seen 34 = .ok (.iload_n 1, 1) := by decide +kernel
theorem dX11_seen_35 : decode cX11_seen 35 = .ok (.iload_n 2, 1) := by decide +kernel
theorem dX11_seen_36 : decode cX11_seen 36 = .ok (.iastore, 1) := by decide +kernel
theorem dX11_seen_37 : decode cX11_seen 37 = .ok (.iload_n 3, 1) := by decide +kernel
theorem dX11_seen_38 : decode cX11_seen 38 = .ok (.ireturn, 1) := by decide +kernel
theorem dX11_lossOf_0 : decode cX11_lossOf 0 = .ok (.aload_n 0, 1) := by decide +kernel
theorem dX11_lossOf_1 : decode cX11_lossOf 1 = .ok (.iload_n 1, 1) := by decide +kernel
theorem dX11_lossOf_2 : decode cX11_lossOf 2 = .ok (.iload_n 3, 1) := by decide +kernel
theorem dX11_lossOf_3 : decode cX11_lossOf 3 = .ok (.iload 4, 2) := by decide +kernel
theorem dX11_lossOf_5 : decode cX11_lossOf 5 = .ok (.invokevirtual 173, 3) := by decide +kernel
theorem dX11_lossOf_8 : decode cX11_lossOf 8 = .ok (.iconst 0, 1) := by decide +kernel
theorem dX11_lossOf_9 : decode cX11_lossOf 9 = .ok (.istore 5, 2) := by decide +kernel
theorem dX11_lossOf_11 : decode cX11_lossOf 11 = .ok (.iconst 0, 1) := by decide +kernel
theorem dX11_lossOf_12 : decode cX11_lossOf 12 = .ok (.istore 6, 2) := by decide +kernel
theorem dX11_lossOf_14 : decode cX11_lossOf 14 = .ok (.iload 6, 2) := by decide +kernel
theorem dX11_lossOf_16 : decode cX11_lossOf 16 = .ok (.iconst 4, 1) := by decide +kernel
theorem dX11_lossOf_17 : decode cX11_lossOf 17 = .ok (.if_icmp .ge 36, 3) := by decide +kernel
theorem dX11_lossOf_20 : decode cX11_lossOf 20 = .ok (.iload 5, 2) := by decide +kernel
theorem dX11_lossOf_22 : decode cX11_lossOf 22 = .ok (.aload_n 0, 1) := by decide +kernel
theorem dX11_lossOf_23 : decode cX11_lossOf 23 = .ok (.getfield 35, 3) := by decide +kernel
theorem dX11_lossOf_26 : decode cX11_lossOf 26 = .ok (.iload 6, 2) := by decide +kernel
theorem dX11_lossOf_28 : decode cX11_lossOf 28 = .ok (.iaload, 1) := by decide +kernel
theorem dX11_lossOf_29 : decode cX11_lossOf 29 = .ok (.aload_n 0, 1) := by decide +kernel
theorem dX11_lossOf_30 : decode cX11_lossOf 30 = .ok (.getfield 69, 3) := by decide +kernel
theorem dX11_lossOf_33 : decode cX11_lossOf 33 = .ok (.iconst 4, 1) := by decide +kernel
theorem dX11_lossOf_34 : decode cX11_lossOf 34 = .ok (.iload_n 2, 1) := by decide +kernel
theorem dX11_lossOf_35 : decode cX11_lossOf 35 = .ok (.imul, 1) := by decide +kernel
theorem dX11_lossOf_36 : decode cX11_lossOf 36 = .ok (.iload 6, 2) := by decide +kernel
theorem dX11_lossOf_38 : decode cX11_lossOf 38 = .ok (.iadd, 1) := by decide +kernel
theorem dX11_lossOf_39 : decode cX11_lossOf 39 = .ok (.iaload, 1) := by decide +kernel
theorem dX11_lossOf_40 : decode cX11_lossOf 40 = .ok (.imul, 1) := by decide +kernel
theorem dX11_lossOf_41 : decode cX11_lossOf 41 = .ok (.ldc 219, 2) := by decide +kernel
theorem dX11_lossOf_43 : decode cX11_lossOf 43 = .ok (.idiv, 1) := by decide +kernel
theorem dX11_lossOf_44 : decode cX11_lossOf 44 = .ok (.iadd, 1) := by decide +kernel
theorem dX11_lossOf_45 : decode cX11_lossOf 45 = .ok (.istore 5, 2) := by decide +kernel
theorem dX11_lossOf_47 : decode cX11_lossOf 47 = .ok (.iinc 6 1, 3) := by decide +kernel
theorem dX11_lossOf_50 : decode cX11_lossOf 50 = .ok (.goto (-36), 3) := by decide +kernel
theorem dX11_lossOf_53 : decode cX11_lossOf 53 = .ok (.iload 5, 2) := by decide +kernel
theorem dX11_lossOf_55 : decode cX11_lossOf 55 = .ok (.ireturn, 1) := by decide +kernel
theorem dX11_loss_0 : decode cX11_loss 0 = .ok (.iload_n 1, 1) := by decide +kernel
theorem dX11_loss_1 : decode cX11_loss 1 = .ok (.invokestatic 153, 3) := by decide +kernel
theorem dX11_loss_4 : decode cX11_loss 4 = .ok (.ifCond .ne 7, 3) := by decide +kernel
theorem dX11_loss_7 : decode cX11_loss 7 = .ok (.sipush (-1001), 3) := by decide +kernel
theorem dX11_loss_10 : decode cX11_loss 10 = .ok (.ireturn, 1) := by decide +kernel
theorem dX11_loss_11 : decode cX11_loss 11 = .ok (.iload_n 2, 1) := by decide +kernel
theorem dX11_loss_12 : decode cX11_loss 12 = .ok (.invokestatic 214, 3) := by decide +kernel
theorem dX11_loss_15 : decode cX11_loss 15 = .ok (.ifCond .eq 29, 3) := by decide +kernel
theorem dX11_loss_18 : decode cX11_loss 18 = .ok (.iload_n 3, 1) := by decide +kernel
theorem dX11_loss_19 : decode cX11_loss 19 = .ok (.i2l, 1) := by decide +kernel
theorem dX11_loss_20 : decode cX11_loss 20 = .ok (.lconst 0, 1) := by decide +kernel
theorem dX11_loss_21 : decode cX11_loss 21 = .ok (.ldc2_w 177, 3) := by decide +kernel
theorem dX11_loss_24 : decode cX11_loss 24 = .ok (.invokestatic 138, 3) := by decide +kernel
theorem dX11_loss_27 : decode cX11_loss 27 = .ok (.ifCond .eq 17, 3) := by decide +kernel
theorem dX11_loss_30 : decode cX11_loss 30 = .ok (.aload_n 0, 1) := by decide +kernel
theorem dX11_loss_31 : decode cX11_loss 31 = .ok (.iload_n 1, 1) := by decide +kernel
theorem dX11_loss_32 : decode cX11_loss 32 = .ok (.iload_n 2, 1) := by decide +kernel
theorem dX11_loss_33 : decode cX11_loss 33 = .ok (.aload_n 0, 1) := by decide +kernel
theorem dX11_loss_34 : decode cX11_loss 34 = .ok (.getfield 158, 3) := by decide +kernel
theorem dX11_loss_37 : decode cX11_loss 37 = .ok (.iload_n 3, 1) := by decide +kernel
theorem dX11_loss_38 : decode cX11_loss 38 = .ok (.invokevirtual 220, 3) := by decide +kernel
theorem dX11_loss_41 : decode cX11_loss 41 = .ok (.goto 6, 3) := by decide +kernel
theorem dX11_loss_44 : decode cX11_loss 44 = .ok (.sipush (-1002), 3) := by decide +kernel
theorem dX11_loss_47 : decode cX11_loss 47 = .ok (.ireturn, 1) := by decide +kernel
theorem dX11_thingsThat_0 : decode cX11_thingsThat 0 = .ok (.iconst 0, 1) := by decide +kernel
theorem dX11_thingsThat_1 : decode cX11_thingsThat 1 = .ok (.istore_n 2, 1) := by decide +kernel
theorem dX11_thingsThat_2 : decode cX11_thingsThat 2 = .ok (.iconst 0, 1) := by decide +kernel
theorem dX11_thingsThat_3 : decode cX11_thingsThat 3 = .ok (.istore_n 3, 1) := by decide +kernel
theorem dX11_thingsThat_4 : decode cX11_thingsThat 4 = .ok (.iload_n 3, 1) := by decide +kernel
theorem dX11_thingsThat_5 : decode cX11_thingsThat 5 = .ok (.aload_n 0, 1) := by decide +kernel
theorem dX11_thingsThat_6 : decode cX11_thingsThat 6 = .ok (.getfield 182, 3) := by decide +kernel
theorem dX11_thingsThat_9 : decode cX11_thingsThat 9 = .ok (.if_icmp .ge 26, 3) := by decide +kernel
theorem dX11_thingsThat_12 : decode cX11_thingsThat 12 = .ok (.iload_n 2, 1) := by decide +kernel
theorem dX11_thingsThat_13 : decode cX11_thingsThat 13 = .ok (.aload_n 0, 1) := by decide +kernel
theorem dX11_thingsThat_14 : decode cX11_thingsThat 14 = .ok (.iload_n 3, 1) := by decide +kernel
theorem dX11_thingsThat_15 : decode cX11_thingsThat 15 = .ok (.invokevirtual 208, 3) := by decide +kernel
theorem dX11_thingsThat_18 : decode cX11_thingsThat 18 = .ok (.iload_n 1, 1) := by decide +kernel
theorem dX11_thingsThat_19 : decode cX11_thingsThat 19 = .ok (.if_icmp .ne 7, 3) := by decide +kernel
theorem dX11_thingsThat_22 : decode cX11_thingsThat 22 = .ok (.iconst 1, 1) := by decide +kernel
theorem dX11_thingsThat_23 : decode cX11_thingsThat 23 = .ok (.goto 4, 3) := by decide +kernel
theorem dX11_thingsThat_26 : decode cX11_thingsThat 26 = .ok (.iconst 0, 1) := by decide +kernel
theorem dX11_thingsThat_27 : decode cX11_thingsThat 27 = .ok (.iadd, 1) := by decide +kernel
theorem dX11_thingsThat_28 : decode cX11_thingsThat 28 = .ok (.istore_n 2, 1) := by decide +kernel
theorem dX11_thingsThat_29 : decode cX11_thingsThat 29 = .ok (.iinc 3 1, 3) := by decide +kernel
theorem dX11_thingsThat_32 : decode cX11_thingsThat 32 = .ok (.goto (-28), 3) := by decide +kernel
theorem dX11_thingsThat_35 : decode cX11_thingsThat 35 = .ok (.iload_n 2, 1) := by decide +kernel
theorem dX11_thingsThat_36 : decode cX11_thingsThat 36 = .ok (.ireturn, 1) := by decide +kernel
theorem dX11_count_0 : decode cX11_count 0 = .ok (.iload_n 1, 1) := by decide +kernel
theorem dX11_count_1 : decode cX11_count 1 = .ok (.tableswitch 91 0 7 #[47, 52, 57, 63, 69, 75, 81, 86], 47) := by decide +kernel
theorem dX11_count_48 : decode cX11_count 48 = .ok (.aload_n 0, 1) := by decide +kernel
theorem dX11_count_49 : decode cX11_count 49 = .ok (.getfield 158, 3) := by decide +kernel
theorem dX11_count_52 : decode cX11_count 52 = .ok (.ireturn, 1) := by decide +kernel
theorem dX11_count_53 : decode cX11_count 53 = .ok (.aload_n 0, 1) := by decide +kernel
theorem dX11_count_54 : decode cX11_count 54 = .ok (.getfield 182, 3) := by decide +kernel
theorem dX11_count_57 : decode cX11_count 57 = .ok (.ireturn, 1) := by decide +kernel
theorem dX11_count_58 : decode cX11_count 58 = .ok (.aload_n 0, 1) := by decide +kernel
theorem dX11_count_59 : decode cX11_count 59 = .ok (.iconst 0, 1) := by decide +kernel
theorem dX11_count_60 : decode cX11_count 60 = .ok (.invokevirtual 224, 3) := by decide +kernel
theorem dX11_count_63 : decode cX11_count 63 = .ok (.ireturn, 1) := by decide +kernel
theorem dX11_count_64 : decode cX11_count 64 = .ok (.aload_n 0, 1) := by decide +kernel
theorem dX11_count_65 : decode cX11_count 65 = .ok (.iconst 1, 1) := by decide +kernel
theorem dX11_count_66 : decode cX11_count 66 = .ok (.invokevirtual 224, 3) := by decide +kernel
theorem dX11_count_69 : decode cX11_count 69 = .ok (.ireturn, 1) := by decide +kernel
theorem dX11_count_70 : decode cX11_count 70 = .ok (.aload_n 0, 1) := by decide +kernel
theorem dX11_count_71 : decode cX11_count 71 = .ok (.iconst 2, 1) := by decide +kernel
theorem dX11_count_72 : decode cX11_count 72 = .ok (.invokevirtual 224, 3) := by decide +kernel
theorem dX11_count_75 : decode cX11_count 75 = .ok (.ireturn, 1) := by decide +kernel
theorem dX11_count_76 : decode cX11_count 76 = .ok (.aload_n 0, 1) := by decide +kernel
theorem dX11_count_77 : decode cX11_count 77 = .ok (.iconst 3, 1) := by decide +kernel
theorem dX11_count_78 : decode cX11_count 78 = .ok (.invokevirtual 224, 3) := by decide +kernel
theorem dX11_count_81 : decode cX11_count 81 = .ok (.ireturn, 1) := by decide +kernel
theorem dX11_count_82 : decode cX11_count 82 = .ok (.aload_n 0, 1) := by decide +kernel
theorem dX11_count_83 : decode cX11_count 83 = .ok (.getfield 195, 3) := by decide +kernel
theorem dX11_count_86 : decode cX11_count 86 = .ok (.ireturn, 1) := by decide +kernel
theorem dX11_count_87 : decode cX11_count 87 = .ok (.aload_n 0, 1) := by decide +kernel
theorem dX11_count_88 : decode cX11_count 88 = .ok (.getfield 227, 3) := by decide +kernel
theorem dX11_count_91 : decode cX11_count 91 = .ok (.ireturn, 1) := by decide +kernel
theorem dX11_count_92 : decode cX11_count 92 = .ok (.sipush (-1002), 3) := by decide +kernel
theorem dX11_count_95 : decode cX11_count 95 = .ok (.ireturn, 1) := by decide +kernel
theorem dX11_feed_0 : decode cX11_feed 0 = .ok (.iload_n 1, 1) := by decide +kernel
theorem dX11_feed_1 : decode cX11_feed 1 = .ok (.i2l, 1) := by decide +kernel
theorem dX11_feed_2 : decode cX11_feed 2 = .ok (.lconst 1, 1) := by decide +kernel
theorem dX11_feed_3 : decode cX11_feed 3 = .ok (.ldc2_w 177, 3) := by decide +kernel
theorem dX11_feed_6 : decode cX11_feed 6 = .ok (.invokestatic 138, 3) := by decide +kernel
theorem dX11_feed_9 : decode cX11_feed 9 = .ok (.ifCond .ne 7, 3) := by decide +kernel
theorem dX11_feed_12 : decode cX11_feed 12 = .ok (.sipush (-1002), 3) := by decide +kernel
theorem dX11_feed_15 : decode cX11_feed 15 = .ok (.ireturn, 1) := by decide +kernel
theorem dX11_feed_16 : decode cX11_feed 16 = .ok (.aload_n 0, 1) := by decide +kernel
theorem dX11_feed_17 : decode cX11_feed 17 = .ok (.getfield 227, 3) := by decide +kernel
theorem dX11_feed_20 : decode cX11_feed 20 = .ok (.iload_n 1, 1) := by decide +kernel
theorem dX11_feed_21 : decode cX11_feed 21 = .ok (.iadd, 1) := by decide +kernel
theorem dX11_feed_22 : decode cX11_feed 22 = .ok (.sipush 160, 3) := by decide +kernel
theorem dX11_feed_25 : decode cX11_feed 25 = .ok (.if_icmp .le 7, 3) := by decide +kernel
theorem dX11_feed_28 : decode cX11_feed 28 = .ok (.sipush (-1004), 3) := by decide +kernel
theorem dX11_feed_31 : decode cX11_feed 31 = .ok (.ireturn, 1) := by decide +kernel
theorem dX11_feed_32 : decode cX11_feed 32 = .ok (.iload_n 1, 1) := by decide +kernel
theorem dX11_feed_33 : decode cX11_feed 33 = .ok (.iconst 1, 1) := by decide +kernel
theorem dX11_feed_34 : decode cX11_feed 34 = .ok (.isub, 1) := by decide +kernel
theorem dX11_feed_35 : decode cX11_feed 35 = .ok (.istore 4, 2) := by decide +kernel
theorem dX11_feed_37 : decode cX11_feed 37 = .ok (.iload 4, 2) := by decide +kernel
theorem dX11_feed_39 : decode cX11_feed 39 = .ok (.ifCond .lt 40, 3) := by decide +kernel
theorem dX11_feed_42 : decode cX11_feed 42 = .ok (.aload_n 0, 1) := by decide +kernel
theorem dX11_feed_43 : decode cX11_feed 43 = .ok (.getfield 102, 3) := by decide +kernel
theorem dX11_feed_46 : decode cX11_feed 46 = .ok (.aload_n 0, 1) := by decide +kernel
theorem dX11_feed_47 : decode cX11_feed 47 = .ok (.getfield 227, 3) := by decide +kernel
theorem dX11_feed_50 : decode cX11_feed 50 = .ok (.lload_n 2, 1) := by decide +kernel
theorem dX11_feed_51 : decode cX11_feed 51 = .ok (.bipush 8, 2) := by decide +kernel
theorem dX11_feed_53 : decode cX11_feed 53 = .ok (.iload 4, 2) := by decide +kernel
theorem dX11_feed_55 : decode cX11_feed 55 = .ok (.imul, 1) := by decide +kernel
theorem dX11_feed_56 : decode cX11_feed 56 = .ok (.lshr, 1) := by decide +kernel
theorem dX11_feed_57 : decode cX11_feed 57 = .ok (.ldc2_w 230, 3) := by decide +kernel
theorem dX11_feed_60 : decode cX11_feed 60 = .ok (.land, 1) := by decide +kernel
theorem dX11_feed_61 : decode cX11_feed 61 = .ok (.l2i, 1) := by decide +kernel
theorem dX11_feed_62 : decode cX11_feed 62 = .ok (.iastore, 1) := by decide +kernel
theorem dX11_feed_63 : decode cX11_feed 63 = .ok (.aload_n 0, 1) := by decide +kernel
theorem dX11_feed_64 : decode cX11_feed 64 = .ok (.dup, 1) := by decide +kernel
theorem dX11_feed_65 : decode cX11_feed 65 = .ok (.getfield 227, 3) := by decide +kernel
theorem dX11_feed_68 : decode cX11_feed 68 = .ok (.iconst 1, 1) := by decide +kernel
theorem dX11_feed_69 : decode cX11_feed 69 = .ok (.iadd, 1) := by decide +kernel
theorem dX11_feed_70 : decode cX11_feed 70 = .ok (.putfield 227, 3) := by decide +kernel
theorem dX11_feed_73 : decode cX11_feed 73 = .ok (.iinc 4 (-1), 3) := by decide +kernel
theorem dX11_feed_76 : decode cX11_feed 76 = .ok (.goto (-39), 3) := by decide +kernel
theorem dX11_feed_79 : decode cX11_feed 79 = .ok (.aload_n 0, 1) := by decide +kernel
theorem dX11_feed_80 : decode cX11_feed 80 = .ok (.getfield 227, 3) := by decide +kernel
theorem dX11_feed_83 : decode cX11_feed 83 = .ok (.ireturn, 1) := by decide +kernel
theorem dX11_here_0 : decode cX11_here 0 = .ok (.aload_n 0, 1) := by decide +kernel
theorem dX11_here_1 : decode cX11_here 1 = .ok (.getfield 232, 3) := by decide +kernel
theorem dX11_here_4 : decode cX11_here 4 = .ok (.aload_n 0, 1) := by decide +kernel
theorem dX11_here_5 : decode cX11_here 5 = .ok (.getfield 227, 3) := by decide +kernel
theorem dX11_here_8 : decode cX11_here 8 = .ok (.if_icmp .ge 30, 3) := by decide +kernel
theorem dX11_here_11 : decode cX11_here 11 = .ok (.aload_n 0, 1) := by decide +kernel
theorem dX11_here_12 : decode cX11_here 12 = .ok (.getfield 102, 3) := by decide +kernel
theorem dX11_here_15 : decode cX11_here 15 = .ok (.aload_n 0, 1) := by decide +kernel
theorem dX11_here_16 : decode cX11_here 16 = .ok (.getfield 232, 3) := by decide +kernel
theorem dX11_here_19 : decode cX11_here 19 = .ok (.iaload, 1) := by decide +kernel
theorem dX11_here_20 : decode cX11_here 20 = .ok (.bipush 32, 2) := by decide +kernel
theorem dX11_here_22 : decode cX11_here 22 = .ok (.if_icmp .ne 16, 3) := by decide +kernel
theorem dX11_here_25 : decode cX11_here 25 = .ok (.aload_n 0, 1) := by decide +kernel
theorem dX11_here_26 : decode cX11_here 26 = .ok (.dup, 1) := by decide +kernel
theorem dX11_here_27 : decode cX11_here 27 = .ok (.getfield 232, 3) := by decide +kernel
theorem dX11_here_30 : decode cX11_here 30 = .ok (.iconst 1, 1) := by decide +kernel
theorem dX11_here_31 : decode cX11_here 31 = .ok (.iadd, 1) := by decide +kernel
theorem dX11_here_32 : decode cX11_here 32 = .ok (.putfield 232, 3) := by decide +kernel
theorem dX11_here_35 : decode cX11_here 35 = .ok (.goto (-35), 3) := by decide +kernel
theorem dX11_here_38 : decode cX11_here 38 = .ok (.aload_n 0, 1) := by decide +kernel
theorem dX11_here_39 : decode cX11_here 39 = .ok (.getfield 232, 3) := by decide +kernel
theorem dX11_here_42 : decode cX11_here 42 = .ok (.aload_n 0, 1) := by decide +kernel
theorem dX11_here_43 : decode cX11_here 43 = .ok (.getfield 227, 3) := by decide +kernel
theorem dX11_here_46 : decode cX11_here 46 = .ok (.if_icmp .ge 15, 3) := by decide +kernel
theorem dX11_here_49 : decode cX11_here 49 = .ok (.aload_n 0, 1) := by decide +kernel
theorem dX11_here_50 : decode cX11_here 50 = .ok (.getfield 102, 3) := by decide +kernel
theorem dX11_here_53 : decode cX11_here 53 = .ok (.aload_n 0, 1) := by decide +kernel
theorem dX11_here_54 : decode cX11_here 54 = .ok (.getfield 232, 3) := by decide +kernel
theorem dX11_here_57 : decode cX11_here 57 = .ok (.iaload, 1) := by decide +kernel
theorem dX11_here_58 : decode cX11_here 58 = .ok (.goto 4, 3) := by decide +kernel
theorem dX11_here_61 : decode cX11_here 61 = .ok (.iconst (-1), 1) := by decide +kernel
theorem dX11_here_62 : decode cX11_here 62 = .ok (.ireturn, 1) := by decide +kernel
theorem dX11_fails_0 : decode cX11_fails 0 = .ok (.aload_n 0, 1) := by decide +kernel
theorem dX11_fails_1 : decode cX11_fails 1 = .ok (.iload_n 2, 1) := by decide +kernel
theorem dX11_fails_2 : decode cX11_fails 2 = .ok (.putfield 105, 3) := by decide +kernel
theorem dX11_fails_5 : decode cX11_fails 5 = .ok (.iload_n 1, 1) := by decide +kernel
theorem dX11_fails_6 : decode cX11_fails 6 = .ok (.ireturn, 1) := by decide +kernel
theorem dX11_readWord_0 : decode cX11_readWord 0 = .ok (.aload_n 0, 1) := by decide +kernel
theorem dX11_readWord_1 : decode cX11_readWord 1 = .ok (.invokevirtual 235, 3) := by decide +kernel
theorem dX11_readWord_4 : decode cX11_readWord 4 = .ok (.istore_n 1, 1) := by decide +kernel
theorem dX11_readWord_5 : decode cX11_readWord 5 = .ok (.aload_n 0, 1) := by decide +kernel
theorem dX11_readWord_6 : decode cX11_readWord 6 = .ok (.lconst 0, 1) := by decide +kernel
theorem dX11_readWord_7 : decode cX11_readWord 7 = .ok (.putfield 239, 3) := by decide +kernel
theorem dX11_readWord_10 : decode cX11_readWord 10 = .ok (.aload_n 0, 1) := by decide +kernel
theorem dX11_readWord_11 : decode cX11_readWord 11 = .ok (.aload_n 0, 1) := by decide +kernel
theorem dX11_readWord_12 : decode cX11_readWord 12 = .ok (.getfield 232, 3) := by decide +kernel
theorem dX11_readWord_15 : decode cX11_readWord 15 = .ok (.putfield 243, 3) := by decide +kernel
theorem dX11_readWord_18 : decode cX11_readWord 18 = .ok (.aload_n 0, 1) := by decide +kernel
theorem dX11_readWord_19 : decode cX11_readWord 19 = .ok (.getfield 243, 3) := by decide +kernel
theorem dX11_readWord_22 : decode cX11_readWord 22 = .ok (.aload_n 0, 1) := by decide +kernel
theorem dX11_readWord_23 : decode cX11_readWord 23 = .ok (.getfield 227, 3) := by decide +kernel
theorem dX11_readWord_26 : decode cX11_readWord 26 = .ok (.if_icmp .ge 82, 3) := by decide +kernel
theorem dX11_readWord_29 : decode cX11_readWord 29 = .ok (.aload_n 0, 1) := by decide +kernel
theorem dX11_readWord_30 : decode cX11_readWord 30 = .ok (.getfield 102, 3) := by decide +kernel
theorem dX11_readWord_33 : decode cX11_readWord 33 = .ok (.aload_n 0, 1) := by decide +kernel
theorem dX11_readWord_34 : decode cX11_readWord 34 = .ok (.getfield 243, 3) := by decide +kernel
theorem dX11_readWord_37 : decode cX11_readWord 37 = .ok (.iaload, 1) := by decide +kernel
theorem dX11_readWord_38 : decode cX11_readWord 38 = .ok (.i2l, 1) := by decide +kernel
theorem dX11_readWord_39 : decode cX11_readWord 39 = .ok (.ldc2_w 246, 3) := by decide +kernel
theorem dX11_readWord_42 : decode cX11_readWord 42 = .ok (.ldc2_w 248, 3) := by decide +kernel
theorem dX11_readWord_45 : decode cX11_readWord 45 = .ok (.invokestatic 138, 3) := by decide +kernel
theorem dX11_readWord_48 : decode cX11_readWord 48 = .ok (.ifCond .eq 60, 3) := by decide +kernel
theorem dX11_readWord_51 : decode cX11_readWord 51 = .ok (.aload_n 0, 1) := by decide +kernel
theorem dX11_readWord_52 : decode cX11_readWord 52 = .ok (.aload_n 0, 1) := by decide +kernel
theorem dX11_readWord_53 : decode cX11_readWord 53 = .ok (.getfield 239, 3) := by decide +kernel
theorem dX11_readWord_56 : decode cX11_readWord 56 = .ok (.ldc2_w 250, 3) := by decide +kernel
theorem dX11_readWord_59 : decode cX11_readWord 59 = .ok (.lcmp, 1) := by decide +kernel
theorem dX11_readWord_60 : decode cX11_readWord 60 = .ok (.ifCond .le 9, 3) := by decide +kernel
theorem dX11_readWord_63 : decode cX11_readWord 63 = .ok (.ldc2_w 252, 3) := by decide +kernel
theorem dX11_readWord_66 : decode cX11_readWord 66 = .ok (.goto 26, 3) := by decide +kernel
theorem dX11_readWord_69 : decode cX11_readWord 69 = .ok (.ldc2_w 254, 3) := by decide +kernel
theorem dX11_readWord_72 : decode cX11_readWord 72 = .ok (.aload_n 0, 1) := by decide +kernel
theorem dX11_readWord_73 : decode cX11_readWord 73 = .ok (.getfield 239, 3) := by decide +kernel
theorem dX11_readWord_76 : decode cX11_readWord 76 = .ok (.lmul, 1) := by decide +kernel
theorem dX11_readWord_77 : decode cX11_readWord 77 = .ok (.aload_n 0, 1) := by decide +kernel
theorem dX11_readWord_78 : decode cX11_readWord 78 = .ok (.getfield 102, 3) := by decide +kernel
theorem dX11_readWord_81 : decode cX11_readWord 81 = .ok (.aload_n 0, 1) := by decide +kernel
theorem dX11_readWord_82 : decode cX11_readWord 82 = .ok (.getfield 243, 3) := by decide +kernel
theorem dX11_readWord_85 : decode cX11_readWord 85 = .ok (.iaload, 1) := by decide +kernel
theorem dX11_readWord_86 : decode cX11_readWord 86 = .ok (.i2l, 1) := by decide +kernel
theorem dX11_readWord_87 : decode cX11_readWord 87 = .ok (.ladd, 1) := by decide +kernel
theorem dX11_readWord_88 : decode cX11_readWord 88 = .ok (.ldc2_w 256, 3) := by decide +kernel
theorem dX11_readWord_91 : decode cX11_readWord 91 = .ok (.lsub, 1) := by decide +kernel
theorem dX11_readWord_92 : decode cX11_readWord 92 = .ok (.putfield 239, 3) := by decide +kernel
theorem dX11_readWord_95 : decode cX11_readWord 95 = .ok (.aload_n 0, 1) := by decide +kernel
theorem dX11_readWord_96 : decode cX11_readWord 96 = .ok (.dup, 1) := by decide +kernel
theorem dX11_readWord_97 : decode cX11_readWord 97 = .ok (.getfield 243, 3) := by decide +kernel
theorem dX11_readWord_100 : decode cX11_readWord 100 = .ok (.iconst 1, 1) := by decide +kernel
theorem dX11_readWord_101 : decode cX11_readWord 101 = .ok (.iadd, 1) := by decide +kernel
theorem dX11_readWord_102 : decode cX11_readWord 102 = .ok (.putfield 243, 3) := by decide +kernel
theorem dX11_readWord_105 : decode cX11_readWord 105 = .ok (.goto (-87), 3) := by decide +kernel
theorem dX11_readWord_108 : decode cX11_readWord 108 = .ok (.return_, 1) := by decide +kernel
theorem dX11_code_0 : decode cX11_code 0 = .ok (.ldc2_w 254, 3) := by decide +kernel
theorem dX11_code_3 : decode cX11_code 3 = .ok (.iload_n 0, 1) := by decide +kernel
theorem dX11_code_4 : decode cX11_code 4 = .ok (.i2l, 1) := by decide +kernel
theorem dX11_code_5 : decode cX11_code 5 = .ok (.ldc2_w 256, 3) := by decide +kernel
theorem dX11_code_8 : decode cX11_code 8 = .ok (.lsub, 1) := by decide +kernel
theorem dX11_code_9 : decode cX11_code 9 = .ok (.lmul, 1) := by decide +kernel
theorem dX11_code_10 : decode cX11_code 10 = .ok (.iload_n 1, 1) := by decide +kernel
theorem dX11_code_11 : decode cX11_code 11 = .ok (.i2l, 1) := by decide +kernel
theorem dX11_code_12 : decode cX11_code 12 = .ok (.ladd, 1) := by decide +kernel
theorem dX11_code_13 : decode cX11_code 13 = .ok (.ldc2_w 256, 3) := by decide +kernel
theorem dX11_code_16 : decode cX11_code 16 = .ok (.lsub, 1) := by decide +kernel
theorem dX11_code_17 : decode cX11_code 17 = .ok (.lstore 6, 2) := by decide +kernel
theorem dX11_code_19 : decode cX11_code 19 = .ok (.iload_n 2, 1) := by decide +kernel
theorem dX11_code_20 : decode cX11_code 20 = .ok (.ifCond .ne 8, 3) := by decide +kernel
theorem dX11_code_23 : decode cX11_code 23 = .ok (.lload 6, 2) := by decide +kernel
theorem dX11_code_25 : decode cX11_code 25 = .ok (.goto 16, 3) := by decide +kernel
theorem dX11_code_28 : decode cX11_code 28 = .ok (.ldc2_w 254, 3) := by decide +kernel
theorem dX11_code_31 : decode cX11_code 31 = .ok (.lload 6, 2) := by decide +kernel
theorem dX11_code_33 : decode cX11_code 33 = .ok (.lmul, 1) := by decide +kernel
theorem dX11_code_34 : decode cX11_code 34 = .ok (.iload_n 2, 1) := by decide +kernel
theorem dX11_code_35 : decode cX11_code 35 = .ok (.i2l, 1) := by decide +kernel
theorem dX11_code_36 : decode cX11_code 36 = .ok (.ladd, 1) := by decide +kernel
theorem dX11_code_37 : decode cX11_code 37 = .ok (.ldc2_w 256, 3) := by decide +kernel
theorem dX11_code_40 : decode cX11_code 40 = .ok (.lsub, 1) := by decide +kernel
theorem dX11_code_41 : decode cX11_code 41 = .ok (.lstore 6, 2) := by decide +kernel
theorem dX11_code_43 : decode cX11_code 43 = .ok (.iload_n 3, 1) := by decide +kernel
theorem dX11_code_44 : decode cX11_code 44 = .ok (.ifCond .ne 8, 3) := by decide +kernel
theorem dX11_code_47 : decode cX11_code 47 = .ok (.lload 6, 2) := by decide +kernel
theorem dX11_code_49 : decode cX11_code 49 = .ok (.goto 16, 3) := by decide +kernel
theorem dX11_code_52 : decode cX11_code 52 = .ok (.ldc2_w 254, 3) := by decide +kernel
theorem dX11_code_55 : decode cX11_code 55 = .ok (.lload 6, 2) := by decide +kernel
theorem dX11_code_57 : decode cX11_code 57 = .ok (.lmul, 1) := by decide +kernel
theorem dX11_code_58 : decode cX11_code 58 = .ok (.iload_n 3, 1) := by decide +kernel
theorem dX11_code_59 : decode cX11_code 59 = .ok (.i2l, 1) := by decide +kernel
theorem dX11_code_60 : decode cX11_code 60 = .ok (.ladd, 1) := by decide +kernel
theorem dX11_code_61 : decode cX11_code 61 = .ok (.ldc2_w 256, 3) := by decide +kernel
theorem dX11_code_64 : decode cX11_code 64 = .ok (.lsub, 1) := by decide +kernel
theorem dX11_code_65 : decode cX11_code 65 = .ok (.lstore 6, 2) := by decide +kernel
theorem dX11_code_67 : decode cX11_code 67 = .ok (.iload 4, 2) := by decide +kernel
theorem dX11_code_69 : decode cX11_code 69 = .ok (.ifCond .ne 8, 3) := by decide +kernel
theorem dX11_code_72 : decode cX11_code 72 = .ok (.lload 6, 2) := by decide +kernel
theorem dX11_code_74 : decode cX11_code 74 = .ok (.goto 17, 3) := by decide +kernel
theorem dX11_code_77 : decode cX11_code 77 = .ok (.ldc2_w 254, 3) := by decide +kernel
theorem dX11_code_80 : decode cX11_code 80 = .ok (.lload 6, 2) := by decide +kernel
theorem dX11_code_82 : decode cX11_code 82 = .ok (.lmul, 1) := by decide +kernel
theorem dX11_code_83 : decode cX11_code 83 = .ok (.iload 4, 2) := by decide +kernel
theorem dX11_code_85 : decode cX11_code 85 = .ok (.i2l, 1) := by decide +kernel
theorem dX11_code_86 : decode cX11_code 86 = .ok (.ladd, 1) := by decide +kernel
theorem dX11_code_87 : decode cX11_code 87 = .ok (.ldc2_w 256, 3) := by decide +kernel
theorem dX11_code_90 : decode cX11_code 90 = .ok (.lsub, 1) := by decide +kernel
theorem dX11_code_91 : decode cX11_code 91 = .ok (.lstore 6, 2) := by decide +kernel
theorem dX11_code_93 : decode cX11_code 93 = .ok (.iload 5, 2) := by decide +kernel
theorem dX11_code_95 : decode cX11_code 95 = .ok (.ifCond .ne 8, 3) := by decide +kernel
theorem dX11_code_98 : decode cX11_code 98 = .ok (.lload 6, 2) := by decide +kernel
theorem dX11_code_100 : decode cX11_code 100 = .ok (.goto 17, 3) := by decide +kernel
theorem dX11_code_103 : decode cX11_code 103 = .ok (.ldc2_w 254, 3) := by decide +kernel
theorem dX11_code_106 : decode cX11_code 106 = .ok (.lload 6, 2) := by decide +kernel
theorem dX11_code_108 : decode cX11_code 108 = .ok (.lmul, 1) := by decide +kernel
theorem dX11_code_109 : decode cX11_code 109 = .ok (.iload 5, 2) := by decide +kernel
theorem dX11_code_111 : decode cX11_code 111 = .ok (.i2l, 1) := by decide +kernel
theorem dX11_code_112 : decode cX11_code 112 = .ok (.ladd, 1) := by decide +kernel
theorem dX11_code_113 : decode cX11_code 113 = .ok (.ldc2_w 256, 3) := by decide +kernel
theorem dX11_code_116 : decode cX11_code 116 = .ok (.lsub, 1) := by decide +kernel
theorem dX11_code_117 : decode cX11_code 117 = .ok (.lreturn, 1) := by decide +kernel
theorem dX11_needs_0 : decode cX11_needs 0 = .ok (.aload_n 0, 1) := by decide +kernel
theorem dX11_needs_1 : decode cX11_needs 1 = .ok (.invokevirtual 258, 3) := by decide +kernel
theorem dX11_needs_4 : decode cX11_needs 4 = .ok (.aload_n 0, 1) := by decide +kernel
theorem dX11_needs_5 : decode cX11_needs 5 = .ok (.getfield 239, 3) := by decide +kernel
theorem dX11_needs_8 : decode cX11_needs 8 = .ok (.lload_n 1, 1) := by decide +kernel
theorem dX11_needs_9 : decode cX11_needs 9 = .ok (.lcmp, 1) := by decide +kernel
theorem dX11_needs_10 : decode cX11_needs 10 = .ok (.ifCond .eq 13, 3) := by decide +kernel
theorem dX11_needs_13 : decode cX11_needs 13 = .ok (.aload_n 0, 1) := by decide +kernel
theorem dX11_needs_14 : decode cX11_needs 14 = .ok (.iconst 1, 1) := by decide +kernel
theorem dX11_needs_15 : decode cX11_needs 15 = .ok (.aload_n 0, 1) := by decide +kernel
theorem dX11_needs_16 : decode cX11_needs 16 = .ok (.getfield 232, 3) := by decide +kernel
theorem dX11_needs_19 : decode cX11_needs 19 = .ok (.invokevirtual 261, 3) := by decide +kernel
theorem dX11_needs_22 : decode cX11_needs 22 = .ok (.ireturn, 1) := by decide +kernel
theorem dX11_needs_23 : decode cX11_needs 23 = .ok (.aload_n 0, 1) := by decide +kernel
theorem dX11_needs_24 : decode cX11_needs 24 = .ok (.aload_n 0, 1) := by decide +kernel
theorem dX11_needs_25 : decode cX11_needs 25 = .ok (.getfield 243, 3) := by decide +kernel
theorem dX11_needs_28 : decode cX11_needs 28 = .ok (.putfield 232, 3) := by decide +kernel
theorem dX11_needs_31 : decode cX11_needs 31 = .ok (.iconst 0, 1) := by decide +kernel
theorem dX11_needs_32 : decode cX11_needs 32 = .ok (.ireturn, 1) := by decide +kernel
theorem dX11_readNumber_0 : decode cX11_readNumber 0 = .ok (.aload_n 0, 1) := by decide +kernel
theorem dX11_readNumber_1 : decode cX11_readNumber 1 = .ok (.invokevirtual 235, 3) := by decide +kernel
theorem dX11_readNumber_4 : decode cX11_readNumber 4 = .ok (.istore_n 3, 1) := by decide +kernel
theorem dX11_readNumber_5 : decode cX11_readNumber 5 = .ok (.iload_n 3, 1) := by decide +kernel
theorem dX11_readNumber_6 : decode cX11_readNumber 6 = .ok (.i2l, 1) := by decide +kernel
theorem dX11_readNumber_7 : decode cX11_readNumber 7 = .ok (.ldc2_w 265, 3) := by decide +kernel
theorem dX11_readNumber_10 : decode cX11_readNumber 10 = .ok (.ldc2_w 267, 3) := by decide +kernel
theorem dX11_readNumber_13 : decode cX11_readNumber 13 = .ok (.invokestatic 138, 3) := by decide +kernel
theorem dX11_readNumber_16 : decode cX11_readNumber 16 = .ok (.ifCond .ne 13, 3) := by decide +kernel
theorem dX11_readNumber_19 : decode cX11_readNumber 19 = .ok (.aload_n 0, 1) := by decide +kernel
theorem dX11_readNumber_20 : decode cX11_readNumber 20 = .ok (.iconst 1, 1) := by decide +kernel
theorem dX11_readNumber_21 : decode cX11_readNumber 21 = .ok (.aload_n 0, 1) := by decide +kernel
theorem dX11_readNumber_22 : decode cX11_readNumber 22 = .ok (.getfield 232, 3) := by decide +kernel
theorem dX11_readNumber_25 : decode cX11_readNumber 25 = .ok (.invokevirtual 261, 3) := by decide +kernel
theorem dX11_readNumber_28 : decode cX11_readNumber 28 = .ok (.ireturn, 1) := by decide +kernel
theorem dX11_readNumber_29 : decode cX11_readNumber 29 = .ok (.aload_n 0, 1) := by decide +kernel
theorem dX11_readNumber_30 : decode cX11_readNumber 30 = .ok (.getfield 232, 3) := by decide +kernel
theorem dX11_readNumber_33 : decode cX11_readNumber 33 = .ok (.istore 4, 2) := by decide +kernel
theorem dX11_readNumber_35 : decode cX11_readNumber 35 = .ok (.aload_n 0, 1) := by decide +kernel
theorem dX11_readNumber_36 : decode cX11_readNumber 36 = .ok (.iconst 0, 1) := by decide +kernel
theorem dX11_readNumber_37 : decode cX11_readNumber 37 = .ok (.putfield 269, 3) := by decide +kernel
theorem dX11_readNumber_40 : decode cX11_readNumber 40 = .ok (.aload_n 0, 1) := by decide +kernel
theorem dX11_readNumber_41 : decode cX11_readNumber 41 = .ok (.getfield 232, 3) := by decide +kernel
theorem dX11_readNumber_44 : decode cX11_readNumber 44 = .ok (.aload_n 0, 1) := by decide +kernel
theorem dX11_readNumber_45 : decode cX11_readNumber 45 = .ok (.getfield 227, 3) := by decide +kernel
theorem dX11_readNumber_48 : decode cX11_readNumber 48 = .ok (.if_icmp .ge 79, 3) := by decide +kernel
theorem dX11_readNumber_51 : decode cX11_readNumber 51 = .ok (.aload_n 0, 1) := by decide +kernel
theorem dX11_readNumber_52 : decode cX11_readNumber 52 = .ok (.getfield 102, 3) := by decide +kernel
theorem dX11_readNumber_55 : decode cX11_readNumber 55 = .ok (.aload_n 0, 1) := by decide +kernel
theorem dX11_readNumber_56 : decode cX11_readNumber 56 = .ok (.getfield 232, 3) := by decide +kernel
theorem dX11_readNumber_59 : decode cX11_readNumber 59 = .ok (.iaload, 1) := by decide +kernel
theorem dX11_readNumber_60 : decode cX11_readNumber 60 = .ok (.i2l, 1) := by decide +kernel
theorem dX11_readNumber_61 : decode cX11_readNumber 61 = .ok (.ldc2_w 265, 3) := by decide +kernel
theorem dX11_readNumber_64 : decode cX11_readNumber 64 = .ok (.ldc2_w 267, 3) := by decide +kernel
theorem dX11_readNumber_67 : decode cX11_readNumber 67 = .ok (.invokestatic 138, 3) := by decide +kernel
theorem dX11_readNumber_70 : decode cX11_readNumber 70 = .ok (.ifCond .eq 57, 3) := by decide +kernel
theorem dX11_readNumber_73 : decode cX11_readNumber 73 = .ok (.aload_n 0, 1) := by decide +kernel
theorem dX11_readNumber_74 : decode cX11_readNumber 74 = .ok (.aload_n 0, 1) := by decide +kernel
theorem dX11_readNumber_75 : decode cX11_readNumber 75 = .ok (.getfield 269, 3) := by decide +kernel
theorem dX11_readNumber_78 : decode cX11_readNumber 78 = .ok (.sipush 10000, 3) := by decide +kernel
theorem dX11_readNumber_81 : decode cX11_readNumber 81 = .ok (.if_icmp .le 10, 3) := by decide +kernel
theorem dX11_readNumber_84 : decode cX11_readNumber 84 = .ok (.aload_n 0, 1) := by decide +kernel
theorem dX11_readNumber_85 : decode cX11_readNumber 85 = .ok (.getfield 269, 3) := by decide +kernel
theorem dX11_readNumber_88 : decode cX11_readNumber 88 = .ok (.goto 23, 3) := by decide +kernel
theorem dX11_readNumber_91 : decode cX11_readNumber 91 = .ok (.bipush 10, 2) := by decide +kernel
theorem dX11_readNumber_93 : decode cX11_readNumber 93 = .ok (.aload_n 0, 1) := by decide +kernel
theorem dX11_readNumber_94 : decode cX11_readNumber 94 = .ok (.getfield 269, 3) := by decide +kernel
theorem dX11_readNumber_97 : decode cX11_readNumber 97 = .ok (.imul, 1) := by decide +kernel
theorem dX11_readNumber_98 : decode cX11_readNumber 98 = .ok (.aload_n 0, 1) := by decide +kernel
theorem dX11_readNumber_99 : decode cX11_readNumber 99 = .ok (.getfield 102, 3) := by decide +kernel
theorem dX11_readNumber_102 : decode cX11_readNumber 102 = .ok (.aload_n 0, 1) := by decide +kernel
theorem dX11_readNumber_103 : decode cX11_readNumber 103 = .ok (.getfield 232, 3) := by decide +kernel
theorem dX11_readNumber_106 : decode cX11_readNumber 106 = .ok (.iaload, 1) := by decide +kernel
theorem dX11_readNumber_107 : decode cX11_readNumber 107 = .ok (.iadd, 1) := by decide +kernel
theorem dX11_readNumber_108 : decode cX11_readNumber 108 = .ok (.bipush 48, 2) := by decide +kernel
theorem dX11_readNumber_110 : decode cX11_readNumber 110 = .ok (.isub, 1) := by decide +kernel
theorem dX11_readNumber_111 : decode cX11_readNumber 111 = .ok (.putfield 269, 3) := by decide +kernel
theorem dX11_readNumber_114 : decode cX11_readNumber 114 = .ok (.aload_n 0, 1) := by decide +kernel
theorem dX11_readNumber_115 : decode cX11_readNumber 115 = .ok (.dup, 1) := by decide +kernel
theorem dX11_readNumber_116 : decode cX11_readNumber 116 = .ok (.getfield 232, 3) := by decide +kernel
theorem dX11_readNumber_119 : decode cX11_readNumber 119 = .ok (.iconst 1, 1) := by decide +kernel
theorem dX11_readNumber_120 : decode cX11_readNumber 120 = .ok (.iadd, 1) := by decide +kernel
theorem dX11_readNumber_121 : decode cX11_readNumber 121 = .ok (.putfield 232, 3) := by decide +kernel
theorem dX11_readNumber_124 : decode cX11_readNumber 124 = .ok (.goto (-84), 3) := by decide +kernel
theorem dX11_readNumber_127 : decode cX11_readNumber 127 = .ok (.aload_n 0, 1) := by decide +kernel
theorem dX11_readNumber_128 : decode cX11_readNumber 128 = .ok (.getfield 232, 3) := by decide +kernel
theorem dX11_readNumber_131 : decode cX11_readNumber 131 = .ok (.iload 4, 2) := by decide +kernel
theorem dX11_readNumber_133 : decode cX11_readNumber 133 = .ok (.isub, 1) := by decide +kernel
theorem dX11_readNumber_134 : decode cX11_readNumber 134 = .ok (.iconst 3, 1) := by decide +kernel
theorem dX11_readNumber_135 : decode cX11_readNumber 135 = .ok (.if_icmp .gt 18, 3) := by decide +kernel
theorem dX11_readNumber_138 : decode cX11_readNumber 138 = .ok (.aload_n 0, 1) := by decide +kernel
theorem dX11_readNumber_139 : decode cX11_readNumber 139 = .ok (.getfield 269, 3) := by decide +kernel
theorem dX11_readNumber_142 : decode cX11_readNumber 142 = .ok (.i2l, 1) := by decide +kernel
theorem dX11_readNumber_143 : decode cX11_readNumber 143 = .ok (.iload_n 1, 1) := by decide +kernel
theorem dX11_readNumber_144 : decode cX11_readNumber 144 = .ok (.i2l, 1) := by decide +kernel
theorem dX11_readNumber_145 : decode cX11_readNumber 145 = .ok (.iload_n 2, 1) := by decide +kernel
theorem dX11_readNumber_146 : decode cX11_readNumber 146 = .ok (.i2l, 1) := by decide +kernel
theorem dX11_readNumber_147 : decode cX11_readNumber 147 = .ok (.invokestatic 138, 3) := by decide +kernel
theorem dX11_readNumber_150 : decode cX11_readNumber 150 = .ok (.ifCond .ne 13, 3) := by decide +kernel
theorem dX11_readNumber_153 : decode cX11_readNumber 153 = .ok (.aload_n 0, 1) := by decide +kernel
theorem dX11_readNumber_154 : decode cX11_readNumber 154 = .ok (.iconst 2, 1) := by decide +kernel
theorem dX11_readNumber_155 : decode cX11_readNumber 155 = .ok (.iload 4, 2) := by decide +kernel
theorem dX11_readNumber_157 : decode cX11_readNumber 157 = .ok (.invokevirtual 261, 3) := by decide +kernel
theorem dX11_readNumber_160 : decode cX11_readNumber 160 = .ok (.goto 4, 3) := by decide +kernel
theorem dX11_readNumber_163 : decode cX11_readNumber 163 = .ok (.iconst 0, 1) := by decide +kernel
theorem dX11_readNumber_164 : decode cX11_readNumber 164 = .ok (.ireturn, 1) := by decide +kernel
theorem dX11_readWay_0 : decode cX11_readWay 0 = .ok (.aload_n 0, 1) := by decide +kernel
theorem dX11_readWay_1 : decode cX11_readWay 1 = .ok (.iconst 0, 1) := by decide +kernel
theorem dX11_readWay_2 : decode cX11_readWay 2 = .ok (.iconst 3, 1) := by decide +kernel
theorem dX11_readWay_3 : decode cX11_readWay 3 = .ok (.invokevirtual 272, 3) := by decide +kernel
theorem dX11_readWay_6 : decode cX11_readWay 6 = .ok (.istore_n 2, 1) := by decide +kernel
theorem dX11_readWay_7 : decode cX11_readWay 7 = .ok (.aload_n 0, 1) := by decide +kernel
theorem dX11_readWay_8 : decode cX11_readWay 8 = .ok (.getfield 90, 3) := by decide +kernel
theorem dX11_readWay_11 : decode cX11_readWay 11 = .ok (.iload_n 1, 1) := by decide +kernel
theorem dX11_readWay_12 : decode cX11_readWay 12 = .ok (.iconst 0, 1) := by decide +kernel
theorem dX11_readWay_13 : decode cX11_readWay 13 = .ok (.iastore, 1) := by decide +kernel
theorem dX11_readWay_14 : decode cX11_readWay 14 = .ok (.aload_n 0, 1) := by decide +kernel
theorem dX11_readWay_15 : decode cX11_readWay 15 = .ok (.getfield 93, 3) := by decide +kernel
theorem dX11_readWay_18 : decode cX11_readWay 18 = .ok (.iload_n 1, 1) := by decide +kernel
theorem dX11_readWay_19 : decode cX11_readWay 19 = .ok (.aload_n 0, 1) := by decide +kernel
theorem dX11_readWay_20 : decode cX11_readWay 20 = .ok (.getfield 269, 3) := by decide +kernel
theorem dX11_readWay_23 : decode cX11_readWay 23 = .ok (.iastore, 1) := by decide +kernel
theorem dX11_readWay_24 : decode cX11_readWay 24 = .ok (.iload_n 2, 1) := by decide +kernel
theorem dX11_readWay_25 : decode cX11_readWay 25 = .ok (.ifCond .gt 20, 3) := by decide +kernel
theorem dX11_readWay_28 : decode cX11_readWay 28 = .ok (.aload_n 0, 1) := by decide +kernel
theorem dX11_readWay_29 : decode cX11_readWay 29 = .ok (.invokevirtual 235, 3) := by decide +kernel
theorem dX11_readWay_32 : decode cX11_readWay 32 = .ok (.i2l, 1) := by decide +kernel
theorem dX11_readWay_33 : decode cX11_readWay 33 = .ok (.ldc2_w 246, 3) := by decide +kernel
theorem dX11_readWay_36 : decode cX11_readWay 36 = .ok (.ldc2_w 248, 3) := by decide +kernel
theorem dX11_readWay_39 : decode cX11_readWay 39 = .ok (.invokestatic 138, 3) := by decide +kernel
theorem dX11_readWay_42 : decode cX11_readWay 42 = .ok (.ifCond .ne 5, 3) := by decide +kernel
theorem dX11_readWay_45 : decode cX11_readWay 45 = .ok (.iload_n 2, 1) := by decide +kernel
theorem dX11_readWay_46 : decode cX11_readWay 46 = .ok (.ireturn, 1) := by decide +kernel
theorem dX11_readWay_47 : decode cX11_readWay 47 = .ok (.aload_n 0, 1) := by decide +kernel
theorem dX11_readWay_48 : decode cX11_readWay 48 = .ok (.bipush 115, 2) := by decide +kernel
theorem dX11_readWay_50 : decode cX11_readWay 50 = .ok (.bipush 116, 2) := by decide +kernel
theorem dX11_readWay_52 : decode cX11_readWay 52 = .ok (.bipush 97, 2) := by decide +kernel
theorem dX11_readWay_54 : decode cX11_readWay 54 = .ok (.bipush 116, 2) := by decide +kernel
theorem dX11_readWay_56 : decode cX11_readWay 56 = .ok (.bipush 101, 2) := by decide +kernel
theorem dX11_readWay_58 : decode cX11_readWay 58 = .ok (.iconst 0, 1) := by decide +kernel
theorem dX11_readWay_59 : decode cX11_readWay 59 = .ok (.invokestatic 275, 3) := by decide +kernel
theorem dX11_readWay_62 : decode cX11_readWay 62 = .ok (.invokevirtual 279, 3) := by decide +kernel
theorem dX11_readWay_65 : decode cX11_readWay 65 = .ok (.istore_n 2, 1) := by decide +kernel
theorem dX11_readWay_66 : decode cX11_readWay 66 = .ok (.iload_n 2, 1) := by decide +kernel
theorem dX11_readWay_67 : decode cX11_readWay 67 = .ok (.ifCond .le 7, 3) := by decide +kernel
theorem dX11_readWay_70 : decode cX11_readWay 70 = .ok (.iload_n 2, 1) := by decide +kernel
theorem dX11_readWay_71 : decode cX11_readWay 71 = .ok (.goto 9, 3) := by decide +kernel
theorem dX11_readWay_74 : decode cX11_readWay 74 = .ok (.aload_n 0, 1) := by decide +kernel
theorem dX11_readWay_75 : decode cX11_readWay 75 = .ok (.iconst 0, 1) := by decide +kernel
theorem dX11_readWay_76 : decode cX11_readWay 76 = .ok (.iconst 3, 1) := by decide +kernel
theorem dX11_readWay_77 : decode cX11_readWay 77 = .ok (.invokevirtual 272, 3) := by decide +kernel
theorem dX11_readWay_80 : decode cX11_readWay 80 = .ok (.istore_n 2, 1) := by decide +kernel
theorem dX11_readWay_81 : decode cX11_readWay 81 = .ok (.aload_n 0, 1) := by decide +kernel
theorem dX11_readWay_82 : decode cX11_readWay 82 = .ok (.getfield 90, 3) := by decide +kernel
theorem dX11_readWay_85 : decode cX11_readWay 85 = .ok (.iload_n 1, 1) := by decide +kernel
theorem dX11_readWay_86 : decode cX11_readWay 86 = .ok (.iconst 1, 1) := by decide +kernel
theorem dX11_readWay_87 : decode cX11_readWay 87 = .ok (.iastore, 1) := by decide +kernel
theorem dX11_readWay_88 : decode cX11_readWay 88 = .ok (.aload_n 0, 1) := by decide +kernel
theorem dX11_readWay_89 : decode cX11_readWay 89 = .ok (.getfield 96, 3) := by decide +kernel
theorem dX11_readWay_92 : decode cX11_readWay 92 = .ok (.iload_n 1, 1) := by decide +kernel
theorem dX11_readWay_93 : decode cX11_readWay 93 = .ok (.aload_n 0, 1) := by decide +kernel
theorem dX11_readWay_94 : decode cX11_readWay 94 = .ok (.getfield 269, 3) := by decide +kernel
theorem dX11_readWay_97 : decode cX11_readWay 97 = .ok (.iastore, 1) := by decide +kernel
theorem dX11_readWay_98 : decode cX11_readWay 98 = .ok (.iload_n 2, 1) := by decide +kernel
theorem dX11_readWay_99 : decode cX11_readWay 99 = .ok (.ifCond .le 7, 3) := by decide +kernel
theorem dX11_readWay_102 : decode cX11_readWay 102 = .ok (.iload_n 2, 1) := by decide +kernel
theorem dX11_readWay_103 : decode cX11_readWay 103 = .ok (.goto 10, 3) := by decide +kernel
theorem dX11_readWay_106 : decode cX11_readWay 106 = .ok (.aload_n 0, 1) := by decide +kernel
theorem dX11_readWay_107 : decode cX11_readWay 107 = .ok (.iconst 0, 1) := by decide +kernel
theorem dX11_readWay_108 : decode cX11_readWay 108 = .ok (.bipush 100, 2) := by decide +kernel
theorem dX11_readWay_110 : decode cX11_readWay 110 = .ok (.invokevirtual 272, 3) := by decide +kernel
theorem dX11_readWay_113 : decode cX11_readWay 113 = .ok (.istore_n 2, 1) := by decide +kernel
theorem dX11_readWay_114 : decode cX11_readWay 114 = .ok (.aload_n 0, 1) := by decide +kernel
theorem dX11_readWay_115 : decode cX11_readWay 115 = .ok (.getfield 99, 3) := by decide +kernel
theorem dX11_readWay_118 : decode cX11_readWay 118 = .ok (.iload_n 1, 1) := by decide +kernel
theorem dX11_readWay_119 : decode cX11_readWay 119 = .ok (.aload_n 0, 1) := by decide +kernel
theorem dX11_readWay_120 : decode cX11_readWay 120 = .ok (.getfield 269, 3) := by decide +kernel
theorem dX11_readWay_123 : decode cX11_readWay 123 = .ok (.iastore, 1) := by decide +kernel
theorem dX11_readWay_124 : decode cX11_readWay 124 = .ok (.iload_n 2, 1) := by decide +kernel
theorem dX11_readWay_125 : decode cX11_readWay 125 = .ok (.ireturn, 1) := by decide +kernel
theorem dX11_readNever_0 : decode cX11_readNever 0 = .ok (.aload_n 0, 1) := by decide +kernel
theorem dX11_readNever_1 : decode cX11_readNever 1 = .ok (.invokevirtual 258, 3) := by decide +kernel
theorem dX11_readNever_4 : decode cX11_readNever 4 = .ok (.aload_n 0, 1) := by decide +kernel
theorem dX11_readNever_5 : decode cX11_readNever 5 = .ok (.getfield 239, 3) := by decide +kernel
theorem dX11_readNever_8 : decode cX11_readNever 8 = .ok (.bipush 119, 2) := by decide +kernel
theorem dX11_readNever_10 : decode cX11_readNever 10 = .ok (.bipush 97, 2) := by decide +kernel
theorem dX11_readNever_12 : decode cX11_readNever 12 = .ok (.bipush 121, 2) := by decide +kernel
theorem dX11_readNever_14 : decode cX11_readNever 14 = .ok (.iconst 0, 1) := by decide +kernel
theorem dX11_readNever_15 : decode cX11_readNever 15 = .ok (.iconst 0, 1) := by decide +kernel
theorem dX11_readNever_16 : decode cX11_readNever 16 = .ok (.iconst 0, 1) := by decide +kernel
theorem dX11_readNever_17 : decode cX11_readNever 17 = .ok (.invokestatic 275, 3) := by decide +kernel
theorem dX11_readNever_20 : decode cX11_readNever 20 = .ok (.lcmp, 1) := by decide +kernel
theorem dX11_readNever_21 : decode cX11_readNever 21 = .ok (.ifCond .ne 7, 3) := by decide +kernel
theorem dX11_readNever_24 : decode cX11_readNever 24 = .ok (.iconst 1, 1) := by decide +kernel
theorem dX11_readNever_25 : decode cX11_readNever 25 = .ok (.goto 4, 3) := by decide +kernel
theorem dX11_readNever_28 : decode cX11_readNever 28 = .ok (.iconst 0, 1) := by decide +kernel
theorem dX11_readNever_29 : decode cX11_readNever 29 = .ok (.istore_n 2, 1) := by decide +kernel
theorem dX11_readNever_30 : decode cX11_readNever 30 = .ok (.iload_n 2, 1) := by decide +kernel
theorem dX11_readNever_31 : decode cX11_readNever 31 = .ok (.ifCond .ne 34, 3) := by decide +kernel
theorem dX11_readNever_34 : decode cX11_readNever 34 = .ok (.aload_n 0, 1) := by decide +kernel
theorem dX11_readNever_35 : decode cX11_readNever 35 = .ok (.getfield 239, 3) := by decide +kernel
theorem dX11_readNever_38 : decode cX11_readNever 38 = .ok (.bipush 107, 2) := by decide +kernel
theorem dX11_readNever_40 : decode cX11_readNever 40 = .ok (.bipush 105, 2) := by decide +kernel
theorem dX11_readNever_42 : decode cX11_readNever 42 = .ok (.bipush 110, 2) := by decide +kernel
theorem dX11_readNever_44 : decode cX11_readNever 44 = .ok (.bipush 100, 2) := by decide +kernel
theorem dX11_readNever_46 : decode cX11_readNever 46 = .ok (.iconst 0, 1) := by decide +kernel
theorem dX11_readNever_47 : decode cX11_readNever 47 = .ok (.iconst 0, 1) := by decide +kernel
theorem dX11_readNever_48 : decode cX11_readNever 48 = .ok (.invokestatic 275, 3) := by decide +kernel
theorem dX11_readNever_51 : decode cX11_readNever 51 = .ok (.lcmp, 1) := by decide +kernel
theorem dX11_readNever_52 : decode cX11_readNever 52 = .ok (.ifCond .eq 13, 3) := by decide +kernel
theorem dX11_readNever_55 : decode cX11_readNever 55 = .ok (.aload_n 0, 1) := by decide +kernel
theorem dX11_readNever_56 : decode cX11_readNever 56 = .ok (.iconst 1, 1) := by decide +kernel
theorem dX11_readNever_57 : decode cX11_readNever 57 = .ok (.aload_n 0, 1) := by decide +kernel
theorem dX11_readNever_58 : decode cX11_readNever 58 = .ok (.getfield 232, 3) := by decide +kernel
theorem dX11_readNever_61 : decode cX11_readNever 61 = .ok (.invokevirtual 261, 3) := by decide +kernel
theorem dX11_readNever_64 : decode cX11_readNever 64 = .ok (.ireturn, 1) := by decide +kernel
theorem dX11_readNever_65 : decode cX11_readNever 65 = .ok (.aload_n 0, 1) := by decide +kernel
theorem dX11_readNever_66 : decode cX11_readNever 66 = .ok (.aload_n 0, 1) := by decide +kernel
theorem dX11_readNever_67 : decode cX11_readNever 67 = .ok (.getfield 243, 3) := by decide +kernel
theorem dX11_readNever_70 : decode cX11_readNever 70 = .ok (.putfield 232, 3) := by decide +kernel
theorem dX11_readNever_73 : decode cX11_readNever 73 = .ok (.iload_n 2, 1) := by decide +kernel
theorem dX11_readNever_74 : decode cX11_readNever 74 = .ok (.ifCond .eq 9, 3) := by decide +kernel
theorem dX11_readNever_77 : decode cX11_readNever 77 = .ok (.aload_n 0, 1) := by decide +kernel
theorem dX11_readNever_78 : decode cX11_readNever 78 = .ok (.iload_n 1, 1) := by decide +kernel
theorem dX11_readNever_79 : decode cX11_readNever 79 = .ok (.invokevirtual 283, 3) := by decide +kernel
theorem dX11_readNever_82 : decode cX11_readNever 82 = .ok (.ireturn, 1) := by decide +kernel
theorem dX11_readNever_83 : decode cX11_readNever 83 = .ok (.aload_n 0, 1) := by decide +kernel
theorem dX11_readNever_84 : decode cX11_readNever 84 = .ok (.iconst 0, 1) := by decide +kernel
theorem dX11_readNever_85 : decode cX11_readNever 85 = .ok (.iconst 3, 1) := by decide +kernel
theorem dX11_readNever_86 : decode cX11_readNever 86 = .ok (.invokevirtual 272, 3) := by decide +kernel
theorem dX11_readNever_89 : decode cX11_readNever 89 = .ok (.istore_n 3, 1) := by decide +kernel
theorem dX11_readNever_90 : decode cX11_readNever 90 = .ok (.aload_n 0, 1) := by decide +kernel
theorem dX11_readNever_91 : decode cX11_readNever 91 = .ok (.getfield 90, 3) := by decide +kernel
theorem dX11_readNever_94 : decode cX11_readNever 94 = .ok (.iload_n 1, 1) := by decide +kernel
theorem dX11_readNever_95 : decode cX11_readNever 95 = .ok (.iconst 2, 1) := by decide +kernel
theorem dX11_readNever_96 : decode cX11_readNever 96 = .ok (.iastore, 1) := by decide +kernel
theorem dX11_readNever_97 : decode cX11_readNever 97 = .ok (.aload_n 0, 1) := by decide +kernel
theorem dX11_readNever_98 : decode cX11_readNever 98 = .ok (.getfield 93, 3) := by decide +kernel
theorem dX11_readNever_101 : decode cX11_readNever 101 = .ok (.iload_n 1, 1) := by decide +kernel
theorem dX11_readNever_102 : decode cX11_readNever 102 = .ok (.aload_n 0, 1) := by decide +kernel
theorem dX11_readNever_103 : decode cX11_readNever 103 = .ok (.getfield 269, 3) := by decide +kernel
theorem dX11_readNever_106 : decode cX11_readNever 106 = .ok (.iastore, 1) := by decide +kernel
theorem dX11_readNever_107 : decode cX11_readNever 107 = .ok (.iload_n 3, 1) := by decide +kernel
theorem dX11_readNever_108 : decode cX11_readNever 108 = .ok (.ifCond .le 7, 3) := by decide +kernel
theorem dX11_readNever_111 : decode cX11_readNever 111 = .ok (.iload_n 3, 1) := by decide +kernel
theorem dX11_readNever_112 : decode cX11_readNever 112 = .ok (.goto 21, 3) := by decide +kernel
theorem dX11_readNever_115 : decode cX11_readNever 115 = .ok (.aload_n 0, 1) := by decide +kernel
theorem dX11_readNever_116 : decode cX11_readNever 116 = .ok (.bipush 97, 2) := by decide +kernel
theorem dX11_readNever_118 : decode cX11_readNever 118 = .ok (.bipush 102, 2) := by decide +kernel
theorem dX11_readNever_120 : decode cX11_readNever 120 = .ok (.bipush 116, 2) := by decide +kernel
theorem dX11_readNever_122 : decode cX11_readNever 122 = .ok (.bipush 101, 2) := by decide +kernel
theorem dX11_readNever_124 : decode cX11_readNever 124 = .ok (.bipush 114, 2) := by decide +kernel
theorem dX11_readNever_126 : decode cX11_readNever 126 = .ok (.iconst 0, 1) := by decide +kernel
theorem dX11_readNever_127 : decode cX11_readNever 127 = .ok (.invokestatic 275, 3) := by decide +kernel
theorem dX11_readNever_130 : decode cX11_readNever 130 = .ok (.invokevirtual 279, 3) := by decide +kernel
theorem dX11_readNever_133 : decode cX11_readNever 133 = .ok (.istore_n 3, 1) := by decide +kernel
theorem dX11_readNever_134 : decode cX11_readNever 134 = .ok (.iload_n 3, 1) := by decide +kernel
theorem dX11_readNever_135 : decode cX11_readNever 135 = .ok (.ifCond .le 7, 3) := by decide +kernel
theorem dX11_readNever_138 : decode cX11_readNever 138 = .ok (.iload_n 3, 1) := by decide +kernel
theorem dX11_readNever_139 : decode cX11_readNever 139 = .ok (.goto 10, 3) := by decide +kernel
theorem dX11_readNever_142 : decode cX11_readNever 142 = .ok (.aload_n 0, 1) := by decide +kernel
theorem dX11_readNever_143 : decode cX11_readNever 143 = .ok (.iconst 0, 1) := by decide +kernel
theorem dX11_readNever_144 : decode cX11_readNever 144 = .ok (.bipush 60, 2) := by decide +kernel
theorem dX11_readNever_146 : decode cX11_readNever 146 = .ok (.invokevirtual 272, 3) := by decide +kernel
theorem dX11_readNever_149 : decode cX11_readNever 149 = .ok (.istore_n 3, 1) := by decide +kernel
theorem dX11_readNever_150 : decode cX11_readNever 150 = .ok (.aload_n 0, 1) := by decide +kernel
theorem dX11_readNever_151 : decode cX11_readNever 151 = .ok (.getfield 96, 3) := by decide +kernel
theorem dX11_readNever_154 : decode cX11_readNever 154 = .ok (.iload_n 1, 1) := by decide +kernel
theorem dX11_readNever_155 : decode cX11_readNever 155 = .ok (.aload_n 0, 1) := by decide +kernel
theorem dX11_readNever_156 : decode cX11_readNever 156 = .ok (.getfield 269, 3) := by decide +kernel
theorem dX11_readNever_159 : decode cX11_readNever 159 = .ok (.iastore, 1) := by decide +kernel
theorem dX11_readNever_160 : decode cX11_readNever 160 = .ok (.iload_n 3, 1) := by decide +kernel
theorem dX11_readNever_161 : decode cX11_readNever 161 = .ok (.ireturn, 1) := by decide +kernel
theorem dX11_readMost_0 : decode cX11_readMost 0 = .ok (.aload_n 0, 1) := by decide +kernel
theorem dX11_readMost_1 : decode cX11_readMost 1 = .ok (.iconst 0, 1) := by decide +kernel
theorem dX11_readMost_2 : decode cX11_readMost 2 = .ok (.bipush 9, 2) := by decide +kernel
theorem dX11_readMost_4 : decode cX11_readMost 4 = .ok (.invokevirtual 272, 3) := by decide +kernel
theorem dX11_readMost_7 : decode cX11_readMost 7 = .ok (.istore_n 2, 1) := by decide +kernel
theorem dX11_readMost_8 : decode cX11_readMost 8 = .ok (.aload_n 0, 1) := by decide +kernel
theorem dX11_readMost_9 : decode cX11_readMost 9 = .ok (.getfield 90, 3) := by decide +kernel
theorem dX11_readMost_12 : decode cX11_readMost 12 = .ok (.iload_n 1, 1) := by decide +kernel
theorem dX11_readMost_13 : decode cX11_readMost 13 = .ok (.iconst 3, 1) := by decide +kernel
theorem dX11_readMost_14 : decode cX11_readMost 14 = .ok (.iastore, 1) := by decide +kernel
theorem dX11_readMost_15 : decode cX11_readMost 15 = .ok (.aload_n 0, 1) := by decide +kernel
theorem dX11_readMost_16 : decode cX11_readMost 16 = .ok (.getfield 93, 3) := by decide +kernel
theorem dX11_readMost_19 : decode cX11_readMost 19 = .ok (.iload_n 1, 1) := by decide +kernel
theorem dX11_readMost_20 : decode cX11_readMost 20 = .ok (.aload_n 0, 1) := by decide +kernel
theorem dX11_readMost_21 : decode cX11_readMost 21 = .ok (.getfield 269, 3) := by decide +kernel
theorem dX11_readMost_24 : decode cX11_readMost 24 = .ok (.iastore, 1) := by decide +kernel
theorem dX11_readMost_25 : decode cX11_readMost 25 = .ok (.iload_n 2, 1) := by decide +kernel
theorem dX11_readMost_26 : decode cX11_readMost 26 = .ok (.ifCond .le 7, 3) := by decide +kernel
theorem dX11_readMost_29 : decode cX11_readMost 29 = .ok (.iload_n 2, 1) := by decide +kernel
theorem dX11_readMost_30 : decode cX11_readMost 30 = .ok (.goto 18, 3) := by decide +kernel
theorem dX11_readMost_33 : decode cX11_readMost 33 = .ok (.aload_n 0, 1) := by decide +kernel
theorem dX11_readMost_34 : decode cX11_readMost 34 = .ok (.bipush 105, 2) := by decide +kernel
theorem dX11_readMost_36 : decode cX11_readMost 36 = .ok (.bipush 110, 2) := by decide +kernel
theorem dX11_readMost_38 : decode cX11_readMost 38 = .ok (.iconst 0, 1) := by decide +kernel
theorem dX11_readMost_39 : decode cX11_readMost 39 = .ok (.iconst 0, 1) := by decide +kernel
theorem dX11_readMost_40 : decode cX11_readMost 40 = .ok (.iconst 0, 1) := by decide +kernel
theorem dX11_readMost_41 : decode cX11_readMost 41 = .ok (.iconst 0, 1) := by decide +kernel
theorem dX11_readMost_42 : decode cX11_readMost 42 = .ok (.invokestatic 275, 3) := by decide +kernel
theorem dX11_readMost_45 : decode cX11_readMost 45 = .ok (.invokevirtual 279, 3) := by decide +kernel
theorem dX11_readMost_48 : decode cX11_readMost 48 = .ok (.istore_n 2, 1) := by decide +kernel
theorem dX11_readMost_49 : decode cX11_readMost 49 = .ok (.iload_n 2, 1) := by decide +kernel
theorem dX11_readMost_50 : decode cX11_readMost 50 = .ok (.ifCond .le 7, 3) := by decide +kernel
theorem dX11_readMost_53 : decode cX11_readMost 53 = .ok (.iload_n 2, 1) := by decide +kernel
theorem dX11_readMost_54 : decode cX11_readMost 54 = .ok (.goto 10, 3) := by decide +kernel
theorem dX11_readMost_57 : decode cX11_readMost 57 = .ok (.aload_n 0, 1) := by decide +kernel
theorem dX11_readMost_58 : decode cX11_readMost 58 = .ok (.iconst 1, 1) := by decide +kernel
theorem dX11_readMost_59 : decode cX11_readMost 59 = .ok (.bipush 60, 2) := by decide +kernel
theorem dX11_readMost_61 : decode cX11_readMost 61 = .ok (.invokevirtual 272, 3) := by decide +kernel
theorem dX11_readMost_64 : decode cX11_readMost 64 = .ok (.istore_n 2, 1) := by decide +kernel
theorem dX11_readMost_65 : decode cX11_readMost 65 = .ok (.aload_n 0, 1) := by decide +kernel
theorem dX11_readMost_66 : decode cX11_readMost 66 = .ok (.getfield 96, 3) := by decide +kernel
theorem dX11_readMost_69 : decode cX11_readMost 69 = .ok (.iload_n 1, 1) := by decide +kernel
theorem dX11_readMost_70 : decode cX11_readMost 70 = .ok (.aload_n 0, 1) := by decide +kernel
theorem dX11_readMost_71 : decode cX11_readMost 71 = .ok (.getfield 269, 3) := by decide +kernel
theorem dX11_readMost_74 : decode cX11_readMost 74 = .ok (.iastore, 1) := by decide +kernel
theorem dX11_readMost_75 : decode cX11_readMost 75 = .ok (.iload_n 2, 1) := by decide +kernel
theorem dX11_readMost_76 : decode cX11_readMost 76 = .ok (.ireturn, 1) := by decide +kernel
theorem dX11_readAlways_0 : decode cX11_readAlways 0 = .ok (.aload_n 0, 1) := by decide +kernel
theorem dX11_readAlways_1 : decode cX11_readAlways 1 = .ok (.bipush 102, 2) := by decide +kernel
theorem dX11_readAlways_3 : decode cX11_readAlways 3 = .ok (.bipush 114, 2) := by decide +kernel
theorem dX11_readAlways_5 : decode cX11_readAlways 5 = .ok (.bipush 111, 2) := by decide +kernel
theorem dX11_readAlways_7 : decode cX11_readAlways 7 = .ok (.bipush 109, 2) := by decide +kernel
theorem dX11_readAlways_9 : decode cX11_readAlways 9 = .ok (.iconst 0, 1) := by decide +kernel
theorem dX11_readAlways_10 : decode cX11_readAlways 10 = .ok (.iconst 0, 1) := by decide +kernel
theorem dX11_readAlways_11 : decode cX11_readAlways 11 = .ok (.invokestatic 275, 3) := by decide +kernel
theorem dX11_readAlways_14 : decode cX11_readAlways 14 = .ok (.invokevirtual 279, 3) := by decide +kernel
theorem dX11_readAlways_17 : decode cX11_readAlways 17 = .ok (.istore_n 2, 1) := by decide +kernel
theorem dX11_readAlways_18 : decode cX11_readAlways 18 = .ok (.iload_n 2, 1) := by decide +kernel
theorem dX11_readAlways_19 : decode cX11_readAlways 19 = .ok (.ifCond .le 7, 3) := by decide +kernel
theorem dX11_readAlways_22 : decode cX11_readAlways 22 = .ok (.iload_n 2, 1) := by decide +kernel
theorem dX11_readAlways_23 : decode cX11_readAlways 23 = .ok (.goto 10, 3) := by decide +kernel
theorem dX11_readAlways_26 : decode cX11_readAlways 26 = .ok (.aload_n 0, 1) := by decide +kernel
theorem dX11_readAlways_27 : decode cX11_readAlways 27 = .ok (.iconst 0, 1) := by decide +kernel
theorem dX11_readAlways_28 : decode cX11_readAlways 28 = .ok (.bipush 9, 2) := by decide +kernel
theorem dX11_readAlways_30 : decode cX11_readAlways 30 = .ok (.invokevirtual 272, 3) := by decide +kernel
theorem dX11_readAlways_33 : decode cX11_readAlways 33 = .ok (.istore_n 2, 1) := by decide +kernel
theorem dX11_readAlways_34 : decode cX11_readAlways 34 = .ok (.aload_n 0, 1) := by decide +kernel
theorem dX11_readAlways_35 : decode cX11_readAlways 35 = .ok (.getfield 90, 3) := by decide +kernel
theorem dX11_readAlways_38 : decode cX11_readAlways 38 = .ok (.iload_n 1, 1) := by decide +kernel
theorem dX11_readAlways_39 : decode cX11_readAlways 39 = .ok (.iconst 4, 1) := by decide +kernel
theorem dX11_readAlways_40 : decode cX11_readAlways 40 = .ok (.iastore, 1) := by decide +kernel
theorem dX11_readAlways_41 : decode cX11_readAlways 41 = .ok (.aload_n 0, 1) := by decide +kernel
theorem dX11_readAlways_42 : decode cX11_readAlways 42 = .ok (.getfield 93, 3) := by decide +kernel
theorem dX11_readAlways_45 : decode cX11_readAlways 45 = .ok (.iload_n 1, 1) := by decide +kernel
theorem dX11_readAlways_46 : decode cX11_readAlways 46 = .ok (.aload_n 0, 1) := by decide +kernel
theorem dX11_readAlways_47 : decode cX11_readAlways 47 = .ok (.getfield 269, 3) := by decide +kernel
theorem dX11_readAlways_50 : decode cX11_readAlways 50 = .ok (.iastore, 1) := by decide +kernel
theorem dX11_readAlways_51 : decode cX11_readAlways 51 = .ok (.iload_n 2, 1) := by decide +kernel
theorem dX11_readAlways_52 : decode cX11_readAlways 52 = .ok (.ireturn, 1) := by decide +kernel
theorem dX11_readClause_0 : decode cX11_readClause 0 = .ok (.aload_n 0, 1) := by decide +kernel
theorem dX11_readClause_1 : decode cX11_readClause 1 = .ok (.invokevirtual 258, 3) := by decide +kernel
theorem dX11_readClause_4 : decode cX11_readClause 4 = .ok (.aload_n 0, 1) := by decide +kernel
theorem dX11_readClause_5 : decode cX11_readClause 5 = .ok (.getfield 239, 3) := by decide +kernel
theorem dX11_readClause_8 : decode cX11_readClause 8 = .ok (.bipush 110, 2) := by decide +kernel
theorem dX11_readClause_10 : decode cX11_readClause 10 = .ok (.bipush 101, 2) := by decide +kernel
theorem dX11_readClause_12 : decode cX11_readClause 12 = .ok (.bipush 118, 2) := by decide +kernel
theorem dX11_readClause_14 : decode cX11_readClause 14 = .ok (.bipush 101, 2) := by decide +kernel
theorem dX11_readClause_16 : decode cX11_readClause 16 = .ok (.bipush 114, 2) := by decide +kernel
theorem dX11_readClause_18 : decode cX11_readClause 18 = .ok (.iconst 0, 1) := by decide +kernel
theorem dX11_readClause_19 : decode cX11_readClause 19 = .ok (.invokestatic 275, 3) := by decide +kernel
theorem dX11_readClause_22 : decode cX11_readClause 22 = .ok (.lcmp, 1) := by decide +kernel
theorem dX11_readClause_23 : decode cX11_readClause 23 = .ok (.ifCond .ne 7, 3) := by decide +kernel
theorem dX11_readClause_26 : decode cX11_readClause 26 = .ok (.iconst 0, 1) := by decide +kernel
theorem dX11_readClause_27 : decode cX11_readClause 27 = .ok (.goto 56, 3) := by decide +kernel
theorem dX11_readClause_30 : decode cX11_readClause 30 = .ok (.aload_n 0, 1) := by decide +kernel
theorem dX11_readClause_31 : decode cX11_readClause 31 = .ok (.getfield 239, 3) := by decide +kernel
theorem dX11_readClause_34 : decode cX11_readClause 34 = .ok (.bipush 109, 2) := by decide +kernel
theorem dX11_readClause_36 : decode cX11_readClause 36 = .ok (.bipush 111, 2) := by decide +kernel
theorem dX11_readClause_38 : decode cX11_readClause 38 = .ok (.bipush 115, 2) := by decide +kernel
theorem dX11_readClause_40 : decode cX11_readClause 40 = .ok (.bipush 116, 2) := by decide +kernel
theorem dX11_readClause_42 : decode cX11_readClause 42 = .ok (.iconst 0, 1) := by decide +kernel
theorem dX11_readClause_43 : decode cX11_readClause 43 = .ok (.iconst 0, 1) := by decide +kernel
theorem dX11_readClause_44 : decode cX11_readClause 44 = .ok (.invokestatic 275, 3) := by decide +kernel
theorem dX11_readClause_47 : decode cX11_readClause 47 = .ok (.lcmp, 1) := by decide +kernel
theorem dX11_readClause_48 : decode cX11_readClause 48 = .ok (.ifCond .ne 7, 3) := by decide +kernel
theorem dX11_readClause_51 : decode cX11_readClause 51 = .ok (.iconst 1, 1) := by decide +kernel
theorem dX11_readClause_52 : decode cX11_readClause 52 = .ok (.goto 31, 3) := by decide +kernel
theorem dX11_readClause_55 : decode cX11_readClause 55 = .ok (.aload_n 0, 1) := by decide +kernel
theorem dX11_readClause_56 : decode cX11_readClause 56 = .ok (.getfield 239, 3) := by decide +kernel
theorem dX11_readClause_59 : decode cX11_readClause 59 = .ok (.bipush 97, 2) := by decide +kernel
theorem dX11_readClause_61 : decode cX11_readClause 61 = .ok (.bipush 108, 2) := by decide +kernel
theorem dX11_readClause_63 : decode cX11_readClause 63 = .ok (.bipush 119, 2) := by decide +kernel
theorem dX11_readClause_65 : decode cX11_readClause 65 = .ok (.bipush 97, 2) := by decide +kernel
theorem dX11_readClause_67 : decode cX11_readClause 67 = .ok (.bipush 121, 2) := by decide +kernel
theorem dX11_readClause_69 : decode cX11_readClause 69 = .ok (.bipush 115, 2) := by decide +kernel
theorem dX11_readClause_71 : decode cX11_readClause 71 = .ok (.invokestatic 275, 3) := by decide +kernel
theorem dX11_readClause_74 : decode cX11_readClause 74 = .ok (.lcmp, 1) := by decide +kernel
theorem dX11_readClause_75 : decode cX11_readClause 75 = .ok (.ifCond .ne 7, 3) := by decide +kernel
theorem dX11_readClause_78 : decode cX11_readClause 78 = .ok (.iconst 2, 1) := by decide +kernel
theorem dX11_readClause_79 : decode cX11_readClause 79 = .ok (.goto 4, 3) := by decide +kernel
theorem dX11_readClause_82 : decode cX11_readClause 82 = .ok (.iconst (-1), 1) := by decide +kernel
theorem dX11_readClause_83 : decode cX11_readClause 83 = .ok (.istore_n 2, 1) := by decide +kernel
theorem dX11_readClause_84 : decode cX11_readClause 84 = .ok (.iload_n 2, 1) := by decide +kernel
theorem dX11_readClause_85 : decode cX11_readClause 85 = .ok (.ifCond .lt 9, 3) := by decide +kernel
theorem dX11_readClause_88 : decode cX11_readClause 88 = .ok (.iload_n 1, 1) := by decide +kernel
theorem dX11_readClause_89 : decode cX11_readClause 89 = .ok (.bipush 8, 2) := by decide +kernel
theorem dX11_readClause_91 : decode cX11_readClause 91 = .ok (.if_icmp .ne 21, 3) := by decide +kernel
theorem dX11_readClause_94 : decode cX11_readClause 94 = .ok (.aload_n 0, 1) := by decide +kernel
theorem dX11_readClause_95 : decode cX11_readClause 95 = .ok (.iload_n 2, 1) := by decide +kernel
theorem dX11_readClause_96 : decode cX11_readClause 96 = .ok (.ifCond .ge 7, 3) := by decide +kernel
theorem dX11_readClause_99 : decode cX11_readClause 99 = .ok (.iconst 1, 1) := by decide +kernel
theorem dX11_readClause_100 : decode cX11_readClause 100 = .ok (.goto 4, 3) := by decide +kernel
theorem dX11_readClause_103 : decode cX11_readClause 103 = .ok (.iconst 3, 1) := by decide +kernel
theorem dX11_readClause_104 : decode cX11_readClause 104 = .ok (.aload_n 0, 1) := by decide +kernel
theorem dX11_readClause_105 : decode cX11_readClause 105 = .ok (.getfield 232, 3) := by decide +kernel
theorem dX11_readClause_108 : decode cX11_readClause 108 = .ok (.invokevirtual 261, 3) := by decide +kernel
theorem dX11_readClause_111 : decode cX11_readClause 111 = .ok (.ireturn, 1) := by decide +kernel
theorem dX11_readClause_112 : decode cX11_readClause 112 = .ok (.aload_n 0, 1) := by decide +kernel
theorem dX11_readClause_113 : decode cX11_readClause 113 = .ok (.aload_n 0, 1) := by decide +kernel
theorem dX11_readClause_114 : decode cX11_readClause 114 = .ok (.getfield 243, 3) := by decide +kernel
theorem dX11_readClause_117 : decode cX11_readClause 117 = .ok (.putfield 232, 3) := by decide +kernel
theorem dX11_readClause_120 : decode cX11_readClause 120 = .ok (.iload_n 2, 1) := by decide +kernel
theorem dX11_readClause_121 : decode cX11_readClause 121 = .ok (.ifCond .ne 11, 3) := by decide +kernel
theorem dX11_readClause_124 : decode cX11_readClause 124 = .ok (.aload_n 0, 1) := by decide +kernel
theorem dX11_readClause_125 : decode cX11_readClause 125 = .ok (.iload_n 1, 1) := by decide +kernel
theorem dX11_readClause_126 : decode cX11_readClause 126 = .ok (.invokevirtual 286, 3) := by decide +kernel
theorem dX11_readClause_129 : decode cX11_readClause 129 = .ok (.goto 21, 3) := by decide +kernel
theorem dX11_readClause_132 : decode cX11_readClause 132 = .ok (.iload_n 2, 1) := by decide +kernel
theorem dX11_readClause_133 : decode cX11_readClause 133 = .ok (.iconst 1, 1) := by decide +kernel
theorem dX11_readClause_134 : decode cX11_readClause 134 = .ok (.if_icmp .ne 11, 3) := by decide +kernel
theorem dX11_readClause_137 : decode cX11_readClause 137 = .ok (.aload_n 0, 1) := by decide +kernel
theorem dX11_readClause_138 : decode cX11_readClause 138 = .ok (.iload_n 1, 1) := by decide +kernel
theorem dX11_readClause_139 : decode cX11_readClause 139 = .ok (.invokevirtual 289, 3) := by decide +kernel
theorem dX11_readClause_142 : decode cX11_readClause 142 = .ok (.goto 8, 3) := by decide +kernel
theorem dX11_readClause_145 : decode cX11_readClause 145 = .ok (.aload_n 0, 1) := by decide +kernel
theorem dX11_readClause_146 : decode cX11_readClause 146 = .ok (.iload_n 1, 1) := by decide +kernel
theorem dX11_readClause_147 : decode cX11_readClause 147 = .ok (.invokevirtual 292, 3) := by decide +kernel
theorem dX11_readClause_150 : decode cX11_readClause 150 = .ok (.istore_n 3, 1) := by decide +kernel
theorem dX11_readClause_151 : decode cX11_readClause 151 = .ok (.iload_n 3, 1) := by decide +kernel
theorem dX11_readClause_152 : decode cX11_readClause 152 = .ok (.ifCond .le 5, 3) := by decide +kernel
theorem dX11_readClause_155 : decode cX11_readClause 155 = .ok (.iload_n 3, 1) := by decide +kernel
theorem dX11_readClause_156 : decode cX11_readClause 156 = .ok (.ireturn, 1) := by decide +kernel
theorem dX11_readClause_157 : decode cX11_readClause 157 = .ok (.aload_n 0, 1) := by decide +kernel
theorem dX11_readClause_158 : decode cX11_readClause 158 = .ok (.invokevirtual 235, 3) := by decide +kernel
theorem dX11_readClause_161 : decode cX11_readClause 161 = .ok (.bipush 59, 2) := by decide +kernel
theorem dX11_readClause_163 : decode cX11_readClause 163 = .ok (.if_icmp .eq 13, 3) := by decide +kernel
theorem dX11_readClause_166 : decode cX11_readClause 166 = .ok (.aload_n 0, 1) := by decide +kernel
theorem dX11_readClause_167 : decode cX11_readClause 167 = .ok (.iconst 1, 1) := by decide +kernel
theorem dX11_readClause_168 : decode cX11_readClause 168 = .ok (.aload_n 0, 1) := by decide +kernel
theorem dX11_readClause_169 : decode cX11_readClause 169 = .ok (.getfield 232, 3) := by decide +kernel
theorem dX11_readClause_172 : decode cX11_readClause 172 = .ok (.invokevirtual 261, 3) := by decide +kernel
theorem dX11_readClause_175 : decode cX11_readClause 175 = .ok (.ireturn, 1) := by decide +kernel
theorem dX11_readClause_176 : decode cX11_readClause 176 = .ok (.aload_n 0, 1) := by decide +kernel
theorem dX11_readClause_177 : decode cX11_readClause 177 = .ok (.dup, 1) := by decide +kernel
theorem dX11_readClause_178 : decode cX11_readClause 178 = .ok (.getfield 232, 3) := by decide +kernel
theorem dX11_readClause_181 : decode cX11_readClause 181 = .ok (.iconst 1, 1) := by decide +kernel
theorem dX11_readClause_182 : decode cX11_readClause 182 = .ok (.iadd, 1) := by decide +kernel
theorem dX11_readClause_183 : decode cX11_readClause 183 = .ok (.putfield 232, 3) := by decide +kernel
theorem dX11_readClause_186 : decode cX11_readClause 186 = .ok (.iconst 0, 1) := by decide +kernel
theorem dX11_readClause_187 : decode cX11_readClause 187 = .ok (.ireturn, 1) := by decide +kernel
