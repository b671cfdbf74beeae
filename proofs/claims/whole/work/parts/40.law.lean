theorem dLa_law_0 : decode code 0 = .ok (.new 8, 3) := by decide +kernel
theorem dLa_law_3 : decode code 3 = .ok (.dup, 1) := by decide +kernel
theorem dLa_law_4 : decode code 4 = .ok (.invokespecial 55, 3) := by decide +kernel
theorem dLa_law_7 : decode code 7 = .ok (.astore_n 1, 1) := by decide +kernel
theorem dLa_law_8 : decode code 8 = .ok (.new 56, 3) := by decide +kernel
theorem dLa_law_11 : decode code 11 = .ok (.dup, 1) := by decide +kernel
theorem dLa_law_12 : decode code 12 = .ok (.invokespecial 58, 3) := by decide +kernel
theorem dLa_law_15 : decode code 15 = .ok (.astore_n 2, 1) := by decide +kernel
theorem dLa_law_16 : decode code 16 = .ok (.iconst 1, 1) := by decide +kernel
theorem dLa_law_17 : decode code 17 = .ok (.newarray .long, 2) := by decide +kernel
theorem dLa_law_19 : decode code 19 = .ok (.astore_n 3, 1) := by decide +kernel
theorem dLa_law_20 : decode code 20 = .ok (.iconst 0, 1) := by decide +kernel
theorem dLa_law_21 : decode code 21 = .ok (.istore 4, 2) := by decide +kernel
theorem dLa_law_23 : decode code 23 = .ok (.iload 4, 2) := by decide +kernel
theorem dLa_law_25 : decode code 25 = .ok (.aload_n 0, 1) := by decide +kernel
theorem dLa_law_26 : decode code 26 = .ok (.arraylength, 1) := by decide +kernel
theorem dLa_law_27 : decode code 27 = .ok (.bipush 6, 2) := by decide +kernel
theorem dLa_law_29 : decode code 29 = .ok (.isub, 1) := by decide +kernel
theorem dLa_law_30 : decode code 30 = .ok (.if_icmp .gt 860, 3) := by decide +kernel
theorem dLa_law_33 : decode code 33 = .ok (.aload_n 0, 1) := by decide +kernel
theorem dLa_law_34 : decode code 34 = .ok (.iload 4, 2) := by decide +kernel
theorem dLa_law_36 : decode code 36 = .ok (.iaload, 1) := by decide +kernel
theorem dLa_law_37 : decode code 37 = .ok (.bipush 15, 2) := by decide +kernel
theorem dLa_law_39 : decode code 39 = .ok (.iand, 1) := by decide +kernel
theorem dLa_law_40 : decode code 40 = .ok (.tableswitch 844 0 12 #[68, 116, 220, 231, 287, 379, 459, 551, 607, 663, 719, 763, 776], 68) := by decide +kernel
theorem dLa_law_108 : decode code 108 = .ok (.aload_n 1, 1) := by decide +kernel
theorem dLa_law_109 : decode code 109 = .ok (.aload_n 0, 1) := by decide +kernel
theorem dLa_law_110 : decode code 110 = .ok (.iload 4, 2) := by decide +kernel
theorem dLa_law_112 : decode code 112 = .ok (.iconst 1, 1) := by decide +kernel
theorem dLa_law_113 : decode code 113 = .ok (.iadd, 1) := by decide +kernel
theorem dLa_law_114 : decode code 114 = .ok (.iaload, 1) := by decide +kernel
theorem dLa_law_115 : decode code 115 = .ok (.aload_n 0, 1) := by decide +kernel
theorem dLa_law_116 : decode code 116 = .ok (.iload 4, 2) := by decide +kernel
theorem dLa_law_118 : decode code 118 = .ok (.iconst 2, 1) := by decide +kernel
theorem dLa_law_119 : decode code 119 = .ok (.iadd, 1) := by decide +kernel
theorem dLa_law_120 : decode code 120 = .ok (.iaload, 1) := by decide +kernel
theorem dLa_law_121 : decode code 121 = .ok (.invokestatic 59, 3) := by decide +kernel
theorem dLa_law_124 : decode code 124 = .ok (.istore 5, 2) := by decide +kernel
theorem dLa_law_126 : decode code 126 = .ok (.aload_n 2, 1) := by decide +kernel
theorem dLa_law_127 : decode code 127 = .ok (.aload_n 0, 1) := by decide +kernel
theorem dLa_law_128 : decode code 128 = .ok (.iload 4, 2) := by decide +kernel
theorem dLa_law_130 : decode code 130 = .ok (.iconst 1, 1) := by decide +kernel
theorem dLa_law_131 : decode code 131 = .ok (.iadd, 1) := by decide +kernel
theorem dLa_law_132 : decode code 132 = .ok (.iaload, 1) := by decide +kernel
theorem dLa_law_133 : decode code 133 = .ok (.aload_n 0, 1) := by decide +kernel
theorem dLa_law_134 : decode code 134 = .ok (.iload 4, 2) := by decide +kernel
theorem dLa_law_136 : decode code 136 = .ok (.iconst 2, 1) := by decide +kernel
theorem dLa_law_137 : decode code 137 = .ok (.iadd, 1) := by decide +kernel
theorem dLa_law_138 : decode code 138 = .ok (.iaload, 1) := by decide +kernel
theorem dLa_law_139 : decode code 139 = .ok (.invokevirtual 64, 3) := by decide +kernel
theorem dLa_law_142 : decode code 142 = .ok (.aload_n 2, 1) := by decide +kernel
theorem dLa_law_143 : decode code 143 = .ok (.invokevirtual 65, 3) := by decide +kernel
theorem dLa_law_146 : decode code 146 = .ok (.iload 5, 2) := by decide +kernel
theorem dLa_law_148 : decode code 148 = .ok (.if_icmp .eq 5, 3) := by decide +kernel
theorem dLa_law_151 : decode code 151 = .ok (.iconst 0, 1) := by decide +kernel
theorem dLa_law_152 : decode code 152 = .ok (.ireturn, 1) := by decide +kernel
theorem dLa_law_153 : decode code 153 = .ok (.goto 731, 3) := by decide +kernel
theorem dLa_law_156 : decode code 156 = .ok (.aload_n 1, 1) := by decide +kernel
theorem dLa_law_157 : decode code 157 = .ok (.aload_n 0, 1) := by decide +kernel
theorem dLa_law_158 : decode code 158 = .ok (.iload 4, 2) := by decide +kernel
theorem dLa_law_160 : decode code 160 = .ok (.iconst 1, 1) := by decide +kernel
theorem dLa_law_161 : decode code 161 = .ok (.iadd, 1) := by decide +kernel
theorem dLa_law_162 : decode code 162 = .ok (.iaload, 1) := by decide +kernel
theorem dLa_law_163 : decode code 163 = .ok (.aload_n 0, 1) := by decide +kernel
theorem dLa_law_164 : decode code 164 = .ok (.iload 4, 2) := by decide +kernel
theorem dLa_law_166 : decode code 166 = .ok (.iconst 2, 1) := by decide +kernel
theorem dLa_law_167 : decode code 167 = .ok (.iadd, 1) := by decide +kernel
theorem dLa_law_168 : decode code 168 = .ok (.iaload, 1) := by decide +kernel
theorem dLa_law_169 : decode code 169 = .ok (.aload_n 0, 1) := by decide +kernel
theorem dLa_law_170 : decode code 170 = .ok (.iload 4, 2) := by decide +kernel
theorem dLa_law_172 : decode code 172 = .ok (.iconst 3, 1) := by decide +kernel
theorem dLa_law_173 : decode code 173 = .ok (.iadd, 1) := by decide +kernel
theorem dLa_law_174 : decode code 174 = .ok (.iaload, 1) := by decide +kernel
theorem dLa_law_175 : decode code 175 = .ok (.aload_n 0, 1) := by decide +kernel
theorem dLa_law_176 : decode code 176 = .ok (.iload 4, 2) := by decide +kernel
theorem dLa_law_178 : decode code 178 = .ok (.iconst 4, 1) := by decide +kernel
theorem dLa_law_179 : decode code 179 = .ok (.iadd, 1) := by decide +kernel
theorem dLa_law_180 : decode code 180 = .ok (.iaload, 1) := by decide +kernel
theorem dLa_law_181 : decode code 181 = .ok (.aload_n 0, 1) := by decide +kernel
theorem dLa_law_182 : decode code 182 = .ok (.iload 4, 2) := by decide +kernel
theorem dLa_law_184 : decode code 184 = .ok (.iconst 5, 1) := by decide +kernel
theorem dLa_law_185 : decode code 185 = .ok (.iadd, 1) := by decide +kernel
theorem dLa_law_186 : decode code 186 = .ok (.iaload, 1) := by decide +kernel
theorem dLa_law_187 : decode code 187 = .ok (.aload_n 3, 1) := by decide +kernel
theorem dLa_law_188 : decode code 188 = .ok (.invokestatic 68, 3) := by decide +kernel
theorem dLa_law_191 : decode code 191 = .ok (.istore 5, 2) := by decide +kernel
theorem dLa_law_193 : decode code 193 = .ok (.aload_n 2, 1) := by decide +kernel
theorem dLa_law_194 : decode code 194 = .ok (.aload_n 0, 1) := by decide +kernel
theorem dLa_law_195 : decode code 195 = .ok (.iload 4, 2) := by decide +kernel
theorem dLa_law_197 : decode code 197 = .ok (.iconst 1, 1) := by decide +kernel
theorem dLa_law_198 : decode code 198 = .ok (.iadd, 1) := by decide +kernel
theorem dLa_law_199 : decode code 199 = .ok (.iaload, 1) := by decide +kernel
theorem dLa_law_200 : decode code 200 = .ok (.aload_n 0, 1) := by decide +kernel
theorem dLa_law_201 : decode code 201 = .ok (.iload 4, 2) := by decide +kernel
theorem dLa_law_203 : decode code 203 = .ok (.iconst 2, 1) := by decide +kernel
theorem dLa_law_204 : decode code 204 = .ok (.iadd, 1) := by decide +kernel
theorem dLa_law_205 : decode code 205 = .ok (.iaload, 1) := by decide +kernel
theorem dLa_law_206 : decode code 206 = .ok (.aload_n 0, 1) := by decide +kernel
theorem dLa_law_207 : decode code 207 = .ok (.iload 4, 2) := by decide +kernel
theorem dLa_law_209 : decode code 209 = .ok (.iconst 3, 1) := by decide +kernel
theorem dLa_law_210 : decode code 210 = .ok (.iadd, 1) := by decide +kernel
theorem dLa_law_211 : decode code 211 = .ok (.iaload, 1) := by decide +kernel
theorem dLa_law_212 : decode code 212 = .ok (.aload_n 0, 1) := by decide +kernel
theorem dLa_law_213 : decode code 213 = .ok (.iload 4, 2) := by decide +kernel
theorem dLa_law_215 : decode code 215 = .ok (.iconst 4, 1) := by decide +kernel
theorem dLa_law_216 : decode code 216 = .ok (.iadd, 1) := by decide +kernel
theorem dLa_law_217 : decode code 217 = .ok (.iaload, 1) := by decide +kernel
theorem dLa_law_218 : decode code 218 = .ok (.aload_n 0, 1) := by decide +kernel
theorem dLa_law_219 : decode code 219 = .ok (.iload 4, 2) := by decide +kernel
theorem dLa_law_221 : decode code 221 = .ok (.iconst 5, 1) := by decide +kernel
theorem dLa_law_222 : decode code 222 = .ok (.iadd, 1) := by decide +kernel
theorem dLa_law_223 : decode code 223 = .ok (.iaload, 1) := by decide +kernel
theorem dLa_law_224 : decode code 224 = .ok (.invokevirtual 71, 3) := by decide +kernel
theorem dLa_law_227 : decode code 227 = .ok (.istore 6, 2) := by decide +kernel
theorem dLa_law_229 : decode code 229 = .ok (.aload_n 2, 1) := by decide +kernel
theorem dLa_law_230 : decode code 230 = .ok (.invokevirtual 65, 3) := by decide +kernel
theorem dLa_law_233 : decode code 233 = .ok (.iload 5, 2) := by decide +kernel
theorem dLa_law_235 : decode code 235 = .ok (.if_icmp .eq 5, 3) := by decide +kernel
theorem dLa_law_238 : decode code 238 = .ok (.iconst 0, 1) := by decide +kernel
theorem dLa_law_239 : decode code 239 = .ok (.ireturn, 1) := by decide +kernel
theorem dLa_law_240 : decode code 240 = .ok (.iload 5, 2) := by decide +kernel
theorem dLa_law_242 : decode code 242 = .ok (.ifCond .ne 15, 3) := by decide +kernel
theorem dLa_law_245 : decode code 245 = .ok (.aload_n 3, 1) := by decide +kernel
theorem dLa_law_246 : decode code 246 = .ok (.iconst 0, 1) := by decide +kernel
theorem dLa_law_247 : decode code 247 = .ok (.laload, 1) := by decide +kernel
theorem dLa_law_248 : decode code 248 = .ok (.iload 6, 2) := by decide +kernel
theorem dLa_law_250 : decode code 250 = .ok (.i2l, 1) := by decide +kernel
theorem dLa_law_251 : decode code 251 = .ok (.lcmp, 1) := by decide +kernel
theorem dLa_law_252 : decode code 252 = .ok (.ifCond .eq 5, 3) := by decide +kernel
theorem dLa_law_255 : decode code 255 = .ok (.iconst 0, 1) := by decide +kernel
theorem dLa_law_256 : decode code 256 = .ok (.ireturn, 1) := by decide +kernel
theorem dLa_law_257 : decode code 257 = .ok (.goto 627, 3) := by decide +kernel
theorem dLa_law_260 : decode code 260 = .ok (.aload_n 1, 1) := by decide +kernel
theorem dLa_law_261 : decode code 261 = .ok (.invokevirtual 72, 3) := by decide +kernel
theorem dLa_law_264 : decode code 264 = .ok (.aload_n 2, 1) := by decide +kernel
theorem dLa_law_265 : decode code 265 = .ok (.invokevirtual 75, 3) := by decide +kernel
theorem dLa_law_268 : decode code 268 = .ok (.goto 616, 3) := by decide +kernel
theorem dLa_law_271 : decode code 271 = .ok (.aload_n 1, 1) := by decide +kernel
theorem dLa_law_272 : decode code 272 = .ok (.aload_n 0, 1) := by decide +kernel
theorem dLa_law_273 : decode code 273 = .ok (.iload 4, 2) := by decide +kernel
theorem dLa_law_275 : decode code 275 = .ok (.iconst 1, 1) := by decide +kernel
theorem dLa_law_276 : decode code 276 = .ok (.iadd, 1) := by decide +kernel
theorem dLa_law_277 : decode code 277 = .ok (.iaload, 1) := by decide +kernel
theorem dLa_law_278 : decode code 278 = .ok (.aload_n 3, 1) := by decide +kernel
theorem dLa_law_279 : decode code 279 = .ok (.invokestatic 76, 3) := by decide +kernel
theorem dLa_law_282 : decode code 282 = .ok (.istore 5, 2) := by decide +kernel
theorem dLa_law_284 : decode code 284 = .ok (.aload_n 2, 1) := by decide +kernel
theorem dLa_law_285 : decode code 285 = .ok (.aload_n 0, 1) := by decide +kernel
theorem dLa_law_286 : decode code 286 = .ok (.iload 4, 2) := by decide +kernel
theorem dLa_law_288 : decode code 288 = .ok (.iconst 1, 1) := by decide +kernel
theorem dLa_law_289 : decode code 289 = .ok (.iadd, 1) := by decide +kernel
theorem dLa_law_290 : decode code 290 = .ok (.iaload, 1) := by decide +kernel
theorem dLa_law_291 : decode code 291 = .ok (.invokevirtual 79, 3) := by decide +kernel
theorem dLa_law_294 : decode code 294 = .ok (.istore 6, 2) := by decide +kernel
theorem dLa_law_296 : decode code 296 = .ok (.aload_n 2, 1) := by decide +kernel
theorem dLa_law_297 : decode code 297 = .ok (.invokevirtual 65, 3) := by decide +kernel
theorem dLa_law_300 : decode code 300 = .ok (.iload 5, 2) := by decide +kernel
theorem dLa_law_302 : decode code 302 = .ok (.if_icmp .eq 5, 3) := by decide +kernel
theorem dLa_law_305 : decode code 305 = .ok (.iconst 0, 1) := by decide +kernel
theorem dLa_law_306 : decode code 306 = .ok (.ireturn, 1) := by decide +kernel
theorem dLa_law_307 : decode code 307 = .ok (.iload 5, 2) := by decide +kernel
theorem dLa_law_309 : decode code 309 = .ok (.ifCond .ne 15, 3) := by decide +kernel
theorem dLa_law_312 : decode code 312 = .ok (.aload_n 3, 1) := by decide +kernel
theorem dLa_law_313 : decode code 313 = .ok (.iconst 0, 1) := by decide +kernel
theorem dLa_law_314 : decode code 314 = .ok (.laload, 1) := by decide +kernel
theorem dLa_law_315 : decode code 315 = .ok (.iload 6, 2) := by decide +kernel
theorem dLa_law_317 : decode code 317 = .ok (.i2l, 1) := by decide +kernel
theorem dLa_law_318 : decode code 318 = .ok (.lcmp, 1) := by decide +kernel
theorem dLa_law_319 : decode code 319 = .ok (.ifCond .eq 5, 3) := by decide +kernel
theorem dLa_law_322 : decode code 322 = .ok (.iconst 0, 1) := by decide +kernel
theorem dLa_law_323 : decode code 323 = .ok (.ireturn, 1) := by decide +kernel
theorem dLa_law_324 : decode code 324 = .ok (.goto 560, 3) := by decide +kernel
theorem dLa_law_327 : decode code 327 = .ok (.aload_n 1, 1) := by decide +kernel
theorem dLa_law_328 : decode code 328 = .ok (.aload_n 0, 1) := by decide +kernel
theorem dLa_law_329 : decode code 329 = .ok (.iload 4, 2) := by decide +kernel
theorem dLa_law_331 : decode code 331 = .ok (.iconst 1, 1) := by decide +kernel
theorem dLa_law_332 : decode code 332 = .ok (.iadd, 1) := by decide +kernel
theorem dLa_law_333 : decode code 333 = .ok (.iaload, 1) := by decide +kernel
theorem dLa_law_334 : decode code 334 = .ok (.aload_n 0, 1) := by decide +kernel
theorem dLa_law_335 : decode code 335 = .ok (.iload 4, 2) := by decide +kernel
theorem dLa_law_337 : decode code 337 = .ok (.iconst 2, 1) := by decide +kernel
theorem dLa_law_338 : decode code 338 = .ok (.iadd, 1) := by decide +kernel
theorem dLa_law_339 : decode code 339 = .ok (.iaload, 1) := by decide +kernel
theorem dLa_law_340 : decode code 340 = .ok (.aload_n 0, 1) := by decide +kernel
theorem dLa_law_341 : decode code 341 = .ok (.iload 4, 2) := by decide +kernel
theorem dLa_law_343 : decode code 343 = .ok (.iconst 3, 1) := by decide +kernel
theorem dLa_law_344 : decode code 344 = .ok (.iadd, 1) := by decide +kernel
theorem dLa_law_345 : decode code 345 = .ok (.iaload, 1) := by decide +kernel
theorem dLa_law_346 : decode code 346 = .ok (.aload_n 0, 1) := by decide +kernel
theorem dLa_law_347 : decode code 347 = .ok (.iload 4, 2) := by decide +kernel
theorem dLa_law_349 : decode code 349 = .ok (.iconst 4, 1) := by decide +kernel
theorem dLa_law_350 : decode code 350 = .ok (.iadd, 1) := by decide +kernel
theorem dLa_law_351 : decode code 351 = .ok (.iaload, 1) := by decide +kernel
theorem dLa_law_352 : decode code 352 = .ok (.aload_n 3, 1) := by decide +kernel
theorem dLa_law_353 : decode code 353 = .ok (.invokestatic 80, 3) := by decide +kernel
theorem dLa_law_356 : decode code 356 = .ok (.istore 5, 2) := by decide +kernel
theorem dLa_law_358 : decode code 358 = .ok (.aload_n 2, 1) := by decide +kernel
theorem dLa_law_359 : decode code 359 = .ok (.aload_n 0, 1) := by decide +kernel
theorem dLa_law_360 : decode code 360 = .ok (.iload 4, 2) := by decide +kernel
theorem dLa_law_362 : decode code 362 = .ok (.iconst 1, 1) := by decide +kernel
theorem dLa_law_363 : decode code 363 = .ok (.iadd, 1) := by decide +kernel
theorem dLa_law_364 : decode code 364 = .ok (.iaload, 1) := by decide +kernel
theorem dLa_law_365 : decode code 365 = .ok (.aload_n 0, 1) := by decide +kernel
theorem dLa_law_366 : decode code 366 = .ok (.iload 4, 2) := by decide +kernel
theorem dLa_law_368 : decode code 368 = .ok (.iconst 2, 1) := by decide +kernel
theorem dLa_law_369 : decode code 369 = .ok (.iadd, 1) := by decide +kernel
theorem dLa_law_370 : decode code 370 = .ok (.iaload, 1) := by decide +kernel
theorem dLa_law_371 : decode code 371 = .ok (.aload_n 0, 1) := by decide +kernel
theorem dLa_law_372 : decode code 372 = .ok (.iload 4, 2) := by decide +kernel
theorem dLa_law_374 : decode code 374 = .ok (.iconst 3, 1) := by decide +kernel
theorem dLa_law_375 : decode code 375 = .ok (.iadd, 1) := by decide +kernel
theorem dLa_law_376 : decode code 376 = .ok (.iaload, 1) := by decide +kernel
theorem dLa_law_377 : decode code 377 = .ok (.aload_n 0, 1) := by decide +kernel
theorem dLa_law_378 : decode code 378 = .ok (.iload 4, 2) := by decide +kernel
theorem dLa_law_380 : decode code 380 = .ok (.iconst 4, 1) := by decide +kernel
theorem dLa_law_381 : decode code 381 = .ok (.iadd, 1) := by decide +kernel
theorem dLa_law_382 : decode code 382 = .ok (.iaload, 1) := by decide +kernel
theorem dLa_law_383 : decode code 383 = .ok (.invokevirtual 83, 3) := by decide +kernel
theorem dLa_law_386 : decode code 386 = .ok (.istore 6, 2) := by decide +kernel
theorem dLa_law_388 : decode code 388 = .ok (.aload_n 2, 1) := by decide +kernel
theorem dLa_law_389 : decode code 389 = .ok (.invokevirtual 65, 3) := by decide +kernel
theorem dLa_law_392 : decode code 392 = .ok (.iload 5, 2) := by decide +kernel
theorem dLa_law_394 : decode code 394 = .ok (.if_icmp .eq 5, 3) := by decide +kernel
theorem dLa_law_397 : decode code 397 = .ok (.iconst 0, 1) := by decide +kernel
theorem dLa_law_398 : decode code 398 = .ok (.ireturn, 1) := by decide +kernel
theorem dLa_law_399 : decode code 399 = .ok (.iload 5, 2) := by decide +kernel
theorem dLa_law_401 : decode code 401 = .ok (.ifCond .ne 15, 3) := by decide +kernel
theorem dLa_law_404 : decode code 404 = .ok (.aload_n 3, 1) := by decide +kernel
theorem dLa_law_405 : decode code 405 = .ok (.iconst 0, 1) := by decide +kernel
theorem dLa_law_406 : decode code 406 = .ok (.laload, 1) := by decide +kernel
theorem dLa_law_407 : decode code 407 = .ok (.iload 6, 2) := by decide +kernel
theorem dLa_law_409 : decode code 409 = .ok (.i2l, 1) := by decide +kernel
theorem dLa_law_410 : decode code 410 = .ok (.lcmp, 1) := by decide +kernel
theorem dLa_law_411 : decode code 411 = .ok (.ifCond .eq 5, 3) := by decide +kernel
theorem dLa_law_414 : decode code 414 = .ok (.iconst 0, 1) := by decide +kernel
theorem dLa_law_415 : decode code 415 = .ok (.ireturn, 1) := by decide +kernel
theorem dLa_law_416 : decode code 416 = .ok (.goto 468, 3) := by decide +kernel
theorem dLa_law_419 : decode code 419 = .ok (.aload_n 1, 1) := by decide +kernel
theorem dLa_law_420 : decode code 420 = .ok (.aload_n 0, 1) := by decide +kernel
theorem dLa_law_421 : decode code 421 = .ok (.iload 4, 2) := by decide +kernel
theorem dLa_law_423 : decode code 423 = .ok (.iconst 1, 1) := by decide +kernel
theorem dLa_law_424 : decode code 424 = .ok (.iadd, 1) := by decide +kernel
theorem dLa_law_425 : decode code 425 = .ok (.iaload, 1) := by decide +kernel
theorem dLa_law_426 : decode code 426 = .ok (.aload_n 0, 1) := by decide +kernel
theorem dLa_law_427 : decode code 427 = .ok (.iload 4, 2) := by decide +kernel
theorem dLa_law_429 : decode code 429 = .ok (.iconst 2, 1) := by decide +kernel
theorem dLa_law_430 : decode code 430 = .ok (.iadd, 1) := by decide +kernel
theorem dLa_law_431 : decode code 431 = .ok (.iaload, 1) := by decide +kernel
theorem dLa_law_432 : decode code 432 = .ok (.aload_n 0, 1) := by decide +kernel
theorem dLa_law_433 : decode code 433 = .ok (.iload 4, 2) := by decide +kernel
theorem dLa_law_435 : decode code 435 = .ok (.iconst 3, 1) := by decide +kernel
theorem dLa_law_436 : decode code 436 = .ok (.iadd, 1) := by decide +kernel
theorem dLa_law_437 : decode code 437 = .ok (.iaload, 1) := by decide +kernel
theorem dLa_law_438 : decode code 438 = .ok (.aload_n 3, 1) := by decide +kernel
theorem dLa_law_439 : decode code 439 = .ok (.invokestatic 84, 3) := by decide +kernel
theorem dLa_law_442 : decode code 442 = .ok (.istore 5, 2) := by decide +kernel
theorem dLa_law_444 : decode code 444 = .ok (.aload_n 2, 1) := by decide +kernel
theorem dLa_law_445 : decode code 445 = .ok (.aload_n 0, 1) := by decide +kernel
theorem dLa_law_446 : decode code 446 = .ok (.iload 4, 2) := by decide +kernel
theorem dLa_law_448 : decode code 448 = .ok (.iconst 1, 1) := by decide +kernel
theorem dLa_law_449 : decode code 449 = .ok (.iadd, 1) := by decide +kernel
theorem dLa_law_450 : decode code 450 = .ok (.iaload, 1) := by decide +kernel
theorem dLa_law_451 : decode code 451 = .ok (.aload_n 0, 1) := by decide +kernel
theorem dLa_law_452 : decode code 452 = .ok (.iload 4, 2) := by decide +kernel
theorem dLa_law_454 : decode code 454 = .ok (.iconst 2, 1) := by decide +kernel
theorem dLa_law_455 : decode code 455 = .ok (.iadd, 1) := by decide +kernel
theorem dLa_law_456 : decode code 456 = .ok (.iaload, 1) := by decide +kernel
theorem dLa_law_457 : decode code 457 = .ok (.aload_n 0, 1) := by decide +kernel
theorem dLa_law_458 : decode code 458 = .ok (.iload 4, 2) := by decide +kernel
theorem dLa_law_460 : decode code 460 = .ok (.iconst 3, 1) := by decide +kernel
theorem dLa_law_461 : decode code 461 = .ok (.iadd, 1) := by decide +kernel
theorem dLa_law_462 : decode code 462 = .ok (.iaload, 1) := by decide +kernel
theorem dLa_law_463 : decode code 463 = .ok (.invokevirtual 87, 3) := by decide +kernel
theorem dLa_law_466 : decode code 466 = .ok (.istore 6, 2) := by decide +kernel
theorem dLa_law_468 : decode code 468 = .ok (.aload_n 2, 1) := by decide +kernel
theorem dLa_law_469 : decode code 469 = .ok (.invokevirtual 65, 3) := by decide +kernel
theorem dLa_law_472 : decode code 472 = .ok (.iload 5, 2) := by decide +kernel
theorem dLa_law_474 : decode code 474 = .ok (.if_icmp .eq 5, 3) := by decide +kernel
theorem dLa_law_477 : decode code 477 = .ok (.iconst 0, 1) := by decide +kernel
theorem dLa_law_478 : decode code 478 = .ok (.ireturn, 1) := by decide +kernel
theorem dLa_law_479 : decode code 479 = .ok (.iload 5, 2) := by decide +kernel
theorem dLa_law_481 : decode code 481 = .ok (.ifCond .ne 15, 3) := by decide +kernel
theorem dLa_law_484 : decode code 484 = .ok (.aload_n 3, 1) := by decide +kernel
theorem dLa_law_485 : decode code 485 = .ok (.iconst 0, 1) := by decide +kernel
theorem dLa_law_486 : decode code 486 = .ok (.laload, 1) := by decide +kernel
theorem dLa_law_487 : decode code 487 = .ok (.iload 6, 2) := by decide +kernel
theorem dLa_law_489 : decode code 489 = .ok (.i2l, 1) := by decide +kernel
theorem dLa_law_490 : decode code 490 = .ok (.lcmp, 1) := by decide +kernel
theorem dLa_law_491 : decode code 491 = .ok (.ifCond .eq 5, 3) := by decide +kernel
theorem dLa_law_494 : decode code 494 = .ok (.iconst 0, 1) := by decide +kernel
theorem dLa_law_495 : decode code 495 = .ok (.ireturn, 1) := by decide +kernel
theorem dLa_law_496 : decode code 496 = .ok (.goto 388, 3) := by decide +kernel
theorem dLa_law_499 : decode code 499 = .ok (.aload_n 1, 1) := by decide +kernel
theorem dLa_law_500 : decode code 500 = .ok (.aload_n 0, 1) := by decide +kernel
theorem dLa_law_501 : decode code 501 = .ok (.iload 4, 2) := by decide +kernel
theorem dLa_law_503 : decode code 503 = .ok (.iconst 1, 1) := by decide +kernel
theorem dLa_law_504 : decode code 504 = .ok (.iadd, 1) := by decide +kernel
theorem dLa_law_505 : decode code 505 = .ok (.iaload, 1) := by decide +kernel
theorem dLa_law_506 : decode code 506 = .ok (.aload_n 0, 1) := by decide +kernel
theorem dLa_law_507 : decode code 507 = .ok (.iload 4, 2) := by decide +kernel
theorem dLa_law_509 : decode code 509 = .ok (.iconst 2, 1) := by decide +kernel
theorem dLa_law_510 : decode code 510 = .ok (.iadd, 1) := by decide +kernel
theorem dLa_law_511 : decode code 511 = .ok (.iaload, 1) := by decide +kernel
theorem dLa_law_512 : decode code 512 = .ok (.aload_n 0, 1) := by decide +kernel
theorem dLa_law_513 : decode code 513 = .ok (.iload 4, 2) := by decide +kernel
theorem dLa_law_515 : decode code 515 = .ok (.iconst 3, 1) := by decide +kernel
theorem dLa_law_516 : decode code 516 = .ok (.iadd, 1) := by decide +kernel
theorem dLa_law_517 : decode code 517 = .ok (.iaload, 1) := by decide +kernel
theorem dLa_law_518 : decode code 518 = .ok (.aload_n 0, 1) := by decide +kernel
theorem dLa_law_519 : decode code 519 = .ok (.iload 4, 2) := by decide +kernel
theorem dLa_law_521 : decode code 521 = .ok (.iconst 4, 1) := by decide +kernel
theorem dLa_law_522 : decode code 522 = .ok (.iadd, 1) := by decide +kernel
theorem dLa_law_523 : decode code 523 = .ok (.iaload, 1) := by decide +kernel
theorem dLa_law_524 : decode code 524 = .ok (.aload_n 3, 1) := by decide +kernel
theorem dLa_law_525 : decode code 525 = .ok (.invokestatic 88, 3) := by decide +kernel
theorem dLa_law_528 : decode code 528 = .ok (.istore 5, 2) := by decide +kernel
theorem dLa_law_530 : decode code 530 = .ok (.aload_n 2, 1) := by decide +kernel
theorem dLa_law_531 : decode code 531 = .ok (.aload_n 0, 1) := by decide +kernel
theorem dLa_law_532 : decode code 532 = .ok (.iload 4, 2) := by decide +kernel
theorem dLa_law_534 : decode code 534 = .ok (.iconst 1, 1) := by decide +kernel
theorem dLa_law_535 : decode code 535 = .ok (.iadd, 1) := by decide +kernel
theorem dLa_law_536 : decode code 536 = .ok (.iaload, 1) := by decide +kernel
theorem dLa_law_537 : decode code 537 = .ok (.aload_n 0, 1) := by decide +kernel
theorem dLa_law_538 : decode code 538 = .ok (.iload 4, 2) := by decide +kernel
theorem dLa_law_540 : decode code 540 = .ok (.iconst 2, 1) := by decide +kernel
theorem dLa_law_541 : decode code 541 = .ok (.iadd, 1) := by decide +kernel
theorem dLa_law_542 : decode code 542 = .ok (.iaload, 1) := by decide +kernel
theorem dLa_law_543 : decode code 543 = .ok (.aload_n 0, 1) := by decide +kernel
theorem dLa_law_544 : decode code 544 = .ok (.iload 4, 2) := by decide +kernel
theorem dLa_law_546 : decode code 546 = .ok (.iconst 3, 1) := by decide +kernel
theorem dLa_law_547 : decode code 547 = .ok (.iadd, 1) := by decide +kernel
theorem dLa_law_548 : decode code 548 = .ok (.iaload, 1) := by decide +kernel
theorem dLa_law_549 : decode code 549 = .ok (.aload_n 0, 1) := by decide +kernel
theorem dLa_law_550 : decode code 550 = .ok (.iload 4, 2) := by decide +kernel
theorem dLa_law_552 : decode code 552 = .ok (.iconst 4, 1) := by decide +kernel
theorem dLa_law_553 : decode code 553 = .ok (.iadd, 1) := by decide +kernel
theorem dLa_law_554 : decode code 554 = .ok (.iaload, 1) := by decide +kernel
theorem dLa_law_555 : decode code 555 = .ok (.invokevirtual 90, 3) := by decide +kernel
theorem dLa_law_558 : decode code 558 = .ok (.istore 6, 2) := by decide +kernel
theorem dLa_law_560 : decode code 560 = .ok (.aload_n 2, 1) := by decide +kernel
theorem dLa_law_561 : decode code 561 = .ok (.invokevirtual 65, 3) := by decide +kernel
theorem dLa_law_564 : decode code 564 = .ok (.iload 5, 2) := by decide +kernel
theorem dLa_law_566 : decode code 566 = .ok (.if_icmp .eq 5, 3) := by decide +kernel
theorem dLa_law_569 : decode code 569 = .ok (.iconst 0, 1) := by decide +kernel
theorem dLa_law_570 : decode code 570 = .ok (.ireturn, 1) := by decide +kernel
theorem dLa_law_571 : decode code 571 = .ok (.iload 5, 2) := by decide +kernel
theorem dLa_law_573 : decode code 573 = .ok (.ifCond .ne 15, 3) := by decide +kernel
theorem dLa_law_576 : decode code 576 = .ok (.aload_n 3, 1) := by decide +kernel
theorem dLa_law_577 : decode code 577 = .ok (.iconst 0, 1) := by decide +kernel
theorem dLa_law_578 : decode code 578 = .ok (.laload, 1) := by decide +kernel
theorem dLa_law_579 : decode code 579 = .ok (.iload 6, 2) := by decide +kernel
theorem dLa_law_581 : decode code 581 = .ok (.i2l, 1) := by decide +kernel
theorem dLa_law_582 : decode code 582 = .ok (.lcmp, 1) := by decide +kernel
theorem dLa_law_583 : decode code 583 = .ok (.ifCond .eq 5, 3) := by decide +kernel
theorem dLa_law_586 : decode code 586 = .ok (.iconst 0, 1) := by decide +kernel
theorem dLa_law_587 : decode code 587 = .ok (.ireturn, 1) := by decide +kernel
theorem dLa_law_588 : decode code 588 = .ok (.goto 296, 3) := by decide +kernel
theorem dLa_law_591 : decode code 591 = .ok (.aload_n 1, 1) := by decide +kernel
theorem dLa_law_592 : decode code 592 = .ok (.aload_n 0, 1) := by decide +kernel
theorem dLa_law_593 : decode code 593 = .ok (.iload 4, 2) := by decide +kernel
theorem dLa_law_595 : decode code 595 = .ok (.iconst 1, 1) := by decide +kernel
theorem dLa_law_596 : decode code 596 = .ok (.iadd, 1) := by decide +kernel
theorem dLa_law_597 : decode code 597 = .ok (.iaload, 1) := by decide +kernel
theorem dLa_law_598 : decode code 598 = .ok (.aload_n 3, 1) := by decide +kernel
theorem dLa_law_599 : decode code 599 = .ok (.invokestatic 91, 3) := by decide +kernel
theorem dLa_law_602 : decode code 602 = .ok (.istore 5, 2) := by decide +kernel
theorem dLa_law_604 : decode code 604 = .ok (.aload_n 2, 1) := by decide +kernel
theorem dLa_law_605 : decode code 605 = .ok (.aload_n 0, 1) := by decide +kernel
theorem dLa_law_606 : decode code 606 = .ok (.iload 4, 2) := by decide +kernel
theorem dLa_law_608 : decode code 608 = .ok (.iconst 1, 1) := by decide +kernel
theorem dLa_law_609 : decode code 609 = .ok (.iadd, 1) := by decide +kernel
theorem dLa_law_610 : decode code 610 = .ok (.iaload, 1) := by decide +kernel
theorem dLa_law_611 : decode code 611 = .ok (.invokevirtual 93, 3) := by decide +kernel
theorem dLa_law_614 : decode code 614 = .ok (.istore 6, 2) := by decide +kernel
theorem dLa_law_616 : decode code 616 = .ok (.aload_n 2, 1) := by decide +kernel
theorem dLa_law_617 : decode code 617 = .ok (.invokevirtual 65, 3) := by decide +kernel
theorem dLa_law_620 : decode code 620 = .ok (.iload 5, 2) := by decide +kernel
theorem dLa_law_622 : decode code 622 = .ok (.if_icmp .eq 5, 3) := by decide +kernel
theorem dLa_law_625 : decode code 625 = .ok (.iconst 0, 1) := by decide +kernel
theorem dLa_law_626 : decode code 626 = .ok (.ireturn, 1) := by decide +kernel
theorem dLa_law_627 : decode code 627 = .ok (.iload 5, 2) := by decide +kernel
theorem dLa_law_629 : decode code 629 = .ok (.ifCond .ne 15, 3) := by decide +kernel
theorem dLa_law_632 : decode code 632 = .ok (.aload_n 3, 1) := by decide +kernel
theorem dLa_law_633 : decode code 633 = .ok (.iconst 0, 1) := by decide +kernel
theorem dLa_law_634 : decode code 634 = .ok (.laload, 1) := by decide +kernel
theorem dLa_law_635 : decode code 635 = .ok (.iload 6, 2) := by decide +kernel
theorem dLa_law_637 : decode code 637 = .ok (.i2l, 1) := by decide +kernel
theorem dLa_law_638 : decode code 638 = .ok (.lcmp, 1) := by decide +kernel
theorem dLa_law_639 : decode code 639 = .ok (.ifCond .eq 5, 3) := by decide +kernel
theorem dLa_law_642 : decode code 642 = .ok (.iconst 0, 1) := by decide +kernel
theorem dLa_law_643 : decode code 643 = .ok (.ireturn, 1) := by decide +kernel
theorem dLa_law_644 : decode code 644 = .ok (.goto 240, 3) := by decide +kernel
theorem dLa_law_647 : decode code 647 = .ok (.aload_n 1, 1) := by decide +kernel
theorem dLa_law_648 : decode code 648 = .ok (.aload_n 0, 1) := by decide +kernel
theorem dLa_law_649 : decode code 649 = .ok (.iload 4, 2) := by decide +kernel
theorem dLa_law_651 : decode code 651 = .ok (.iconst 1, 1) := by decide +kernel
theorem dLa_law_652 : decode code 652 = .ok (.iadd, 1) := by decide +kernel
theorem dLa_law_653 : decode code 653 = .ok (.iaload, 1) := by decide +kernel
theorem dLa_law_654 : decode code 654 = .ok (.aload_n 3, 1) := by decide +kernel
theorem dLa_law_655 : decode code 655 = .ok (.invokestatic 94, 3) := by decide +kernel
theorem dLa_law_658 : decode code 658 = .ok (.istore 5, 2) := by decide +kernel
theorem dLa_law_660 : decode code 660 = .ok (.aload_n 2, 1) := by decide +kernel
theorem dLa_law_661 : decode code 661 = .ok (.aload_n 0, 1) := by decide +kernel
theorem dLa_law_662 : decode code 662 = .ok (.iload 4, 2) := by decide +kernel
theorem dLa_law_664 : decode code 664 = .ok (.iconst 1, 1) := by decide +kernel
theorem dLa_law_665 : decode code 665 = .ok (.iadd, 1) := by decide +kernel
theorem dLa_law_666 : decode code 666 = .ok (.iaload, 1) := by decide +kernel
theorem dLa_law_667 : decode code 667 = .ok (.invokevirtual 96, 3) := by decide +kernel
theorem dLa_law_670 : decode code 670 = .ok (.istore 6, 2) := by decide +kernel
theorem dLa_law_672 : decode code 672 = .ok (.aload_n 2, 1) := by decide +kernel
theorem dLa_law_673 : decode code 673 = .ok (.invokevirtual 65, 3) := by decide +kernel
theorem dLa_law_676 : decode code 676 = .ok (.iload 5, 2) := by decide +kernel
theorem dLa_law_678 : decode code 678 = .ok (.if_icmp .eq 5, 3) := by decide +kernel
theorem dLa_law_681 : decode code 681 = .ok (.iconst 0, 1) := by decide +kernel
theorem dLa_law_682 : decode code 682 = .ok (.ireturn, 1) := by decide +kernel
theorem dLa_law_683 : decode code 683 = .ok (.iload 5, 2) := by decide +kernel
theorem dLa_law_685 : decode code 685 = .ok (.ifCond .ne 15, 3) := by decide +kernel
theorem dLa_law_688 : decode code 688 = .ok (.aload_n 3, 1) := by decide +kernel
theorem dLa_law_689 : decode code 689 = .ok (.iconst 0, 1) := by decide +kernel
theorem dLa_law_690 : decode code 690 = .ok (.laload, 1) := by decide +kernel
theorem dLa_law_691 : decode code 691 = .ok (.iload 6, 2) := by decide +kernel
theorem dLa_law_693 : decode code 693 = .ok (.i2l, 1) := by decide +kernel
theorem dLa_law_694 : decode code 694 = .ok (.lcmp, 1) := by decide +kernel
theorem dLa_law_695 : decode code 695 = .ok (.ifCond .eq 5, 3) := by decide +kernel
theorem dLa_law_698 : decode code 698 = .ok (.iconst 0, 1) := by decide +kernel
theorem dLa_law_699 : decode code 699 = .ok (.ireturn, 1) := by decide +kernel
theorem dLa_law_700 : decode code 700 = .ok (.goto 184, 3) := by decide +kernel
theorem dLa_law_703 : decode code 703 = .ok (.aload_n 1, 1) := by decide +kernel
theorem dLa_law_704 : decode code 704 = .ok (.aload_n 0, 1) := by decide +kernel
theorem dLa_law_705 : decode code 705 = .ok (.iload 4, 2) := by decide +kernel
theorem dLa_law_707 : decode code 707 = .ok (.iconst 1, 1) := by decide +kernel
theorem dLa_law_708 : decode code 708 = .ok (.iadd, 1) := by decide +kernel
theorem dLa_law_709 : decode code 709 = .ok (.iaload, 1) := by decide +kernel
theorem dLa_law_710 : decode code 710 = .ok (.aload_n 3, 1) := by decide +kernel
theorem dLa_law_711 : decode code 711 = .ok (.invokestatic 97, 3) := by decide +kernel
theorem dLa_law_714 : decode code 714 = .ok (.istore 5, 2) := by decide +kernel
theorem dLa_law_716 : decode code 716 = .ok (.aload_n 2, 1) := by decide +kernel
theorem dLa_law_717 : decode code 717 = .ok (.aload_n 0, 1) := by decide +kernel
theorem dLa_law_718 : decode code 718 = .ok (.iload 4, 2) := by decide +kernel
theorem dLa_law_720 : decode code 720 = .ok (.iconst 1, 1) := by decide +kernel
theorem dLa_law_721 : decode code 721 = .ok (.iadd, 1) := by decide +kernel
theorem dLa_law_722 : decode code 722 = .ok (.iaload, 1) := by decide +kernel
theorem dLa_law_723 : decode code 723 = .ok (.invokevirtual 99, 3) := by decide +kernel
theorem dLa_law_726 : decode code 726 = .ok (.istore 6, 2) := by decide +kernel
theorem dLa_law_728 : decode code 728 = .ok (.aload_n 2, 1) := by decide +kernel
theorem dLa_law_729 : decode code 729 = .ok (.invokevirtual 65, 3) := by decide +kernel
theorem dLa_law_732 : decode code 732 = .ok (.iload 5, 2) := by decide +kernel
theorem dLa_law_734 : decode code 734 = .ok (.if_icmp .eq 5, 3) := by decide +kernel
theorem dLa_law_737 : decode code 737 = .ok (.iconst 0, 1) := by decide +kernel
theorem dLa_law_738 : decode code 738 = .ok (.ireturn, 1) := by decide +kernel
theorem dLa_law_739 : decode code 739 = .ok (.iload 5, 2) := by decide +kernel
theorem dLa_law_741 : decode code 741 = .ok (.ifCond .ne 15, 3) := by decide +kernel
theorem dLa_law_744 : decode code 744 = .ok (.aload_n 3, 1) := by decide +kernel
theorem dLa_law_745 : decode code 745 = .ok (.iconst 0, 1) := by decide +kernel
theorem dLa_law_746 : decode code 746 = .ok (.laload, 1) := by decide +kernel
theorem dLa_law_747 : decode code 747 = .ok (.iload 6, 2) := by decide +kernel
theorem dLa_law_749 : decode code 749 = .ok (.i2l, 1) := by decide +kernel
theorem dLa_law_750 : decode code 750 = .ok (.lcmp, 1) := by decide +kernel
theorem dLa_law_751 : decode code 751 = .ok (.ifCond .eq 5, 3) := by decide +kernel
theorem dLa_law_754 : decode code 754 = .ok (.iconst 0, 1) := by decide +kernel
theorem dLa_law_755 : decode code 755 = .ok (.ireturn, 1) := by decide +kernel
theorem dLa_law_756 : decode code 756 = .ok (.goto 128, 3) := by decide +kernel
theorem dLa_law_759 : decode code 759 = .ok (.aload_n 1, 1) := by decide +kernel
theorem dLa_law_760 : decode code 760 = .ok (.aload_n 3, 1) := by decide +kernel
theorem dLa_law_761 : decode code 761 = .ok (.invokestatic 100, 3) := by decide +kernel
theorem dLa_law_764 : decode code 764 = .ok (.istore 5, 2) := by decide +kernel
theorem dLa_law_766 : decode code 766 = .ok (.aload_n 2, 1) := by decide +kernel
theorem dLa_law_767 : decode code 767 = .ok (.invokevirtual 103, 3) := by decide +kernel
theorem dLa_law_770 : decode code 770 = .ok (.istore 6, 2) := by decide +kernel
theorem dLa_law_772 : decode code 772 = .ok (.aload_n 2, 1) := by decide +kernel
theorem dLa_law_773 : decode code 773 = .ok (.invokevirtual 65, 3) := by decide +kernel
theorem dLa_law_776 : decode code 776 = .ok (.iload 5, 2) := by decide +kernel
theorem dLa_law_778 : decode code 778 = .ok (.if_icmp .eq 5, 3) := by decide +kernel
theorem dLa_law_781 : decode code 781 = .ok (.iconst 0, 1) := by decide +kernel
theorem dLa_law_782 : decode code 782 = .ok (.ireturn, 1) := by decide +kernel
theorem dLa_law_783 : decode code 783 = .ok (.iload 5, 2) := by decide +kernel
theorem dLa_law_785 : decode code 785 = .ok (.ifCond .ne 15, 3) := by decide +kernel
theorem dLa_law_788 : decode code 788 = .ok (.aload_n 3, 1) := by decide +kernel
theorem dLa_law_789 : decode code 789 = .ok (.iconst 0, 1) := by decide +kernel
theorem dLa_law_790 : decode code 790 = .ok (.laload, 1) := by decide +kernel
theorem dLa_law_791 : decode code 791 = .ok (.iload 6, 2) := by decide +kernel
theorem dLa_law_793 : decode code 793 = .ok (.i2l, 1) := by decide +kernel
theorem dLa_law_794 : decode code 794 = .ok (.lcmp, 1) := by decide +kernel
theorem dLa_law_795 : decode code 795 = .ok (.ifCond .eq 5, 3) := by decide +kernel
theorem dLa_law_798 : decode code 798 = .ok (.iconst 0, 1) := by decide +kernel
theorem dLa_law_799 : decode code 799 = .ok (.ireturn, 1) := by decide +kernel
theorem dLa_law_800 : decode code 800 = .ok (.goto 84, 3) := by decide +kernel
theorem dLa_law_803 : decode code 803 = .ok (.aload_n 1, 1) := by decide +kernel
theorem dLa_law_804 : decode code 804 = .ok (.invokevirtual 104, 3) := by decide +kernel
theorem dLa_law_807 : decode code 807 = .ok (.aload_n 2, 1) := by decide +kernel
theorem dLa_law_808 : decode code 808 = .ok (.invokevirtual 107, 3) := by decide +kernel
theorem dLa_law_811 : decode code 811 = .ok (.if_icmp .eq 73, 3) := by decide +kernel
theorem dLa_law_814 : decode code 814 = .ok (.iconst 0, 1) := by decide +kernel
theorem dLa_law_815 : decode code 815 = .ok (.ireturn, 1) := by decide +kernel
theorem dLa_law_816 : decode code 816 = .ok (.aload_n 1, 1) := by decide +kernel
theorem dLa_law_817 : decode code 817 = .ok (.aload_n 0, 1) := by decide +kernel
theorem dLa_law_818 : decode code 818 = .ok (.iload 4, 2) := by decide +kernel
theorem dLa_law_820 : decode code 820 = .ok (.iconst 1, 1) := by decide +kernel
theorem dLa_law_821 : decode code 821 = .ok (.iadd, 1) := by decide +kernel
theorem dLa_law_822 : decode code 822 = .ok (.iaload, 1) := by decide +kernel
theorem dLa_law_823 : decode code 823 = .ok (.aload_n 0, 1) := by decide +kernel
theorem dLa_law_824 : decode code 824 = .ok (.iload 4, 2) := by decide +kernel
theorem dLa_law_826 : decode code 826 = .ok (.iconst 2, 1) := by decide +kernel
theorem dLa_law_827 : decode code 827 = .ok (.iadd, 1) := by decide +kernel
theorem dLa_law_828 : decode code 828 = .ok (.iaload, 1) := by decide +kernel
theorem dLa_law_829 : decode code 829 = .ok (.aload_n 3, 1) := by decide +kernel
theorem dLa_law_830 : decode code 830 = .ok (.invokestatic 108, 3) := by decide +kernel
theorem dLa_law_833 : decode code 833 = .ok (.istore 5, 2) := by decide +kernel
theorem dLa_law_835 : decode code 835 = .ok (.aload_n 2, 1) := by decide +kernel
theorem dLa_law_836 : decode code 836 = .ok (.aload_n 0, 1) := by decide +kernel
theorem dLa_law_837 : decode code 837 = .ok (.iload 4, 2) := by decide +kernel
theorem dLa_law_839 : decode code 839 = .ok (.iconst 1, 1) := by decide +kernel
theorem dLa_law_840 : decode code 840 = .ok (.iadd, 1) := by decide +kernel
theorem dLa_law_841 : decode code 841 = .ok (.iaload, 1) := by decide +kernel
theorem dLa_law_842 : decode code 842 = .ok (.aload_n 0, 1) := by decide +kernel
theorem dLa_law_843 : decode code 843 = .ok (.iload 4, 2) := by decide +kernel
theorem dLa_law_845 : decode code 845 = .ok (.iconst 2, 1) := by decide +kernel
theorem dLa_law_846 : decode code 846 = .ok (.iadd, 1) := by decide +kernel
theorem dLa_law_847 : decode code 847 = .ok (.iaload, 1) := by decide +kernel
theorem dLa_law_848 : decode code 848 = .ok (.invokevirtual 111, 3) := by decide +kernel
theorem dLa_law_851 : decode code 851 = .ok (.istore 6, 2) := by decide +kernel
theorem dLa_law_853 : decode code 853 = .ok (.aload_n 2, 1) := by decide +kernel
theorem dLa_law_854 : decode code 854 = .ok (.invokevirtual 65, 3) := by decide +kernel
theorem dLa_law_857 : decode code 857 = .ok (.iload 5, 2) := by decide +kernel
theorem dLa_law_859 : decode code 859 = .ok (.if_icmp .eq 5, 3) := by decide +kernel
theorem dLa_law_862 : decode code 862 = .ok (.iconst 0, 1) := by decide +kernel
theorem dLa_law_863 : decode code 863 = .ok (.ireturn, 1) := by decide +kernel
theorem dLa_law_864 : decode code 864 = .ok (.iload 5, 2) := by decide +kernel
theorem dLa_law_866 : decode code 866 = .ok (.ifCond .ne 15, 3) := by decide +kernel
theorem dLa_law_869 : decode code 869 = .ok (.aload_n 3, 1) := by decide +kernel
theorem dLa_law_870 : decode code 870 = .ok (.iconst 0, 1) := by decide +kernel
theorem dLa_law_871 : decode code 871 = .ok (.laload, 1) := by decide +kernel
theorem dLa_law_872 : decode code 872 = .ok (.iload 6, 2) := by decide +kernel
theorem dLa_law_874 : decode code 874 = .ok (.i2l, 1) := by decide +kernel
theorem dLa_law_875 : decode code 875 = .ok (.lcmp, 1) := by decide +kernel
theorem dLa_law_876 : decode code 876 = .ok (.ifCond .eq 5, 3) := by decide +kernel
theorem dLa_law_879 : decode code 879 = .ok (.iconst 0, 1) := by decide +kernel
theorem dLa_law_880 : decode code 880 = .ok (.ireturn, 1) := by decide +kernel
theorem dLa_law_881 : decode code 881 = .ok (.goto 3, 3) := by decide +kernel
theorem dLa_law_884 : decode code 884 = .ok (.iinc 4 6, 3) := by decide +kernel
theorem dLa_law_887 : decode code 887 = .ok (.goto (-864), 3) := by decide +kernel
theorem dLa_law_890 : decode code 890 = .ok (.iconst 1, 1) := by decide +kernel
theorem dLa_law_891 : decode code 891 = .ok (.ireturn, 1) := by decide +kernel
